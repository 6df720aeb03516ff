/-! THE LAW: the rest of the calls -/
def bo (v : Int) : Int := if v = 0 then 0 else 1
theorem bo_x {v x : Int} (h : (v = 0 ∧ x = 0) ∨ (¬ v = 0 ∧ x = 1)) : x = bo v := by
  unfold bo
  rcases h with ⟨a, b⟩ | ⟨a, b⟩
  · rw [if_pos a]; exact b
  · rw [if_neg a]; exact b
theorem bo_1 (v : Int) : bo v = 0 ∨ bo v = 1 := by
  unfold bo
  by_cases c : v = 0
  · rw [if_pos c]; exact Or.inl rfl
  · rw [if_neg c]; exact Or.inr rfl
theorem bo_r (v : Int) : im_i32 (bo v) := by
  have := bo_1 v
  constructor <;> omega
section LAWG
variable {g : im_g} {d : Nat} {e : im_E} {M : im_M} {K : im_K} {w : Wd} {p4 : Int}
theorem la_name (hL : LwI e M w) (hg : g.2 ≤ 384) (hp : 0 ≤ p4 ∧ p4 + 6 ≤ g.2) (hd : 130 ≤ d) (hN : LN g d e p4 K) : im_T g d 452 1422 (lwL p4) [] e M K := by
  obtain ⟨hC, hR, hI⟩ := hL
  have ref : ∀ (ex : im_E) (M3 : im_M) (x6 : Int), xcn ex ≤ 1 → RW M3 w → x6 = mcE w (scr g (p4 + 1)) (scr g (p4 + 2)) (scr g (p4 + 3)) → (x6 ≠ 0 → CW M3 (e ++ ex) w 0) → (x6 = 0 → CW M3 (e ++ ex) w 0 ∧ M3 7081 0 = nqL (if (bo (scr g (p4 + 4))) = 0 then (bkI (w.gIn (scr g (p4 + 1))) (scr g (p4 + 2))).2.1 (scr g (p4 + 3)) else (bkI (w.gIn (scr g (p4 + 1))) (scr g (p4 + 2))).2.2.1 (scr g (p4 + 3)))) → im_T g (d - 1) 355 0 [some (.ref 6952), some (vI (scr g (p4 + 1))), some (vI (scr g (p4 + 2))), some (vI (scr g (p4 + 3))), some (vI (bo (scr g (p4 + 4)))), none] [] (e ++ ex) M3 (RKl g d (e ++ ex) p4 K x6) := by
    intro ex M3 x6 hx R3 h6 hD hZ
    have no : ∀ M' : im_M, x6 ≠ 0 → (∀ x, x < 6952 ∨ 7080 < x → M' x = M3 x) → RW M' w → M' 6952 0 = x6 → RKl g d (e ++ ex) p4 K x6 (.inl (some (vL 0))) (e ++ ex) M' := fun M' hm f R' c => rk_l (by rw [h6]; exact (mE_r _ _ _ _)) c (fun z => absurd z hm) (hN ex M' w hx ⟨(hD hm).r f, R', hI⟩)
    have ys : ∀ M' : im_M, x6 = 0 → (∀ x, x < 6952 ∨ 7080 < x → M' x = M3 x) → RW M' w → M' 6952 0 = 0 → RKl g d (e ++ ex) p4 K x6 (.inl (some (vL (if (bo (scr g (p4 + 4))) = 0 then (bkI (w.gIn (scr g (p4 + 1))) (scr g (p4 + 2))).2.1 (scr g (p4 + 3)) else (bkI (w.gIn (scr g (p4 + 1))) (scr g (p4 + 2))).2.2.1 (scr g (p4 + 3)))))) (e ++ ex) M' := fun M' h0 f R' c => rk_l (by rw [h0]; decide) (c.trans h0.symm) (fun _ => o_7081 f (hZ h0).2) (hN ex M' _ hx ⟨(hZ h0).1.r f, R', hI⟩)
    exact c_R_name R3 (fun z => hI.b1 z) (scr_r _ _) (scr_r _ _) (scr_r _ _) (bo_r _) (by omega) (fun hm M' f R' c => no M' (fun z => hm (h6.symm.trans z)) f R' (c.trans h6.symm)) (fun hz q1 q2 q3 q4 M' f R' c => ys M' (h6.trans ((mE_z (mq_0 hz q1 q2 ⟨q1.1, q1.2, q3⟩)).trans (mq_0 hz q4 trivial trivial))) f R' c)
  refine w_law_1422 (by omega) ⟨by omega, ⟨by omega, by omega⟩, ⟨by omega, by omega⟩, ⟨by omega, by omega⟩, ⟨by omega, by omega⟩, fun x7 hx7 => ?_⟩
  obtain rfl := bo_x hx7
  refine w_name_0 (by omega) ?_
  exact c_P_name hC (scr_r _ _) (scr_r _ _) (scr_r _ _) (bo_r _) (fun z => hI.b1 z) (by omega) (fun hz => Or.inr ⟨_, rfl, (Or.inr (Or.inr rfl)), (fun z => absurd z (by decide)), (fun z => absurd z (by decide)), (fun _ => ⟨3, rfl, [im_ex], rfl, fun x16 hx16 => by rw [bo_x hx16]; exact ref [im_ex] M 3 xcn_1 hR (mE_m (mq_d hz) (by decide)).symm (fun _ => hC.app) (fun z => absurd z (by decide))⟩)⟩) (fun hz q => Or.inr ⟨_, rfl, (Or.inl rfl), (fun _ => ⟨1, rfl, [im_ex], rfl, fun x16 hx16 => by rw [bo_x hx16]; exact ref [im_ex] M 1 xcn_1 hR (mE_m (mq_1 hz q) (by decide)).symm (fun _ => hC.app) (fun z => absurd z (by decide))⟩), (fun z => absurd z (by decide)), (fun z => absurd z (by decide))⟩) (fun hz q1 q2 => Or.inr ⟨_, rfl, (Or.inr (Or.inl rfl)), (fun z => absurd z (by decide)), (fun _ => ⟨2, rfl, [im_ex], rfl, fun x16 hx16 => by rw [bo_x hx16]; exact ref [im_ex] M 2 xcn_1 hR (mE_m (mq_2 hz q1 q2) (by decide)).symm (fun _ => hC.app) (fun z => absurd z (by decide))⟩), (fun z => absurd z (by decide))⟩) (fun hz q1 q2 q3 => Or.inr ⟨_, rfl, (Or.inr (Or.inr rfl)), (fun z => absurd z (by decide)), (fun z => absurd z (by decide)), (fun _ => ⟨3, rfl, [im_ex], rfl, fun x16 hx16 => by rw [bo_x hx16]; exact ref [im_ex] M 3 xcn_1 hR (mE_m (mq_3 hz q1 q2 (fun z => by have := z.2.2; omega)) (by decide)).symm (fun _ => hC.app) (fun z => absurd z (by decide))⟩)⟩) (fun hz q1 q2 q3 q4 => Or.inr ⟨_, rfl, (Or.inl rfl), (fun _ => ⟨1, rfl, [im_ex], rfl, fun x16 hx16 => by rw [bo_x hx16]; exact ref [im_ex] M 1 xcn_1 hR ((mE_z (mq_0 hz q1 q2 ⟨q1.1, q1.2, q3⟩)).trans (mq_1 hz q4)).symm (fun _ => hC.app) (fun z => absurd z (by decide))⟩), (fun z => absurd z (by decide)), (fun z => absurd z (by decide))⟩) (fun hz q1 q2 q3 q4 => Or.inl ⟨nqL (if (bo (scr g (p4 + 4))) = 0 then (bkI (w.gIn (scr g (p4 + 1))) (scr g (p4 + 2))).2.1 (scr g (p4 + 3)) else (bkI (w.gIn (scr g (p4 + 1))) (scr g (p4 + 2))).2.2.1 (scr g (p4 + 3))), by rw [← nqL_v], rfl, nqL_r _, 0, rfl, [], (List.append_nil e).symm, fun x16 hx16 => by rw [bo_x hx16]; exact ref [] (im_u M 7081 0 (nqL (if (bo (scr g (p4 + 4))) = 0 then (bkI (w.gIn (scr g (p4 + 1))) (scr g (p4 + 2))).2.1 (scr g (p4 + 3)) else (bkI (w.gIn (scr g (p4 + 1))) (scr g (p4 + 2))).2.2.1 (scr g (p4 + 3))))) 0 xcn_0 (hR.o (fun _ _ => rfl)) ((mE_z (mq_0 hz q1 q2 ⟨q1.1, q1.2, q3⟩)).trans (mq_0 hz q4 trivial trivial)).symm (fun z => absurd rfl z) (fun _ => ⟨by rw [List.append_nil]; exact hC.o, im_rds _ _ _ _⟩)⟩)
theorem la_amount (hL : LwI e M w) (hg : g.2 ≤ 384) (hp : 0 ≤ p4 ∧ p4 + 6 ≤ g.2) (hd : 130 ≤ d) (hN : LN g d e p4 K) : im_T g d 452 1652 (lwL p4) [] e M K := by
  obtain ⟨hC, hR, hI⟩ := hL
  have ref : ∀ (ex : im_E) (M3 : im_M) (x6 : Int), xcn ex ≤ 1 → RW M3 w → x6 = mco 2 w.gJr.2.2.2.2 (0 ≤ (scr g (p4 + 1)) ∧ (scr g (p4 + 1)) < (if (bo (scr g (p4 + 2))) = 0 then w.gPy else w.gWr).1) True True → (x6 ≠ 0 → CW M3 (e ++ ex) w 0) → (x6 = 0 → CW M3 (e ++ ex) (ouW w (if (bo (scr g (p4 + 2))) ≠ 0 ∧ w.gWr.2.1 (scr g (p4 + 1)) = 5 then [] else nuL ((if (bo (scr g (p4 + 2))) = 0 then w.gPy else w.gWr).2.2.2.2.2 (scr g (p4 + 1))))) 0 ∧ M3 7081 0 = nqI ((if (bo (scr g (p4 + 2))) ≠ 0 ∧ w.gWr.2.1 (scr g (p4 + 1)) = 5 then [] else nuL ((if (bo (scr g (p4 + 2))) = 0 then w.gPy else w.gWr).2.2.2.2.2 (scr g (p4 + 1)))).length : Int)) → im_T g (d - 1) 419 0 [some (.ref 6952), some (vI (scr g (p4 + 1))), some (vI (bo (scr g (p4 + 2))))] [] (e ++ ex) M3 (RKi g d (e ++ ex) p4 K x6) := by
    intro ex M3 x6 hx R3 h6 hD hZ
    have no : ∀ M' : im_M, x6 ≠ 0 → (∀ x, x < 6952 ∨ 7080 < x → M' x = M3 x) → RW M' w → M' 6952 0 = x6 → RKi g d (e ++ ex) p4 K x6 (.inl (some (vI 0))) (e ++ ex) M' := fun M' hm f R' c => rk_i (by rw [h6]; exact (mq_r (by decide))) c (fun z => absurd z hm) (hN ex M' w hx ⟨(hD hm).r f, R', hI⟩)
    have ys : ∀ M' : im_M, x6 = 0 → (∀ x, x < 6952 ∨ 7080 < x → M' x = M3 x) → RW M' (ouW w (if (bo (scr g (p4 + 2))) ≠ 0 ∧ w.gWr.2.1 (scr g (p4 + 1)) = 5 then [] else nuL ((if (bo (scr g (p4 + 2))) = 0 then w.gPy else w.gWr).2.2.2.2.2 (scr g (p4 + 1))))) → M' 6952 0 = 0 → RKi g d (e ++ ex) p4 K x6 (.inl (some (vI ((if (bo (scr g (p4 + 2))) ≠ 0 ∧ w.gWr.2.1 (scr g (p4 + 1)) = 5 then [] else nuL ((if (bo (scr g (p4 + 2))) = 0 then w.gPy else w.gWr).2.2.2.2.2 (scr g (p4 + 1)))).length : Int)))) (e ++ ex) M' := fun M' h0 f R' c => rk_i (by rw [h0]; decide) (c.trans h0.symm) (fun _ => o_7081 f (hZ h0).2) (hN ex M' _ hx ⟨(hZ h0).1.r f, R', WI_ou hI⟩)
    exact c_R_amount R3 hI.de hI.2.2.2.2.2.2.1 hI.2.2.2.2.2.2.2 (scr_r _ _) (bo_r _) (by omega) (fun hm M' f R' c => no M' (fun z => hm (h6.symm.trans z)) f R' (c.trans h6.symm)) (fun hz q M' L f hL R' c => by subst hL; exact ys M' (h6.trans (mq_0 hz q trivial trivial)) f R' c)
  refine w_law_1652 (by omega) ⟨by omega, ⟨by omega, by omega⟩, ⟨by omega, by omega⟩, fun x7 hx7 => ?_⟩
  obtain rfl := bo_x hx7
  refine w_amount_0 (by omega) ?_
  exact c_P_amount hC (scr_r _ _) (bo_r _) (by omega) (fun hz => Or.inr ⟨_, rfl, (Or.inr rfl), (fun z => absurd z (by decide)), (fun _ => ⟨2, rfl, [im_ex], rfl, fun x16 hx16 => by rw [bo_x hx16]; exact ref [im_ex] M 2 xcn_1 hR (mq_d hz).symm (fun _ => hC.app) (fun z => absurd z (by decide))⟩)⟩) (fun hz q => Or.inr ⟨_, rfl, (Or.inl rfl), (fun _ => ⟨1, rfl, [im_ex], rfl, fun x16 hx16 => by rw [bo_x hx16]; exact ref [im_ex] M 1 xcn_1 hR (mq_1 hz q).symm (fun _ => hC.app) (fun z => absurd z (by decide))⟩), (fun z => absurd z (by decide))⟩) (fun hz q M' L f hL C' => by subst hL; exact Or.inl ⟨nqI ((if (bo (scr g (p4 + 2))) ≠ 0 ∧ w.gWr.2.1 (scr g (p4 + 1)) = 5 then [] else nuL ((if (bo (scr g (p4 + 2))) = 0 then w.gPy else w.gWr).2.2.2.2.2 (scr g (p4 + 1)))).length : Int), by rw [← nqI_v], rfl, nqI_r _, 0, rfl, [], (List.append_nil e).symm, fun x16 hx16 => by rw [bo_x hx16]; exact ref [] (im_u M' 7081 0 (nqI ((if (bo (scr g (p4 + 2))) ≠ 0 ∧ w.gWr.2.1 (scr g (p4 + 1)) = 5 then [] else nuL ((if (bo (scr g (p4 + 2))) = 0 then w.gPy else w.gWr).2.2.2.2.2 (scr g (p4 + 1)))).length : Int))) 0 xcn_0 (hR.o f) (mq_0 hz q trivial trivial).symm (fun z => absurd rfl z) (fun _ => ⟨by rw [List.append_nil]; exact C'.o, im_rds _ _ _ _⟩)⟩) hI.2.2.2.2.2.2.1
theorem la_fuse (hL : LwI e M w) (hg : g.2 ≤ 384) (hp : 0 ≤ p4 ∧ p4 + 6 ≤ g.2) (hd : 130 ≤ d) (hN : LN g d e p4 K) : im_T g d 452 2363 (lwL p4) [] e M K := by
  obtain ⟨hC, hR, hI⟩ := hL
  have ref : ∀ (ex : im_E) (M3 : im_M) (x6 : Int), xcn ex ≤ 1 → RW M3 w → x6 = mco 2 w.gJr.2.2.2.2 (-1 ≤ (scr g (p4 + 1))) True True → (x6 ≠ 0 → CW M3 (e ++ ex) w 0) → (x6 = 0 → CW M3 (e ++ ex) (fuW w (scr g (p4 + 1))) 0) → im_T g (d - 1) 440 0 [some (.ref 6952), some (vI (scr g (p4 + 1)))] [] (e ++ ex) M3 (RKv g d (e ++ ex) p4 K x6) := by
    intro ex M3 x6 hx R3 h6 hD hZ
    refine c_R_fuse R3 (scr_r _ _) (by omega) (fun M' f R' h => ?_) (fun hz q M' f R' c => ?_)
    · rcases h with ⟨hz, c⟩ | ⟨hz, q, c⟩
      · have h1 := h6.trans (mq_d hz)
        exact rk_v (by omega) (by omega) (hN ex M' w hx ⟨(hD (by omega)).r f, R', hI⟩)
      · have h1 := h6.trans (mq_1 hz (by omega))
        exact rk_v (by omega) (by omega) (hN ex M' w hx ⟨(hD (by omega)).r f, R', hI⟩)
    · have h1 := h6.trans (mq_0 hz q trivial trivial)
      exact rk_v (by omega) (by omega) (hN ex M' _ hx ⟨(hZ h1).r f, R', WI_fu hI ⟨q, (scr_r _ _).2⟩⟩)
  refine w_law_2363 (by omega) ⟨by omega, ⟨by omega, by omega⟩, w_fuse_0 (by omega) ?_⟩
  exact c_P_fuse hC (scr_r _ _) (by omega) (fun hz => Or.inr ⟨_, rfl, (Or.inr rfl), (fun z => absurd z (by decide)), (fun _ => ⟨2, rfl, [im_ex], rfl, ref [im_ex] M 2 xcn_1 hR (mq_d hz).symm (fun _ => hC.app) (fun z => absurd z (by decide))⟩)⟩) (fun hz q => Or.inr ⟨_, rfl, (Or.inl rfl), (fun _ => ⟨1, rfl, [im_ex], rfl, ref [im_ex] M 1 xcn_1 hR (mq_1 hz (by omega)).symm (fun _ => hC.app) (fun z => absurd z (by decide))⟩), (fun z => absurd z (by decide))⟩) (fun hz q M' f C' => Or.inl ⟨rfl, rfl, 0, rfl, [], (List.append_nil e).symm, ref [] M' 0 xcn_0 (hR.n f) (mq_0 hz q trivial trivial).symm (fun z => absurd rfl z) (fun _ => by rw [List.append_nil]; exact C')⟩)
theorem la_cut (hL : LwI e M w) (hg : g.2 ≤ 384) (hp : 0 ≤ p4 ∧ p4 + 6 ≤ g.2) (hd : 130 ≤ d) (hN : LN g d e p4 K) : im_T g d 452 2523 (lwL p4) [] e M K := by
  obtain ⟨hC, hR, hI⟩ := hL
  have ref : ∀ (ex : im_E) (M3 : im_M) (x6 : Int), xcn ex ≤ 1 → RW M3 w → x6 = mco 1 w.gJr.2.2.2.2 True True True → (x6 ≠ 0 → CW M3 (e ++ ex) w 0) → (x6 = 0 → CW M3 (e ++ ex) (cuW w) 0) → im_T g (d - 1) 443 0 [some (.ref 6952)] [] (e ++ ex) M3 (RKv g d (e ++ ex) p4 K x6) := by
    intro ex M3 x6 hx R3 h6 hD hZ
    refine c_R_cut R3 (by omega) (fun hz M' f R' c => ?_) (fun hz M' f R' c => ?_)
    · have h1 := h6.trans (mq_d hz)
      exact rk_v (by omega) (by omega) (hN ex M' w hx ⟨(hD (by omega)).r f, R', hI⟩)
    · have h1 := h6.trans (mq_0 hz trivial trivial trivial)
      exact rk_v (by omega) (by omega) (hN ex M' _ hx ⟨(hZ h1).r f, R', WI_cu hI⟩)
  refine w_law_2523 (by omega) (w_cut_0 (by omega) ?_)
  exact c_P_cut hC (by omega) (fun hz => Or.inr ⟨_, rfl, rfl, (fun _ => ⟨1, rfl, [im_ex], rfl, ref [im_ex] M 1 xcn_1 hR (mq_d hz).symm (fun _ => hC.app) (fun z => absurd z (by decide))⟩)⟩) (fun hz M' f C' => Or.inl ⟨rfl, rfl, 0, rfl, [], (List.append_nil e).symm, ref [] M' 0 xcn_0 (hR.n f) (mq_0 hz trivial trivial trivial).symm (fun z => absurd rfl z) (fun _ => by rw [List.append_nil]; exact C')⟩)
theorem LN.nil (hN : LN g d e p4 K) {M' : im_M} {w' : Wd} (h : LwI e M' w') : im_T g d 452 23 (lwL (p4 + 6)) [] e M' K := by
  have := hN [] M' w' xcn_0 (by rw [List.append_nil]; exact h)
  rw [List.append_nil] at this
  exact this
theorem la_fault (hL : LwI e M w) (hg : g.2 ≤ 384) (hp : 0 ≤ p4 ∧ p4 + 6 ≤ g.2) (hd : 130 ≤ d) (hN : LN g d e p4 K) : im_T g d 452 555 (lwL p4) [] e M K := by
  obtain ⟨hC, hR, hI⟩ := hL
  refine w_law_555 (by omega) ⟨by omega, ⟨by omega, by omega⟩, fun x4 h4 => ?_⟩
  obtain rfl := bo_x h4
  refine c_P_fault hC (bo_r _) ⟨nqI _, by rw [← nqI_v], rfl, fun x13 h13 => ?_⟩
  rw [bo_x h13]
  exact c_R_fault hR (bo_r _) (fun M' f R' c => ⟨nqI _, by rw [← nqI_v], rfl, nqI_r _, nqI_r _, fun _ => hN.nil ⟨hC.r f, R', hI⟩, fun q => absurd rfl q⟩)
theorem la_recover (hL : LwI e M w) (hg : g.2 ≤ 384) (hp : 0 ≤ p4 ∧ p4 + 6 ≤ g.2) (hd : 130 ≤ d) (hN : LN g d e p4 K) : im_T g d 452 2547 (lwL p4) [] e M K := by
  obtain ⟨hC, hR, hI⟩ := hL
  have hw := WR_rw hI hC.byt
  refine w_law_2547 (by omega) (c_P_recover hC WR_S hw (by omega) (fun f wE M' hre fr C' => ⟨nqI wE.gJr.2.2.1, by rw [← nqI_v], rfl, ?_⟩))
  exact c_R_recover (hR.n fr) WR_S (fun w h => WR_R h) hw hre (by omega) (fun M'' f' R' => ⟨nqI wE.gJr.2.2.1, by rw [← nqI_v], rfl, nqI_r _, nqI_r _, fun _ => hN.nil ⟨C'.r f', R', WI_ff (reS_w f hw hre)⟩, fun q => absurd rfl q⟩)
theorem la_look (hL : LwI e M w) (hg : g.2 ≤ 384) (hp : 0 ≤ p4 ∧ p4 + 6 ≤ g.2) (hd : 130 ≤ d) (hN : LN g d e p4 K) : im_T g d 452 2211 (lwL p4) [] e M K := by
  obtain ⟨hC, hR, hI⟩ := hL
  obtain ⟨k, hk⟩ : ∃ k, k = (scr g (p4 + 1)) := ⟨_, rfl⟩
  obtain ⟨fr, hfr⟩ : ∃ fr, fr = bo (scr g (p4 + 2)) := ⟨_, rfl⟩
  obtain ⟨mask, hmask⟩ : ∃ mask, mask = (scr g (p4 + 3)) := ⟨_, rfl⟩
  obtain ⟨fuel, hfuel⟩ : ∃ fuel, fuel = (scr g (p4 + 4)) := ⟨_, rfl⟩
  have ik : im_i32 k := by rw [hk]; exact scr_r _ _
  have im' : im_i32 mask := by rw [hmask]; exact scr_r _ _
  have iu : im_i32 fuel := by rw [hfuel]; exact scr_r _ _
  have f01 : fr = 0 ∨ fr = 1 := by rw [hfr]; exact bo_1 _
  obtain ⟨e0, he0⟩ : ∃ e0, lkC w k fr → (¬ fr = 0 → ¬ lks' w.gRw (w.gRt k) (eN w.gRw w.gM (w.gRt k)) w.gPm) → lkH w k fr e0 := by
    by_cases c : lkC w k fr ∧ (¬ fr = 0 → ¬ lks' w.gRw (w.gRt k) (eN w.gRw w.gM (w.gRt k)) w.gPm)
    · obtain ⟨e0, h⟩ := hI.2.lk c.1 (fun _ => hC.ac ⟨c.1.1.1, by have := c.1.1.2; omega⟩) c.2
      exact ⟨e0, fun _ _ => h⟩
    · exact ⟨0, fun a b => absurd ⟨a, b⟩ c⟩
  have ref : ∀ (ex : im_E) (M3 : im_M) (x6 : Int) (o : Int × Int × (Nat → Pe) × Nat), xcn ex ≤ 1 → RW M3 w → x6 = mco 3 w.gJr.2.2.2.2 (lkA k) (lkB mask fuel) (lkC w k fr) → (x6 ≠ 0 → CW M3 (e ++ ex) w 0) → (x6 = 0 → lks' w.gRw (w.gRt k) (eN w.gRw w.gM (w.gRt k)) w.gPm → ¬ fr = 0 → CW M3 (e ++ ex) w 0 ∧ M3 7081 0 = nqI (-11)) → (x6 = 0 → (¬ fr = 0 → ¬ lks' w.gRw (w.gRt k) (eN w.gRw w.gM (w.gRt k)) w.gPm) → CW M3 (e ++ ex) (lkW w o) 0 ∧ M3 7081 0 = nqI o.1 ∧ srS w.gRw (lkG w k fr) mask fuel 803 0 [(lkL w k fr, ofs w.gRw (lkG w k fr) (lkL w k fr))] (fun _ => (0, 0, 0, 0, 0, 0)) o) → im_T g (d - 1) 428 0 [some (.ref 6952), some (vI k), some (vI fr), some (vI mask), some (vI fuel), none, none] [] (e ++ ex) M3 (RKi g d (e ++ ex) p4 K x6) := by
    intro ex M3 x6 o hx R3 h6 hD hU hZ
    refine c_R_look (e0 := e0) (N := 803) (P := fun _ => (0, 0, 0, 0, 0, 0)) (o := o) R3 hI.W hI.de hI.nm ik f01 im' iu (fun z => hI.b1 z) (fun z => hI.rt _ z.1 z.2) (fun _ z => ends_ex _ z) he0 (fun hz a b c q => (hZ (h6.trans (mq_0 hz a b c)) q).2.2) (by omega) (fun hm M' f R' c => ?_) (fun hz a b c q1 q2 M' f R' c0 => ?_) (fun hz a b c q M' f R' c0 => ?_)
    · exact rk_i (by rw [h6]; exact mq_r (by decide)) (c.trans h6.symm) (fun z => absurd (h6.symm.trans z) hm) (hN ex M' w hx ⟨(hD (fun z => hm (h6.symm.trans z))).r f, R', hI⟩)
    · have h1 := h6.trans (mq_0 hz a b c)
      obtain ⟨C3, h7⟩ := hU h1 q2 q1
      exact rk_i (by omega) (c0.trans h1.symm) (fun _ => o_7081 f h7) (hN ex M' w hx ⟨C3.r f, R', hI⟩)
    · have h1 := h6.trans (mq_0 hz a b c)
      obtain ⟨C3, h7, _⟩ := hZ h1 q
      exact rk_i (by omega) (c0.trans h1.symm) (fun _ => o_7081 f h7) (hN ex M' _ hx ⟨C3.r f, R', WI_lk hI⟩)
  refine w_law_2211 (by omega) ⟨by omega, ⟨by omega, by omega⟩, ⟨by omega, by omega⟩, fun x5 hx5 => ⟨⟨by omega, by omega⟩, ⟨by omega, by omega⟩, ?_⟩⟩
  obtain rfl := bo_x hx5
  rw [← hfr, ← hk, ← hmask, ← hfuel]
  refine w_look_0 (by omega) ?_
  have o0 : Int × Int × (Nat → Pe) × Nat := (0, 0, fun _ => (0, 0, 0, 0, 0, 0), 0)
  exact c_P_look (e0 := e0) hC hI.W hI.nm ik f01 im' iu (fun z => hI.b1 z) (fun z => hI.rt _ z.1 z.2) he0 (by omega)
    (fun hz => Or.inr ⟨_, rfl, (Or.inr (Or.inr rfl)), (fun z => absurd z (by decide)), (fun z => absurd z (by decide)), (fun _ => ⟨3, rfl, [im_ex], rfl, fun x16 hx16 => by rw [bo_x hx16, ← hfr]; exact ref [im_ex] M 3 o0 xcn_1 hR (mq_d hz).symm (fun _ => hC.app) (fun z => absurd z (by decide)) (fun z => absurd z (by decide))⟩)⟩)
    (fun hz q => Or.inr ⟨_, rfl, (Or.inl rfl), (fun _ => ⟨1, rfl, [im_ex], rfl, fun x16 hx16 => by rw [bo_x hx16, ← hfr]; exact ref [im_ex] M 1 o0 xcn_1 hR (mq_1 hz q).symm (fun _ => hC.app) (fun z => absurd z (by decide)) (fun z => absurd z (by decide))⟩), (fun z => absurd z (by decide)), (fun z => absurd z (by decide))⟩)
    (fun hz q1 q2 => Or.inr ⟨_, rfl, (Or.inr (Or.inl rfl)), (fun z => absurd z (by decide)), (fun _ => ⟨2, rfl, [im_ex], rfl, fun x16 hx16 => by rw [bo_x hx16, ← hfr]; exact ref [im_ex] M 2 o0 xcn_1 hR (mq_2 hz q1 q2).symm (fun _ => hC.app) (fun z => absurd z (by decide)) (fun z => absurd z (by decide))⟩), (fun z => absurd z (by decide))⟩)
    (fun hz q1 q2 q3 => Or.inr ⟨_, rfl, (Or.inr (Or.inr rfl)), (fun z => absurd z (by decide)), (fun z => absurd z (by decide)), (fun _ => ⟨3, rfl, [im_ex], rfl, fun x16 hx16 => by rw [bo_x hx16, ← hfr]; exact ref [im_ex] M 3 o0 xcn_1 hR (mq_3 hz q1 q2 q3).symm (fun _ => hC.app) (fun z => absurd z (by decide)) (fun z => absurd z (by decide))⟩)⟩)
    (fun hz q1 q2 q3 q4 q5 => Or.inl ⟨nqI (-11), by rw [← nqI_v], [], (List.append_nil e).symm, nqI_r _, 0, rfl, [], rfl, fun x16 hx16 => by
      rw [bo_x hx16, ← hfr]
      exact ref [] (im_u M 7081 0 (nqI (-11))) 0 o0 xcn_0 (hR.o (fun _ _ => rfl)) (mq_0 hz q1 q2 q3).symm (fun z => absurd rfl z) (fun _ _ _ => ⟨by rw [List.append_nil]; exact hC.o, im_rds _ _ _ _⟩) (fun _ z => absurd q5 (z q4))⟩)
    (fun hz q1 q2 q3 q4 o ho ex M' hx f C' => Or.inl ⟨nqI o.1, by rw [← nqI_v], ex, rfl, nqI_r _, 0, rfl, ex, rfl, fun x16 hx16 => by
      rw [bo_x hx16, ← hfr]
      exact ref ex (im_u M' 7081 0 (nqI o.1)) 0 o (by omega) (hR.o' f) (mq_0 hz q1 q2 q3).symm (fun z => absurd rfl z) (fun _ z1 z2 => absurd z1 (q4 z2)) (fun _ _ => ⟨C'.o, im_rds _ _ _ _, ho⟩)⟩)
end LAWG
