/-! THE REFERENCE recovers: a record -/
theorem redo_x {σ : Sg} {w : Wd} {k a b c : Int} {t : Int → Int} {n : Int} (hk : 1 ≤ k ∧ k ≤ 8) : redoO σ w k a b c t n = redoO σ w k (if 0 < xrec k then a else 0) (if 1 < xrec k then b else 0) (if 2 < xrec k then c else 0) t n := by
  have r1 : ∀ a b c, redoO σ w 1 a b c t n = keO w 1 a t n σ.1 := fun a b c => by unfold redoO; rw [if_pos rfl]
  have r2 : ∀ a b c, redoO σ w 2 a b c t n = drO w 1 a := fun a b c => by unfold redoO; rw [if_neg (by decide), if_pos rfl]
  have r4 : ∀ a b c, redoO σ w 4 a b c t n = enO w 1 a := fun a b c => by unfold redoO; rw [if_neg (by decide), if_neg (by decide), if_neg (by decide), if_pos rfl]
  have r5 : ∀ a b c, redoO σ w 5 a b c t n = miO w 1 a b t n := fun a b c => by unfold redoO; rw [if_neg (by decide), if_neg (by decide), if_neg (by decide), if_neg (by decide), if_pos rfl]
  have r7 : ∀ a b c, redoO σ w 7 a b c t n = paO w 1 a t n := fun a b c => by unfold redoO; rw [if_neg (by decide), if_neg (by decide), if_neg (by decide), if_neg (by decide), if_neg (by decide), if_neg (by decide), if_pos rfl]
  have r8 : ∀ a b c, redoO σ w 8 a b c t n = fgO w 1 := fun a b c => by unfold redoO; rw [if_neg (by decide), if_neg (by decide), if_neg (by decide), if_neg (by decide), if_neg (by decide), if_neg (by decide), if_neg (by decide)]
  have hc : k = 1 ∨ k = 2 ∨ k = 3 ∨ k = 4 ∨ k = 5 ∨ k = 6 ∨ k = 7 ∨ k = 8 := by omega
  rcases hc with z | z | z | z | z | z | z | z <;> subst z
  · rw [r1, r1, if_pos (show 0 < xrec 1 by decide)]
  · rw [r2, r2, if_pos (show 0 < xrec 2 by decide)]
  · rw [if_pos (show 0 < xrec 3 by decide), if_pos (show 1 < xrec 3 by decide), if_pos (show 2 < xrec 3 by decide)]
  · rw [r4, r4, if_pos (show 0 < xrec 4 by decide)]
  · rw [r5, r5, if_pos (show 0 < xrec 5 by decide), if_pos (show 1 < xrec 5 by decide)]
  · rw [if_pos (show 0 < xrec 6 by decide), if_pos (show 1 < xrec 6 by decide), if_pos (show 2 < xrec 6 by decide)]
  · rw [r7, r7, if_pos (show 0 < xrec 7 by decide)]
  · rw [r8, r8]
theorem RW.tx0 {M M' : im_M} {w : Wd} (h : RW M w) (h0 : w.gTn = 0) (hs : ∀ x, x ≠ 6952 → x ≠ 6959 → M' x = M x) (hf : ∀ k, k ≠ 13 → M' 6952 k = M 6952 k) : RW M' w := by
  have := h.tape (t := w.gTp) (n := w.gTn) hs (fun k hk => hf k hk.2) ⟨(hf 2 (by decide)).trans h.1.1.1, fun i a b => by omega, by omega, by omega⟩
  rw [Wd.tpn] at this
  exact this
section RREC
variable {g : im_g} {d : Nat} {e : im_E} {K : im_K} {w : Wd}
theorem l_rr {σ : Sg} {M0 : im_M} (hQ : RcQ w) (hR : RcR w) (hI : isRw w) (hJ : (rdO σ w).2.gJr = w.gJr) (hd : 22 ≤ d)
    (hKn : (rdO σ w).1 < 0 → ∀ M', (∀ y, y < 6952 ∨ 7080 < y → M' y = M0 y) → RW M' (rdO σ w).2 → K (.inl (some (vI 0))) e M')
    (hKy : 0 ≤ (rdO σ w).1 → ∀ M', (∀ y, y < 6952 ∨ 7080 < y → M' y = M0 y) → RW M' (psW (rdO σ w).2 (szW w)) → K (.inl (some (vI 1))) e M') : ∀ (j k : Nat) (M : im_M), (k : Int) + j = rtN w.gJr.1 w.gJr.2.1 → RW M w → M 6952 13 = rtN w.gJr.1 w.gJr.2.1 → (∀ i : Int, 0 ≤ i → i < (k : Int) → M 6959 i = rtT w.gJr.1 w.gJr.2.1 i) → (∀ y, y < 6952 ∨ 7080 < y → M y = M0 y) → im_T g d 445 71 [some (.ref 6952), some (vI (szR w.gJr.1 w.gJr.2.1)), some (vI (knR w.gJr.1 w.gJr.2.1)), some (vI (xrec (knR w.gJr.1 w.gJr.2.1))), some (vI k), none, none, none, none, none] [] e M K := by
  obtain ⟨⟨q1, q2, q3⟩, ⟨q4, q5, q6⟩, q7, _, q11, q12⟩ := id hQ
  obtain ⟨b0, b3, bn, b7, bp⟩ := isR_b hI
  have hle : w.gJr.2.1 + szR w.gJr.1 w.gJr.2.1 ≤ 16384 := hI.2.1
  have hkk : 1 ≤ knR w.gJr.1 w.gJr.2.1 ∧ knR w.gJr.1 w.gJr.2.1 ≤ 8 := hI.1
  have hu := q1.1
  have hrn : rtN w.gJr.1 w.gJr.2.1 = szR w.gJr.1 w.gJr.2.1 - 7 - 8 * xrec (knR w.gJr.1 w.gJr.2.1) := rfl
  have fin : ∀ (M : im_M) (a b c : Int), RW M w → rtx M (rtT w.gJr.1 w.gJr.2.1) (rtN w.gJr.1 w.gJr.2.1) → (∀ y, y < 6952 ∨ 7080 < y → M y = M0 y) → im_i64 a → im_i64 b → im_i64 c → redoO σ w (knR w.gJr.1 w.gJr.2.1) a b c (rtT w.gJr.1 w.gJr.2.1) (rtN w.gJr.1 w.gJr.2.1) = rdO σ w → im_T g (d - 1) 449 0 [some (.ref 6952), some (vI (knR w.gJr.1 w.gJr.2.1)), some (vL a), none, some (vL b), none, some (vL c), none, none, none] [] e M (im_ri (fun x15 e_ M14 => e = e_ ∧ (im_i32 x15) ∧ ((¬ x15 = 0 → (im_i32 ((M14 6952 177) + szR w.gJr.1 w.gJr.2.1)) ∧ (im_i32 ((M14 6952 178) + 1)) ∧ K (.inl (some (vI 1))) e (im_u (im_u M14 6952 177 ((M14 6952 177) + szR w.gJr.1 w.gJr.2.1)) 6952 178 ((M14 6952 178) + 1))) ∧ (x15 = 0 → K (.inl (some (vI 0))) e M14)))) := by
    intro M a b c h hrt hF ha hb hc hE
    refine c_redo (σ := σ) h hrt hQ hR (by constructor <;> omega) ha hb hc (by omega) ?_
    rw [hE]
    intro M' x hx hiff hf W'
    have hF' : ∀ y, y < 6952 ∨ 7080 < y → M' y = M0 y := fun y hy => (hf y hy).trans (hF y hy)
    refine ⟨_, rfl, rfl, by constructor <;> omega, fun hne => ?_, fun h0 => hKn (by omega) M' hF' W'⟩
    obtain ⟨_, _, _, _, _, ⟨j0, j1, j2, j3, j4⟩, _⟩ := id W'
    rw [hJ] at j0 j1 j2 j3 j4
    have c2 := q1.2.1
    rw [j1, j2]
    refine ⟨by constructor <;> omega, by constructor <;> omega, hKy (hiff.mp (by omega)) _ (fun y hy => by rw [im_u_ne _ _ _ (by omega), im_u_ne _ _ _ (by omega)]; exact hF' y hy) ?_⟩
    refine W'.jr (fun x a b => by rw [im_u_ne _ _ _ a, im_u_ne _ _ _ a]) (fun k hk => by rw [im_rdk _ _ _ (by omega), im_rdk _ _ _ (by omega)]) ?_
    rw [hJ]
    refine ⟨fun x x0 x1 => by rw [im_rdn _ _ _ _ (by decide), im_rdn _ _ _ _ (by decide)]; exact j0 x x0 x1, ?_, im_rds _ _ _ _, ?_, ?_⟩
    · rw [im_rdk _ _ _ (by decide), im_rds]; rfl
    · rw [im_rdk _ _ _ (by decide), im_rdk _ _ _ (by decide)]; exact j3
    · rw [im_rdk _ _ _ (by decide), im_rdk _ _ _ (by decide)]; exact j4
  have eX := redo_x (σ := σ) (w := w) (a := dnV w.gJr.1 (w.gJr.2.1 + 3) 8) (b := dnV w.gJr.1 (w.gJr.2.1 + 11) 8) (c := dnV w.gJr.1 (w.gJr.2.1 + 19) 8) (t := rtT w.gJr.1 w.gJr.2.1) (n := rtN w.gJr.1 w.gJr.2.1) hkk
  have eX : rdO σ w = _ := eX
  have hb : ∀ i, 0 ≤ i → i < rtN w.gJr.1 w.gJr.2.1 → 0 ≤ rtT w.gJr.1 w.gJr.2.1 i ∧ rtT w.gJr.1 w.gJr.2.1 i < 256 := fun i a b => q12 _ (by omega) (by omega)
  intro j
  induction j with
  | zero =>
    intro k M hk h h13 ht hF
    obtain ⟨_, _, _, _, _, ⟨j0, j1, _⟩, _⟩ := id h
    have hD : jR M w.gJr.1 := ⟨j0, q12⟩
    have hrt : rtx M (rtT w.gJr.1 w.gJr.2.1) (rtN w.gJr.1 w.gJr.2.1) := ⟨h13, bn, by omega, fun i a b => ⟨ht i a (by omega), hb i a b⟩⟩
    have fin := fun a b c => fin M a b c h hrt hF
    have i0 : im_i64 0 := by decide
    generalize xrec (knR w.gJr.1 w.gJr.2.1) = r at b0 b3 hrn eX
    refine b_redoRecord_71 (by omega) ⟨by constructor <;> omega, fun _ => ⟨by constructor <;> omega, fun h0 => ⟨fun h1 => ⟨fun h2 => ?_, fun h2 => by omega⟩, fun h1 => by omega⟩, fun h0 => c_diskNumber hD (by omega) ⟨_, rfl, rfl, fun h1 => ⟨fun h2 => ?_, fun h2 => by omega⟩, fun h1 => c_diskNumber hD (by omega) ⟨_, rfl, rfl, fun h2 => ?_, fun h2 => c_diskNumber hD (by omega) ⟨_, rfl, rfl, ?_⟩⟩⟩⟩, fun z => by omega⟩
    · rw [if_neg (by omega), if_neg (by omega), if_neg (by omega)] at eX
      exact fin 0 0 0 i0 i0 i0 eX.symm
    · rw [if_pos h0, if_neg (by omega), if_neg (by omega)] at eX
      rw [j1]
      exact fin _ 0 0 (dnV_i _ _ _) i0 i0 eX.symm
    · rw [if_pos h0, if_pos h1, if_neg (by omega)] at eX
      rw [j1]
      exact fin _ _ 0 (dnV_i _ _ _) (dnV_i _ _ _) i0 eX.symm
    · rw [if_pos h0, if_pos h1, if_pos h2] at eX
      rw [j1]
      exact fin _ _ _ (dnV_i _ _ _) (dnV_i _ _ _) (dnV_i _ _ _) eX.symm
  | succ j ih =>
    intro k M hk h h13 ht hF
    obtain ⟨_, _, _, _, _, ⟨j0, j1, _⟩, _⟩ := id h
    refine b_redoRecord_71 (by omega) ⟨by constructor <;> omega, fun z => by omega, fun _ => ?_⟩
    rw [j1]
    refine ⟨⟨by omega, by omega⟩, ⟨by omega, by omega⟩, ?_⟩
    rw [j0 _ (by omega) (by omega)]
    have := ih (k + 1) (im_u M 6959 k (w.gJr.1 (w.gJr.2.1 + 3 + 8 * xrec (knR w.gJr.1 w.gJr.2.1) + k))) (by omega) (h.tx0 q3 (fun x a b => im_u_ne _ _ _ b) (fun q _ => im_rdn _ _ _ _ (by decide))) (by rw [im_rdn _ _ _ _ (by decide)]; exact h13) (fun i a b => by
      rw [im_rdx]
      by_cases z : i = k
      · rw [if_pos z, z]; rfl
      · rw [if_neg z]; exact ht i a (by omega)) (fun y hy => by rw [im_u_ne _ _ _ (by omega)]; exact hF y hy)
    exact this
theorem c_redoRecord {M : im_M} {σ : Sg} (h : RW M w) (hQ : RcQ w) (hR : RcR w) (hJ : isRw w → (rdO σ w).2.gJr = w.gJr) (hd : 22 ≤ d)
    (hK0 : ¬ isRw w → ∀ M', (∀ y, y < 6952 ∨ 7080 < y → M' y = M y) → RW M' w → K (.inl (some (vI 0))) e M')
    (hKn : isRw w → (rdO σ w).1 < 0 → ∀ M', (∀ y, y < 6952 ∨ 7080 < y → M' y = M y) → RW M' (rdO σ w).2 → K (.inl (some (vI 0))) e M')
    (hKy : isRw w → 0 ≤ (rdO σ w).1 → ∀ M', (∀ y, y < 6952 ∨ 7080 < y → M' y = M y) → RW M' (psW (rdO σ w).2 (szW w)) → K (.inl (some (vI 1))) e M') : im_T g d 445 0 [some (.ref 6952), none, none, none, none, none, none, none, none, none] [] e M K := by
  obtain ⟨⟨q1, q2, q3⟩, ⟨q4, q5, q6⟩, q7, _, q11, q12⟩ := id hQ
  obtain ⟨_, _, _, _, _, ⟨j0, j1, j2, j3, j4⟩, _⟩ := id h
  have hu := q1.1
  have W1 : ∀ M', kF M M' → RW M' w := fun M' F => by
    have := h.jr (M' := M') (J := w.gJr) (fun x a b => F.1 x a) (fun k hk => F.2 k (by omega)) ⟨fun x x0 x1 => by rw [F.1 7080 (by decide)]; exact j0 x x0 x1, by rw [F.2 177 (by decide)]; exact j1, by rw [F.2 178 (by decide)]; exact j2, by rw [F.2 179 (by decide)]; exact j3, by rw [F.2 180 (by decide)]; exact j4⟩
    rw [Wd.sjr] at this
    exact this
  have fr : ∀ M', kF M M' → ∀ y, y < 6952 ∨ 7080 < y → M' y = M y := fun M' F y hy => F.1 y (by omega)
  refine b_redoRecord_0 (by omega) ?_
  rw [j1]
  refine c_isRecord (D := w.gJr.1) (u := w.gJr.2.1) ⟨j0, q12⟩ hu (by omega) (fun hI M' F => ⟨_, rfl, rfl, by decide, fun _ => ?_, fun z => absurd z (by decide)⟩) (fun hI M' F => ⟨_, rfl, rfl, by decide, fun z => absurd rfl z, fun _ => hK0 hI M' (fr M' F) (W1 M' F)⟩)
  have h1 := W1 M' F
  have f1 := fr M' F
  clear W1 fr
  obtain ⟨_, _, _, _, _, ⟨k0, k1, _⟩, _⟩ := id h1
  obtain ⟨b0, b3, bn, b7, bp⟩ := isR_b hI
  have d0 := q12 w.gJr.2.1 (by omega) (by omega)
  have d1 := q12 (w.gJr.2.1 + 1) (by omega) (by omega)
  have e0 : M' 7080 w.gJr.2.1 = w.gJr.1 w.gJr.2.1 := k0 _ (by omega) (by omega)
  have e1 : M' 7080 (w.gJr.2.1 + 1) = w.gJr.1 (w.gJr.2.1 + 1) := k0 _ (by omega) (by omega)
  have e2 : M' 7080 (w.gJr.2.1 + 2) = knR w.gJr.1 w.gJr.2.1 := by rw [k0 (w.gJr.2.1 + 2) (by omega) (by omega)]; unfold knR; rw [if_pos (by omega)]
  have hsz : xior (xishl (M' 7080 w.gJr.2.1) 8) (M' 7080 (w.gJr.2.1 + 1)) = szR w.gJr.1 w.gJr.2.1 := by
    rw [e0, e1, xior_8 d0.1 (by omega) d1.1 d1.2]; unfold szR; rw [if_pos (by omega)]
  have sb := szR_b (D := w.gJr.1) (u := w.gJr.2.1) q12 hu.1
  rw [k1, hsz, e2]
  refine ⟨⟨by omega, by omega⟩, ⟨by omega, by omega⟩, ⟨by omega, by omega⟩, c_numbersOf hI.1 ⟨_, rfl, rfl, by constructor <;> omega, ?_⟩⟩
  refine l_rr (σ := σ) (M0 := M) hQ hR hI (hJ hI) hd (hKn hI) (hKy hI) (rtN w.gJr.1 w.gJr.2.1).toNat 0 _ (by omega) (h1.tx0 q3 (fun x a b => im_u_ne _ _ _ a) (fun k hk => im_rdk _ _ _ hk)) (im_rds _ _ _ _) (fun i a b => by omega) (fun y hy => by rw [im_u_ne _ _ _ (by omega)]; exact f1 y hy)
end RREC
