/-! THE REFERENCE steps -/
section RSTEP
variable {g : im_g} {d : Nat} {e : im_E} {M : im_M} {K : im_K} {R : Rw} {m : Int} {giv : Bk} {st en lk : Int} {s : TS}
theorem c_worked {n e' : Int} (h : RT M R m giv st en lk s) (hW : WFP R m) (n0 : 0 ≤ n) (n1 : n < m) (hk : vkd (R 0 n) ∨ okd (R 0 n)) (hen : ends (R 1) m n e') (h7 : M 6952 7 + 660 * (e' - n) ≤ 1100000) (hd : 10 ≤ d)
    (hKs : ∀ M' r x, ev R (s.env giv st en) 101 n = some x → WX M M' → M' 6952 7 ≤ M 6952 7 + 302 → RT M' R m giv st en lk s → (vkd (R 0 n) → rnp M' 0 (M' 6952 7) r x) → (okd (R 0 n) → r = x) → K (.inl (some (vI r))) e M')
    (hKe : ev R (s.env giv st en) 101 n = none → ∀ M', RZ M M' R m giv lk (-8) → K (.inl (some (vI 0))) e M') : im_T g d 378 0 [some (.ref 6952), some (vI n), none] [] e M K := by
  have h101 := h.2.2.2.1.2.1
  have h102 := h.2.2.2.2.1.1
  have hlk := h.2.2.2.2.1.2.1
  have hL : M 6952 102 = 0 ∨ (M 6952 102 = 1 ∧ KN M R m (s.env giv st en)) := by rw [h102]; exact hlk
  refine b_worked_0 (by omega) (c_rwork hW n0 n1 hk h.eh hen h7 hL (by omega) (fun M' r x hx X h8 t1 v1 o1 L1 => ⟨_, rfl, rfl, ?_⟩) (fun M' hx X h8 t1 L1 => ⟨_, rfl, rfl, ?_⟩))
  · exact ⟨fun _ => hKs M' r x hx X t1 (h.wx X (Or.inl h8) L1) v1 o1, fun z => absurd h8 z⟩
  · have C1 := h.wx X (Or.inr h8) L1
    exact ⟨fun z => by omega, fun _ => c_refuse C1.2.2.2.1.2.1 (by decide) ⟨rfl, rfl, hKe hx _ (C1.rz (RX.wx X) (-8))⟩⟩
theorem c_rtimeOf {n : Int} (h : RT M R m giv st en lk s) (hm : m ≤ 5000) (n0 : 0 ≤ n) (n1 : n < m) (hk : R 0 n = 3) (hT : R 5 n ≠ 0 → 0 ≤ hld giv (R 5 n) 0 ∧ hld giv (R 5 n) 0 ≤ 1000000000000000) (hnm : 0 ≤ R 4 n ∧ R 4 n ≤ 1000000000000000) (h7 : M 6952 7 + 22 ≤ 1100000) (hd : 3 ≤ d)
    (hK : ∀ M', WX M M' → M' 6952 7 = M 6952 7 → RT M' R m giv st en lk s → K (.inl (some (vL (tmo R giv n)))) e M') : im_T g d 406 0 [some (.ref 6952), some (vI n), none, none, none] [] e M K := by
  obtain ⟨_, _, _, _, _, q6, _⟩ := h.1 n n0 n1
  obtain ⟨q6a, q6b⟩ := q6 hk
  have h70 := h.2.2.1.2
  unfold tmo at hK
  by_cases h5 : R 5 n = 0
  · obtain ⟨q1, q2⟩ := q6b h5
    have q2 := q2 (fun x hx => by cases hx)
    rw [if_pos h5] at hK
    refine b_timeOf_0 (by omega) ⟨by constructor <;> omega, fun z => absurd q1 z, fun _ => ?_⟩
    rw [q2]
    exact hK M (WX.rf M) rfl h
  · obtain ⟨q1, q2⟩ := q6a h5
    rw [if_neg h5] at hK
    obtain ⟨t1, t2⟩ := hT h5
    have hat : asT (hld giv (R 5 n) 0) = hld giv (R 5 n) 0 := by unfold asT; rw [if_pos ⟨t1, t2⟩]
    rw [hat] at hK
    refine im_rng (j := n) sf_6961 n0 (by show n < 5100; omega) (fun hr1 => ?_)
    have hr1 : im_i64 (M 6961 n) := hr1
    refine b_timeOf_0 (by omega) ⟨by constructor <;> omega, fun _ => ?_, fun z => by omega⟩
    rw [q2] at hr1 ⊢
    refine c_givenOf (B := M 6952 7) h.re (Int.le_refl _) (Int.le_refl _) h70 h7 hr1 (by omega) (fun M1 r hv => ⟨_, rfl, rfl, ?_⟩)
    obtain ⟨v1, v2, v3, v4, ⟨k, v5, v6, v7, v8⟩, _⟩ := hv
    have v5 : rn (M1 6955) r k (hld giv (R 5 n) 0) := v5
    refine c_toLong v5 v6 (by omega) (fun t ht => ⟨_, rfl, rfl, ?_⟩)
    rw [ht.2.1 ⟨t1, t2⟩]
    have hX : WX M (im_u M1 6952 7 (M 6952 7)) := ⟨fun x a b c => (im_u_ne _ _ _ a).trans (v1.1 x (fun z => by cases z) (by omega) a), fun k a b _ _ => (im_rdk _ _ _ a).trans (v1.2.1 k (by simp [a, b])), fun i hi => (im_rdn _ _ _ _ (by decide)).trans (v1.2.2 i hi), by rw [im_rds]; exact Int.le_refl _⟩
    refine hK _ hX (im_rds _ _ _ _) (h.wx hX ?_ ?_)
    · rw [im_rdk _ _ _ (by decide), v2]; exact h.2.2.2.2.1.2.2
    · rw [hX.2.1 102 (by decide) (by decide) (by decide) (by decide), h.2.2.2.2.1.1]
      rcases h.2.2.2.2.1.2.1 with z | z
      · exact Or.inl z
      · exact Or.inr ⟨z.1, KN_congr z.2 (fun x a b => (im_u_ne _ _ _ (by omega)).trans (v1.1 x (fun z => by cases z) (by omega) (by omega)))⟩
/-- a pay takes from its account -/
theorem c_tail {n r v : Int} (h : RT M R m giv st en lk s) (hO : OT s) (hh : hs2 s.acc (R 4 n) (R 6 n)) (hv0 : 0 < v) (hle : v ≤ s.acc.2.2.2 (ps s.acc (R 4 n) (R 6 n))) (hv : rnp M 0 (M 6952 7) r v) (hk : R 0 n = 1) (hR3 : R 3 n = 0 ∨ R 3 n = 1) (n0 : 0 ≤ n) (n1 : n < m) (ha : im_i64 (R 4 n)) (hb : im_i64 (R 5 n)) (hc : im_i64 (R 6 n)) (h7 : M 6952 7 + 700 ≤ 1100000) (hd : 9 ≤ d)
    (hKs : ∀ s', payO lk s (R 3 n) (R 4 n) (R 5 n) (R 6 n) v = .inr s' → ∀ M', RX M M' → M' 6952 7 ≤ M 6952 7 + 606 → RT M' R m giv st en lk s' → K (.inl none) e M')
    (hKe : ∀ z, payO lk s (R 3 n) (R 4 n) (R 5 n) (R 6 n) v = .inl z → z < 0 → ∀ M', RZ M M' R m giv lk z → K (.inl none) e M') :
    im_T g d 371 0 [some (.ref 6952), some (vI (M 7013 (ps s.acc (R 4 n) (R 6 n)))), some (vI r), some (vI (-1)), none] [] e M (im_ri (fun x82 e_ M81 => e = e_ ∧ (0 ≤ x82 ∧ x82 < 1100000) ∧ ((¬ (M81 6955 x82) = 0 → (im_i32 x82) ∧ ((∀ x89 : Int, (((¬ (M81 6960 n) = 2) ∧ x89 = 1) ∨ (((M81 6960 n) = 2) ∧ x89 = 0)) → im_T g d 367 0 [some (.ref 6952), some (vI x89), some (vL (R 4 n)), none, some (vL (M81 6962 n)), none, some (vL (R 6 n)), none, some (vI r)] [] e (im_u M81 7013 (ps s.acc (R 4 n) (R 6 n)) x82) (im_r0 (fun e_ M94 => e = e_ ∧ K (.inl none) e M94))))) ∧ ((M81 6955 x82) = 0 → im_T g d 366 0 [some (.ref 6952), some (vI (ps s.acc (R 4 n) (R 6 n))), none] [] e M81 (im_r0 (fun e_ M96 => e = e_ ∧ ((∀ x99 : Int, (((¬ (M96 6960 n) = 2) ∧ x99 = 1) ∨ (((M96 6960 n) = 2) ∧ x99 = 0)) → im_T g d 367 0 [some (.ref 6952), some (vI x99), some (vL (R 4 n)), none, some (vL (M96 6962 n)), none, some (vL (R 6 n)), none, some (vI r)] [] e M96 (im_r0 (fun e_ M104 => e = e_ ∧ K (.inl none) e M104)))))))))) := by
  obtain ⟨r1, r2, r3, r4⟩ := h.2.1.1
  have h101 := h.2.2.2.1.2.1
  have hp0 := (ps_ok s.acc (R 4 n) (R 6 n)).1
  have hlt := hh.1
  have ei : (((ps s.acc (R 4 n) (R 6 n)).toNat : Nat) : Int) = ps s.acc (R 4 n) (R 6 n) := by omega
  have hvo := r4 (ps s.acc (R 4 n) (R 6 n)).toNat (by omega)
  rw [ei] at hvo
  have hkr : kR (R 0 n) (R 3 n) = 2 + R 3 n := by rw [hk]; unfold kR; rw [if_neg (by decide), if_pos rfl]
  have hsmV : sm (s.acc.2.2.2 (ps s.acc (R 4 n) (R 6 n))) := by
    obtain ⟨k, z1, _, _, z4⟩ := hvo
    exact (rn_small z1).mp z4
  have hsm : sm (s.acc.2.2.2 (ps s.acc (R 4 n) (R 6 n)) + -1 * v) := by
    unfold sm at *
    generalize LIM = L at *
    omega
  rw [payO_R] at hKs hKe
  have hbd := bdeb_ok (v := v) hO.1.1 hO.1.2 (fun _ => hle)
  refine c_sum hvo hv (Or.inr rfl) h101 (by omega) (by omega) (fun _ M1 r' X1 t1 e8 hr' => ⟨_, rfl, rfl, ?_⟩) (fun z => absurd hsm z)
  obtain ⟨k, y1, y2, y3, y4⟩ := id hr'
  have hsg := rn_sg y1
  have h1X := X1.2.2.2
  refine ⟨by constructor <;> omega, fun hnz => ⟨by constructor <;> omega, fun x hx => ?_⟩, fun hz => ?_⟩
  · obtain ⟨C2, X2⟩ := h.accv X1 (Or.inl e8) hh hr'
    have hq := C2.1 n n0 n1
    have e60 : M1 6960 n = R 3 n + 2 := by rw [X1.1 6960 (by decide) (by decide), (h.1 n n0 n1).1, hkr]; omega
    have e62 : M1 6962 n = R 5 n := by rw [X1.1 6962 (by decide) (by decide)]; exact ((h.1 n n0 n1).2.1 (by omega)).2
    rw [e60] at hx
    rw [e62]
    have hxs : x = R 3 n := by rcases hR3 with w | w <;> omega
    subst hxs
    have hnz2 : s.acc.2.2.2 (ps s.acc (R 4 n) (R 6 n)) - v ≠ 0 := fun w => hnz (by
      rw [hsg, show s.acc.2.2.2 (ps s.acc (R 4 n) (R 6 n)) + -1 * v = 0 by omega]; rfl)
    have hb1 : bdeb s.acc (R 4 n) (R 6 n) v = bset s.acc (R 4 n) (R 6 n) (s.acc.2.2.2 (ps s.acc (R 4 n) (R 6 n)) + -1 * v) := by
      unfold bdeb; rw [if_pos hh, if_neg hnz2, show s.acc.2.2.2 (ps s.acc (R 4 n) (R 6 n)) - v = s.acc.2.2.2 (ps s.acc (R 4 n) (R 6 n)) + -1 * v by omega]
    rw [hb1] at hKs hKe hbd
    have e7 : im_u M1 7013 (ps s.acc (R 4 n) (R 6 n)) r' 6952 = M1 6952 := im_u_ne _ _ _ (by decide)
    have e55 : im_u M1 7013 (ps s.acc (R 4 n) (R 6 n)) r' 6955 = M1 6955 := im_u_ne _ _ _ (by decide)
    refine c_rpayOut C2 ⟨hbd, hO.2⟩ hR3 (by rw [e7]; exact rnp_congr hv (fun i hi => by rw [e55]; exact X1.2.2.1 i hi) h1X) ha hb hc (by rw [e7]; omega) (by omega) (fun s' hs' M' X' t' C' => ⟨rfl, rfl, hKs s' hs' M' (X2.trans X') (by rw [e7] at t'; omega) C'⟩) (fun z hz z0 M' Z' => ⟨rfl, rfl, hKe z hz z0 M' ⟨X2.trans Z'.1, Z'.2⟩⟩)
  · have C1 := SX.rt h X1 (Or.inl e8)
    have hz2 : s.acc.2.2.2 (ps s.acc (R 4 n) (R 6 n)) - v = 0 := by
      rw [hsg] at hz
      unfold sg at hz
      (repeat' split at hz) <;> omega
    have hb1 : bdeb s.acc (R 4 n) (R 6 n) v = brem s.acc (R 4 n) (R 6 n) := by
      unfold bdeb; rw [if_pos hh, if_pos hz2]
    rw [hb1] at hKs hKe hbd
    refine c_drop C1 hh rfl (fun M2 X2 f2 g2 C2 => ⟨rfl, rfl, fun x hx => ?_⟩)
    have e60 : M2 6960 n = R 3 n + 2 := by rw [f2 6960 (by decide) (by decide) (by decide) (by decide), X1.1 6960 (by decide) (by decide), (h.1 n n0 n1).1, hkr]; omega
    have e62 : M2 6962 n = R 5 n := by rw [f2 6962 (by decide) (by decide) (by decide) (by decide), X1.1 6962 (by decide) (by decide)]; exact ((h.1 n n0 n1).2.1 (by omega)).2
    rw [e60] at hx
    rw [e62]
    have hxs : x = R 3 n := by rcases hR3 with w | w <;> omega
    subst hxs
    have e7 := g2 7 (by decide)
    have e55 : M2 6955 = M1 6955 := f2 6955 (by decide) (by decide) (by decide) (by decide)
    have X02 := X1.rx.trans X2
    refine c_rpayOut C2 ⟨hbd, hO.2⟩ hR3 (by rw [e7]; exact rnp_congr hv (fun i hi => by rw [e55]; exact X1.2.2.1 i hi) h1X) ha hb hc (by rw [e7]; omega) (by omega) (fun s' hs' M' X' t' C' => ⟨rfl, rfl, hKs s' hs' M' (X02.trans X') (by rw [e7] at t'; omega) C'⟩) (fun z hz z0 M' Z' => ⟨rfl, rfl, hKe z hz z0 M' ⟨X02.trans Z'.1, Z'.2⟩⟩)
end RSTEP
