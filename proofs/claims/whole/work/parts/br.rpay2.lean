section RPAY2
variable {g : im_g} {d : Nat} {e : im_E} {M : im_M} {K : im_K} {R : Rw} {m : Int} {giv : Bk} {st en lk : Int} {s : TS}
/-- it pays out -/
theorem c_rpayOut {sort a b c r v : Int} (h : RT M R m giv st en lk s) (hO : OT s) (hsort : sort = 0 ∨ sort = 1) (hv : rnp M 0 (M 6952 7) r v) (ha : im_i64 a) (hb : im_i64 b) (hc : im_i64 c) (h7 : M 6952 7 + 310 ≤ 1100000) (hd : 8 ≤ d)
    (hKs : ∀ s', payR lk s sort a b c v = .inr s' → ∀ M', RX M M' → M' 6952 7 ≤ M 6952 7 + 303 → RT M' R m giv st en lk s' → K (.inl none) e M')
    (hKe : ∀ z, payR lk s sort a b c v = .inl z → z < 0 → ∀ M', RZ M M' R m giv lk z → K (.inl none) e M') : im_T g d 367 0 [some (.ref 6952), some (vI sort), some (vL a), none, some (vL b), none, some (vL c), none, some (vI r)] [] e M K := by
  obtain ⟨w1, w2, w3⟩ := h.2.2.2.2.2.2.1
  have h101 := h.2.2.2.1.2.1
  have hri : im_i32 r := by
    obtain ⟨k, _, z1, z2, _⟩ := hv
    constructor <;> omega
  have hsi : im_i32 sort := by rcases hsort with z | z <;> rw [z] <;> decide
  have hlk : lk = 0 ∨ lk = 1 := by
    rcases h.2.2.2.2.1.2.1 with z | z
    · exact Or.inl z
    · exact Or.inr z.1
  unfold payR at hKs hKe
  refine b_payOut_0 (by omega) ?_
  rw [w1]
  refine ⟨fun hn => ⟨by constructor <;> omega, hsi, ha, hb, hc, hri, by constructor <;> omega, ?_⟩, fun hn => ?_⟩
  · rw [if_pos (show s.pay.1 < 60 by omega)] at hKs hKe
    generalize hM' : im_u (im_u (im_u (im_u (im_u (im_u M 7021 s.pay.1 sort) 7022 s.pay.1 a) 7023 s.pay.1 b) 7024 s.pay.1 c) 7025 s.pay.1 r) 6952 104 ((s.pay.1 : Int) + 1) = M'
    have g0 : ∀ x, x ≠ 6952 → (x < 7021 ∨ 7025 < x) → M' x = M x := fun x a b => by rw [← hM', im_u_ne _ _ _ a, im_u_ne _ _ _ (by omega), im_u_ne _ _ _ (by omega), im_u_ne _ _ _ (by omega), im_u_ne _ _ _ (by omega), im_u_ne _ _ _ (by omega)]
    have gf : ∀ k, k ≠ 104 → M' 6952 k = M 6952 k := fun k hk => by rw [← hM', im_rdk _ _ _ hk, im_rdn _ _ _ _ (by decide), im_rdn _ _ _ _ (by decide), im_rdn _ _ _ _ (by decide), im_rdn _ _ _ _ (by decide), im_rdn _ _ _ _ (by decide)]
    have gk : M' 6952 104 = (s.pay.1 : Int) + 1 := by rw [← hM', im_rds]
    have x1 : ∀ x, M' 7021 x = if x = s.pay.1 then sort else M 7021 x := fun x => by rw [← hM', im_rdn _ _ _ _ (by decide), im_rdn _ _ _ _ (by decide), im_rdn _ _ _ _ (by decide), im_rdn _ _ _ _ (by decide), im_rdn _ _ _ _ (by decide), im_rdx]
    have x2 : ∀ x, M' 7022 x = if x = s.pay.1 then a else M 7022 x := fun x => by rw [← hM', im_rdn _ _ _ _ (by decide), im_rdn _ _ _ _ (by decide), im_rdn _ _ _ _ (by decide), im_rdn _ _ _ _ (by decide), im_rdx, im_rdn _ _ _ _ (by decide)]
    have x3 : ∀ x, M' 7023 x = if x = s.pay.1 then b else M 7023 x := fun x => by rw [← hM', im_rdn _ _ _ _ (by decide), im_rdn _ _ _ _ (by decide), im_rdn _ _ _ _ (by decide), im_rdx, im_rdn _ _ _ _ (by decide), im_rdn _ _ _ _ (by decide)]
    have x4 : ∀ x, M' 7024 x = if x = s.pay.1 then c else M 7024 x := fun x => by rw [← hM', im_rdn _ _ _ _ (by decide), im_rdn _ _ _ _ (by decide), im_rdx, im_rdn _ _ _ _ (by decide), im_rdn _ _ _ _ (by decide), im_rdn _ _ _ _ (by decide)]
    have x5 : ∀ x, M' 7025 x = if x = s.pay.1 then r else M 7025 x := fun x => by rw [← hM', im_rdn _ _ _ _ (by decide), im_rdx, im_rdn _ _ _ _ (by decide), im_rdn _ _ _ _ (by decide), im_rdn _ _ _ _ (by decide), im_rdn _ _ _ _ (by decide)]
    clear hM'
    have e7 := gf 7 (by decide)
    have e55 : M' 6955 = M 6955 := g0 6955 (by decide) (by decide)
    have hnew : rr5 M' 104 7021 7022 7023 7024 7025 (radd s.pay sort a b c v) (M' 6952 7) := by
      refine ⟨by rw [gk]; rfl, by show s.pay.1 + 1 ≤ 60; omega, fun i hi => ?_⟩
      have hi : i < s.pay.1 + 1 := hi
      show (M' 7021 i = im_up s.pay.2.1 s.pay.1 sort i ∧ M' 7022 i = im_up s.pay.2.2.1 s.pay.1 a i ∧ M' 7023 i = im_up s.pay.2.2.2.1 s.pay.1 b i ∧ M' 7024 i = im_up s.pay.2.2.2.2.1 s.pay.1 c i) ∧ (im_up s.pay.2.1 s.pay.1 sort i ≠ 5 → rnp M' 0 (M' 6952 7) (M' 7025 i) (im_up s.pay.2.2.2.2.2 s.pay.1 v i)) ∧ (im_up s.pay.2.1 s.pay.1 sort i = 5 → M' 7025 i = -1)
      rw [x1, x2, x3, x4, x5, e7]
      unfold im_up
      by_cases hc' : (i : Int) = s.pay.1
      · rw [if_pos hc', if_pos hc', if_pos hc', if_pos hc', if_pos hc', if_pos hc', if_pos hc', if_pos hc', if_pos hc', if_pos hc']
        exact ⟨⟨rfl, rfl, rfl, rfl⟩, fun z => rnp_congr hv (fun i _ => by rw [e55]) (Int.le_refl _), fun z => by omega⟩
      · rw [if_neg hc', if_neg hc', if_neg hc', if_neg hc', if_neg hc', if_neg hc', if_neg hc', if_neg hc', if_neg hc', if_neg hc']
        obtain ⟨y1, y2, y3⟩ := w3 i (by omega)
        exact ⟨y1, fun z => rnp_congr (y2 z) (fun i _ => by rw [e55]) (Int.le_refl _), y3⟩
    obtain ⟨C1, X1⟩ := h.pay (M' := M') (ρ := radd s.pay sort a b c v) (fun x a _ b => g0 x a b) (fun k _ _ a => gf k a) (fun i _ => by rw [e55]) (by omega) (by rw [gf 8 (by decide)]; exact h.2.2.2.2.1.2.2) hnew
    have hv' : rnp M' 0 (M' 6952 7) r v := by rw [e7]; exact rnp_congr hv (fun i _ => by rw [e55]) (Int.le_refl _)
    have rzt : ∀ {z : Int} {M2 : im_M}, RZ M' M2 R m giv lk z → RZ M M2 R m giv lk z := fun {z M2} hz => ⟨X1.trans hz.1, hz.2⟩
    refine ⟨fun hs => ?_, fun hs => ?_⟩
    · have hs1 : sort = 1 := by omega
      rw [if_pos hs1] at hKs hKe
      refine c_toAccount C1 hv' hb hc (by omega) (by omega) (fun β hβ M2 X2 t2 C2 => ⟨rfl, rfl, ?_⟩) (fun z hz z0 M2 Z2 => ⟨rfl, rfl, ?_⟩)
      · have hβ : bcre s.acc 40 b c v = .inr β := hβ
        rw [hβ] at hKs
        exact hKs _ rfl M2 (X1.trans X2) (by omega) C2
      · have hz : bcre s.acc 40 b c v = .inl z := hz
        rw [hz] at hKe
        exact hKe z rfl z0 M2 (rzt Z2)
    · rw [if_neg (show ¬ sort = 1 by omega)] at hKs hKe
      refine c_toWallet C1 hO.2.2.2.1 hv' hb hc (by omega) (by omega) (fun h1 => ⟨rfl, rfl, ?_⟩) (fun h0 β hβ M2 X2 t2 C2 => ⟨rfl, rfl, ?_⟩) (fun h0 z hz z0 M2 Z2 => ⟨rfl, rfl, ?_⟩)
      · rw [if_neg (show ¬ lk = 0 by omega)] at hKs
        exact hKs _ rfl M' X1 (by omega) C1
      · rw [if_pos h0] at hKs
        have hβ : bcre s.wal 60 b c v = .inr β := hβ
        rw [hβ] at hKs
        exact hKs _ rfl M2 (X1.trans X2) (by omega) C2
      · rw [if_pos h0] at hKe
        have hz : bcre s.wal 60 b c v = .inl z := hz
        rw [hz] at hKe
        exact hKe z rfl z0 M2 (rzt Z2)
  · rw [if_neg (show ¬ s.pay.1 < 60 by omega)] at hKe
    exact c_refuse h101 (by decide) ⟨rfl, rfl, hKe (-9) rfl (by decide) _ (h.rz (RX.rf M) (-9))⟩
end RPAY2
