/-! plus -/
theorem dg_same {f f' : Int → Int} {a k r : Int} {n : Nat} (h : ∀ i, i < r → f' i = f i) (ha : f (a + 1) = n) (hr : a + 2 + n ≤ r) : dg f' a k = dg f a k := by
  unfold dg
  rw [h (a + 1) (by omega)]
  by_cases hk : k < f (a + 1)
  · rw [if_pos hk, if_pos hk, h _ (by omega)]
  · rw [if_neg hk, if_neg hk]
section RNUM4
variable {g : im_g} {d : Nat} {e : im_E} {M M0 : im_M} {K : im_K}
theorem l_plusA {a b sb r : Int} {na nb n : Nat} (ha0 : 0 ≤ a) (hb0 : 0 ≤ b) (ha : M0 6955 (a + 1) = na) (hb : M0 6955 (b + 1) = nb) (hda : dok 10 (M0 6955) (a + 2) na) (hdb : dok 10 (M0 6955) (b + 2) nb) (hal : a + 2 + na ≤ r) (hbl : b + 2 + nb ≤ r) (hna : na ≤ n) (hnb : nb ≤ n) (hn : n ≤ 1000) (hr : r + 3 + n ≤ 1100000) (hd : 1 ≤ d)
    (hK : ∀ M, RF [] [] r M0 M → dok 10 (M 6955) (r + 2) (n + 1) → dv 10 (M 6955) (r + 2) (n + 1) = dv 10 (dg (M0 6955) a) 0 (n + 1) + dv 10 (dg (M0 6955) b) 0 (n + 1) → im_T g (d - 1) 292 0 [some (.ref 6952), some (vI r), some (vI ((n + 1 : Nat) : Int)), some (vI sb), none] [] e M (im_ri (fun x e_ M4 => e = e_ ∧ K (.inl (some (vI x))) e M4))) :
    ∀ (j k : Nat) (c : Int) (M : im_M), k + j = n + 1 → RF [] [] r M0 M → dok 10 (M 6955) (r + 2) k → dv 10 (M 6955) (r + 2) k + c * 10 ^ k = dv 10 (dg (M0 6955) a) 0 k + dv 10 (dg (M0 6955) b) 0 k → (c = 0 ∨ c = 1) → (k = n + 1 → c = 0) → im_T g d 372 93 [some (.ref 6952), some (vI a), some (vI b), none, some (vI sb), some (vI n), some (vI r), some (vI c), some (vI k), none, none, none, none] [] e M K := by
  intro j
  induction j with
  | zero =>
    intro k c M hk hF hdk hv hc hc0
    have hk : k = n + 1 := by omega
    subst hk
    have hc := hc0 rfl
    subst hc
    rw [Int.zero_mul, Int.add_zero] at hv
    exact b_plus_93 hd ⟨by constructor <;> omega, by constructor <;> omega, fun _ => hK M hF hdk hv, fun z => absurd z (by omega)⟩
  | succ j ih =>
    intro k c M hk hF hdk hv hc hc0
    have ea := dg_same (k := k) hF.2.2 ha hal
    have eb := dg_same (k := k) hF.2.2 hb hbl
    have ra := dg_rng (k := k) ha hda (by omega)
    have rb := dg_rng (k := k) hb hdb (by omega)
    have ma : M 6955 (a + 1) = na := (hF.2.2 _ (by omega)).trans ha
    have mb : M 6955 (b + 1) = nb := (hF.2.2 _ (by omega)).trans hb
    refine b_plus_93 hd ⟨by constructor <;> omega, by constructor <;> omega, fun z => absurd z (by omega), fun _ => ?_⟩
    refine c_digit ha0 (by omega) (by omega) (by omega) (by omega) ⟨_, rfl, rfl, ?_⟩
    refine c_digit hb0 (by omega) (by omega) (by omega) (by omega) ⟨_, rfl, rfl, ?_⟩
    rw [ea, eb]
    generalize hx : dg (M0 6955) a k = x at ra
    generalize hy : dg (M0 6955) b k = y at rb
    have hnn : 0 ≤ x + y + c := by omega
    rw [Int.tmod_eq_emod_of_nonneg hnn, Int.tdiv_eq_ediv_of_nonneg hnn]
    refine ⟨by constructor <;> omega, by constructor <;> omega, by constructor <;> omega, ?_⟩
    have e1 : im_u M 6955 (r + 2 + (k : Int)) ((x + y + c) % 10) 6955 = im_up (M 6955) (r + 2 + (k : Int)) ((x + y + c) % 10) := im_u_eq _ _ _ _
    refine ih (k + 1) ((x + y + c) / 10) _ (by omega) (hF.pool (by omega) _) ?_ ?_ (by omega) (fun hkn => ?_)
    · rw [e1]; exact im_up_dok hdk (by omega) (by omega)
    · rw [e1, im_up_dv, dv_succ, dv_succ, Int.zero_add, hx, hy, Int.pow_succ]
      have h9 := cstep (B := 10) (v := x + y + c) (q := (x + y + c) / 10) (m := (x + y + c) % 10) (P := 10 ^ k) (by omega)
      rw [Int.add_mul, Int.add_mul] at h9
      omega
    · have hkn : k = n := by omega
      have hx0 : x = 0 := by rw [← hx]; unfold dg; rw [if_neg (by omega)]
      have hy0 : y = 0 := by rw [← hy]; unfold dg; rw [if_neg (by omega)]
      omega
theorem l_plusS {a sb r more gr sm : Int} {ng ns n : Nat} (ha0 : 0 ≤ a) (har : a < r) (hg0 : 0 ≤ gr) (hs0 : 0 ≤ sm) (hg : M0 6955 (gr + 1) = ng) (hs : M0 6955 (sm + 1) = ns) (hdg : dok 10 (M0 6955) (gr + 2) ng) (hds : dok 10 (M0 6955) (sm + 2) ns) (hgl : gr + 2 + ng ≤ r) (hsl : sm + 2 + ns ≤ r) (hn : n ≤ 1000) (hr : r + 3 + n ≤ 1100000) (hm : more = 0 ∨ more = 1) (hge : dv 10 (dg (M0 6955) sm) 0 n ≤ dv 10 (dg (M0 6955) gr) 0 n) (hd : 1 ≤ d)
    (hK : ∀ M, RF [] [] r M0 M → dok 10 (M 6955) (r + 2) n → dv 10 (M 6955) (r + 2) n = dv 10 (dg (M0 6955) gr) 0 n - dv 10 (dg (M0 6955) sm) 0 n → im_T g (d - 1) 292 0 [some (.ref 6952), some (vI r), some (vI n), some (vI (if more = 0 then sb else M0 6955 a)), none] [] e M (im_ri (fun x e_ M4 => e = e_ ∧ K (.inl (some (vI x))) e M4))) :
    ∀ (j k : Nat) (c : Int) (M : im_M), k + j = n → RF [] [] r M0 M → dok 10 (M 6955) (r + 2) k → dv 10 (M 6955) (r + 2) k - c * 10 ^ k = dv 10 (dg (M0 6955) gr) 0 k - dv 10 (dg (M0 6955) sm) 0 k → (c = 0 ∨ c = 1) → im_T g d 372 209 [some (.ref 6952), some (vI a), none, none, some (vI sb), some (vI n), some (vI r), some (vI more), some (vI gr), some (vI sm), some (vI c), some (vI k), none] [] e M K := by
  intro j
  induction j with
  | zero =>
    intro k c M hk hF hdk hv hc
    have hk : k = n := by omega
    subst hk
    have hb := dv_bd (B := 10) (by decide) hdk
    have hc : c = 0 := by
      rcases hc with z | z
      · exact z
      · subst z; rw [Int.one_mul] at hv; omega
    subst hc
    rw [Int.zero_mul, Int.sub_zero] at hv
    refine b_plus_209 hd ⟨by constructor <;> omega, by constructor <;> omega, ⟨fun _ => ⟨by constructor <;> omega, fun _ => by constructor <;> omega⟩, fun z => absurd z (by omega)⟩, fun x hx => ?_⟩
    have ex : x = if more = 0 then sb else M0 6955 a := by
      have := hF.2.2 a har
      rcases hx with ⟨_, z, w⟩ | ⟨_, z, w⟩
      · rw [if_pos z, w]
      · rw [if_neg z, w, this]
    rw [ex]
    exact hK M hF hdk hv
  | succ j ih =>
    intro k c M hk hF hdk hv hc
    have ea := dg_same (k := k) hF.2.2 hg hgl
    have eb := dg_same (k := k) hF.2.2 hs hsl
    have ra := dg_rng (k := k) hg hdg (by omega)
    have rb := dg_rng (k := k) hs hds (by omega)
    have ma : M 6955 (gr + 1) = ng := (hF.2.2 _ (by omega)).trans hg
    have mb : M 6955 (sm + 1) = ns := (hF.2.2 _ (by omega)).trans hs
    refine b_plus_209 hd ⟨by constructor <;> omega, by constructor <;> omega, ⟨fun z => absurd z (by omega), fun _ => ?_⟩, fun x hx => absurd hx (by omega)⟩
    refine c_digit hg0 (by omega) (by omega) (by omega) (by omega) ⟨_, rfl, rfl, ?_⟩
    refine c_digit hs0 (by omega) (by omega) (by omega) (by omega) ⟨_, rfl, rfl, ?_⟩
    rw [ea, eb]
    generalize hx : dg (M0 6955) gr k = x at ra
    generalize hy : dg (M0 6955) sm k = y at rb
    refine ⟨by constructor <;> omega, fun c1 hc1 x1 hx1 => ⟨by constructor <;> omega, by constructor <;> omega, ?_⟩⟩
    have e1 : im_u M 6955 (r + 2 + (k : Int)) x1 6955 = im_up (M 6955) (r + 2 + (k : Int)) x1 := im_u_eq _ _ _ _
    refine ih (k + 1) c1 _ (by omega) (hF.pool (by omega) _) ?_ ?_ (by omega)
    · rw [e1]; exact im_up_dok hdk (by omega) (by omega)
    · rw [e1, im_up_dv, dv_succ, dv_succ, Int.zero_add, hx, hy, Int.pow_succ]
      have h9 : x1 = x - y - c + c1 * 10 := by omega
      have h8 : x1 * 10 ^ k = x * 10 ^ k - y * 10 ^ k - c * 10 ^ k + c1 * (10 ^ k * 10) := by
        rw [h9, Int.add_mul, Int.sub_mul, Int.sub_mul, Int.mul_assoc, Int.mul_comm 10]
      omega
end RNUM4
section RNUM5
variable {g : im_g} {d : Nat} {e : im_E} {M M0 : im_M} {K : im_K}
theorem dv_dg_max {f : Int → Int} {a b : Int} {na nb N : Nat} (ha : f (a + 1) = na) (hN : na ≤ N) : dv 10 (dg f a) 0 N = dv 10 f (a + 2) na := dg_dv ha hN
/-- plus: the sum, at the top of the pool -/
theorem c_plus {a b s va vb : Int} {na nb : Nat} (hra : rn (M 6955) a na va) (hrb : rn (M 6955) b nb vb) (ha0 : 0 ≤ a) (hb0 : 0 ≤ b) (hal : a + 2 + na ≤ M 6952 7) (hbl : b + 2 + nb ≤ M 6952 7) (hna : na ≤ 300) (hnb : nb ≤ 300) (hs : s = 1 ∨ s = -1) (hr : M 6952 7 + 310 ≤ 1100000) (h8 : M 6952 8 = 0 ∨ M 6952 8 = 1) (hd : 3 ≤ d) (hK : ∀ (M' : im_M) (n' : Nat), RF [] [7, 8] (M 6952 7) M M' → rn (M' 6955) (M 6952 7) n' (va + s * vb) → n' ≤ 301 → M' 6952 7 = M 6952 7 + 2 + n' → (M' 6952 8 = if M 6952 8 = 0 ∧ n' ≤ 300 then 0 else 1) → K (.inl (some (vI (M 6952 7)))) e M') : im_T g d 372 0 [some (.ref 6952), some (vI a), some (vI b), some (vI s), none, none, none, none, none, none, none, none, none] [] e M K := by
  obtain ⟨a1, a2, a3, a4⟩ := id hra
  obtain ⟨b1, b2, b3, b4⟩ := id hrb
  have da := dv_bd (B := 10) (by decide) a2.1
  have db := dv_bd (B := 10) (by decide) b2.1
  have hsb : M 6955 b * s = 0 ∨ M 6955 b * s = 1 ∨ M 6955 b * s = -1 := by
    rcases b3 with ⟨z, _⟩ | ⟨z | z, _⟩ <;> rcases hs with w | w <;> rw [z, w] <;> decide
  have hsb0 : M 6955 b * s = 0 → vb = 0 := fun z => by
    have : M 6955 b = 0 := by
      rcases hs with w | w <;> rw [w] at z <;> omega
    rw [b4, this, Int.zero_mul]
  have hv1 : s * vb = (M 6955 b * s) * dv 10 (M 6955) (b + 2) nb := by rw [b4, ← Int.mul_assoc, Int.mul_comm s]
  refine b_plus_0 (by omega) ⟨by constructor <;> omega, by constructor <;> omega, ⟨fun _ => ⟨by constructor <;> omega, by constructor <;> omega⟩, fun z => ?_⟩, fun x hx => ⟨by constructor <;> omega, fun hz1 hz2 => ?_, fun hz => ?_⟩⟩
  · refine c_copyOf hra ha0 hal (by omega) (fun M' hF hn ht => ⟨_, rfl, rfl, hK M' na (hF.mono (fun _ h => h) (by decide) (Int.le_refl _)) ?_ (by omega) (by omega) ?_⟩)
    · rw [hsb0 z, Int.mul_zero, Int.add_zero]; exact hn
    · rw [hF.2.1 8 (by decide)]
      split <;> omega
  · have hx : x = ((max na nb : Nat) : Int) := by omega
    subst hx
    have hs0 : M 6955 b * s = 1 ∨ M 6955 b * s = -1 := by omega
    have hsa : M 6955 a = 1 ∨ M 6955 a = -1 := by omega
    refine c_sizes ha0 hb0 a1 b1 a2.1 b2.1 (by omega) (by omega) (by omega) (by omega) (by omega) ⟨_, rfl, rfl, ?_⟩
    generalize hcm : cmpI (dv 10 (M 6955) (a + 2) na) (dv 10 (M 6955) (b + 2) nb) = cm
    have hcm1 : (0 ≤ cm ↔ dv 10 (M 6955) (b + 2) nb ≤ dv 10 (M 6955) (a + 2) na) ∧ (-1 ≤ cm ∧ cm ≤ 1) := by
      rw [← hcm]; unfold cmpI
      (repeat' split) <;> omega
    refine ⟨by constructor <;> omega, fun mo hmo gr hgr sm hsm => ?_⟩
    have ea := dg_dv (N := max na nb) a1 (by omega)
    have eb := dg_dv (N := max na nb) b1 (by omega)
    by_cases hge : 0 ≤ cm
    · have e1 : mo = 1 := by omega
      have e2 : gr = a := by omega
      have e3 : sm = b := by omega
      subst e1; subst e2; subst e3
      refine l_plusS (n := max na nb) (M0 := M) ha0 (by omega) ha0 hb0 a1 b1 a2.1 b2.1 hal hbl (by omega) (by omega) (Or.inr rfl) (by rw [ea, eb]; exact hcm1.1.mp hge) (by omega) (fun M1 hF hdk hv => ?_) (max na nb) 0 0 M (by omega) (RF.rf _ _ _ _) (fun i i0 i1 => by omega) (by simp [dv]) (Or.inl rfl)
      rw [ea, eb] at hv
      rw [if_neg (by decide)]
      refine c_close (by omega) (by omega) (by omega) hdk (fun z => by omega) (fun M' k hF2 hn hk ht h9 => ⟨_, rfl, rfl, hK M' k (((hF.mono (fun _ h => h) (by decide) (Int.le_refl _))).trans hF2) ?_ (by omega) ht (by rw [h9, hF.2.1 8 (by decide)])⟩)
      rw [hv, Int.mul_sub, ← a4] at hn
      have e4 : va + s * vb = va - M 6955 gr * dv 10 (M 6955) (sm + 2) nb := by
        rw [hv1]
        have : M 6955 sm * s = - M 6955 gr := by omega
        rw [this, Int.neg_mul]; omega
      rw [e4]; exact hn
    · have e1 : mo = 0 := by omega
      have e2 : gr = b := by omega
      have e3 : sm = a := by omega
      subst e1; subst e2; subst e3
      refine l_plusS (n := max na nb) (M0 := M) ha0 (by omega) hb0 ha0 b1 a1 b2.1 a2.1 hbl hal (by omega) (by omega) (Or.inl rfl) (by rw [ea, eb]; omega) (by omega) (fun M1 hF hdk hv => ?_) (max na nb) 0 0 M (by omega) (RF.rf _ _ _ _) (fun i i0 i1 => by omega) (by simp [dv]) (Or.inl rfl)
      rw [ea, eb] at hv
      rw [if_pos rfl]
      refine c_close (by omega) (by omega) (by omega) hdk (fun z => by omega) (fun M' k hF2 hn hk ht h9 => ⟨_, rfl, rfl, hK M' k (((hF.mono (fun _ h => h) (by decide) (Int.le_refl _))).trans hF2) ?_ (by omega) ht (by rw [h9, hF.2.1 8 (by decide)])⟩)
      rw [hv, Int.mul_sub, ← hv1] at hn
      have e4 : va + s * vb = s * vb - M 6955 gr * s * dv 10 (M 6955) (sm + 2) na := by
        have : M 6955 gr * s = - M 6955 sm := by omega
        rw [this, Int.neg_mul, ← a4]; omega
      rw [e4]; exact hn
  · have hx : x = ((max na nb : Nat) : Int) := by omega
    subst hx
    have hs0 : M 6955 b * s = 1 ∨ M 6955 b * s = -1 := by omega
    refine l_plusA (n := max na nb) (M0 := M) ha0 hb0 a1 b1 a2.1 b2.1 hal hbl (by omega) (by omega) (by omega) (by omega) (by omega) (fun M1 hF hdk hv => ?_) (max na nb + 1) 0 0 M (by omega) (RF.rf _ _ _ _) (fun i i0 i1 => by omega) (by simp [dv]) (Or.inl rfl) (fun z => by omega)
    rw [dg_dv (N := max na nb + 1) a1 (by omega), dg_dv (N := max na nb + 1) b1 (by omega)] at hv
    refine c_close (by omega) (by omega) (by omega) hdk (fun z => by omega) (fun M' k hF2 hn hk ht h9 => ⟨_, rfl, rfl, hK M' k (((hF.mono (fun _ h => h) (by decide) (Int.le_refl _))).trans hF2) ?_ (by omega) ht (by rw [h9, hF.2.1 8 (by decide)])⟩)
    rw [hv, Int.mul_add, ← hv1] at hn
    have e4 : M 6955 b * s * dv 10 (M 6955) (a + 2) na = va := by
      rcases hz with z | ⟨_, z⟩
      · have hn0 : na = 0 := by omega
        subst hn0
        rw [a4, z]; simp [dv]
      · rw [← z, ← a4]
    rw [e4] at hn
    exact hn
end RNUM5
