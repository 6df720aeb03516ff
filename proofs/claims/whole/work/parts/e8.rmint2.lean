/-! THE REFERENCE keeps what was minted -/
theorem rMi_set {M M' : im_M} {mi : Bk} {a v : Int} {q : Nat} (h : rMi M mi) (hq : q < mi.1) (ha : M 7045 q = a) (hh : hs2 mi a 0) (h0 : M' 6952 134 = M 6952 134) (h45 : ∀ i, M' 7045 i = if i = q then a else M 7045 i) (h46 : ∀ i, i < 302 * (q : Int) ∨ 302 * (q : Int) + 302 ≤ i → M' 7046 i = M 7046 i) (hs : sn M' 7046 q v) : rMi M' (bset mi a 0 v) := by
  obtain ⟨m1, m2, m3, m4, m5⟩ := h
  obtain ⟨l1, l2, l3⟩ := lk_bset (v := v) hh
  have e45 : ∀ i : Int, M' 7045 i = M 7045 i := fun i => by
    rw [h45]
    split
    · rename_i z; rw [z, ha]
    · rfl
  refine ⟨h0.trans m1, m2, fun i hi => ?_, fun i j hi hj => by rw [e45, e45]; exact m4 i j hi hj, fun b hb => ?_⟩
  · rw [e45]
    obtain ⟨y1, y2⟩ := m3 i hi
    refine ⟨y1, ?_⟩
    by_cases c : i = q
    · subst c
      rw [ha, l2]; exact hs
    · rw [l3 _ _ (fun z => c (m4 i q hi hq (by rw [ha]; exact z.1)))]
      exact sn_congr y2 (fun j a b => h46 j (by omega))
  · obtain ⟨i, i1, i2⟩ := m5 b hb
    exact ⟨i, i1, by rw [e45]; exact i2⟩
theorem swl_set {M M' : im_M} {wa : Bk} {a b v : Int} {q : Nat} (h : swl M wa) (hq : q < wa.1) (ha : M 7042 q = a) (hb : M 7043 q = b) (hh : hs2 wa a b) (h0 : M' 6952 130 = M 6952 130) (h42 : ∀ i, M' 7042 i = if i = q then a else M 7042 i) (h43 : ∀ i, M' 7043 i = if i = q then b else M 7043 i) (h44 : ∀ i, i < 302 * (q : Int) ∨ 302 * (q : Int) + 302 ≤ i → M' 7044 i = M 7044 i) (hs : sn M' 7044 q v) : swl M' (bset wa a b v) := by
  obtain ⟨m1, m2, m3, m4, m5⟩ := h
  obtain ⟨l1, l2, l3⟩ := lk_bset (v := v) hh
  have e42 : ∀ i : Int, M' 7042 i = M 7042 i := fun i => by
    rw [h42]
    split
    · rename_i z; rw [z, ha]
    · rfl
  have e43 : ∀ i : Int, M' 7043 i = M 7043 i := fun i => by
    rw [h43]
    split
    · rename_i z; rw [z, hb]
    · rfl
  refine ⟨h0.trans m1, m2, fun i hi => ?_, fun i j hi hj => by rw [e42, e42, e43, e43]; exact m4 i j hi hj, fun a' b' hb' => ?_⟩
  · rw [e42, e43]
    obtain ⟨y1, y2⟩ := m3 i hi
    refine ⟨y1, ?_⟩
    by_cases c : i = q
    · subst c
      rw [ha, hb, l2]; exact hs
    · rw [l3 _ _ (fun z => c (m4 i q hi hq (by rw [ha]; exact z.1) (by rw [hb]; exact z.2)))]
      exact sn_congr y2 (fun j a b => h44 j (by omega))
  · obtain ⟨i, i1, i2, i3⟩ := m5 a' b' hb'
    exact ⟨i, i1, by rw [e42]; exact i2, by rw [e43]; exact i3⟩
theorem rMi_app {M M' : im_M} {mi : Bk} {a v : Int} (h : rMi M mi) (hsb : sbk mi) (hlt : mi.1 < 60) (hh : ¬ hs2 mi a 0) (h0 : M' 6952 134 = (mi.1 : Int) + 1) (h45 : ∀ i : Int, M' 7045 i = if i = mi.1 then a else M 7045 i) (h46 : ∀ i, i < 302 * (mi.1 : Int) ∨ 302 * (mi.1 : Int) + 302 ≤ i → M' 7046 i = M 7046 i) (hs : sn M' 7046 mi.1 v) : rMi M' (bins mi a 0 v) := by
  obtain ⟨m1, m2, m3, m4, m5⟩ := h
  obtain ⟨l1, l2, l3⟩ := lk_bins (v := v) hsb hh
  have e45 : ∀ i : Nat, i < mi.1 → M' 7045 i = M 7045 i := fun i hi => by rw [h45, if_neg (by omega)]
  have e0 : M' 7045 mi.1 = a := by rw [h45, if_pos rfl]
  have hn : ∀ i : Nat, i < mi.1 → M 7045 i ≠ a := fun i hi z => hh (by rw [← z]; exact (m3 i hi).1)
  refine ⟨by rw [h0]; show _ = ((mi.1 + 1 : Nat) : Int); omega, by show mi.1 + 1 ≤ 60; omega, fun i hi => ?_, fun i j hi hj hij => ?_, fun b hb => ?_⟩
  · have hi : i < mi.1 + 1 := hi
    by_cases c : i = mi.1
    · subst c
      rw [e0, l2]
      exact ⟨(l1 a 0).mpr (Or.inl ⟨rfl, rfl⟩), hs⟩
    · obtain ⟨y1, y2⟩ := m3 i (by omega)
      rw [e45 i (by omega), l3 _ _ y1]
      exact ⟨(l1 _ _).mpr (Or.inr y1), sn_congr y2 (fun q p1 p2 => h46 q (by omega))⟩
  · have hi : i < mi.1 + 1 := hi
    have hj : j < mi.1 + 1 := hj
    by_cases ci : i = mi.1
    · by_cases cj : j = mi.1
      · omega
      · rw [ci, e0, e45 j (by omega)] at hij
        exact absurd hij.symm (hn j (by omega))
    · by_cases cj : j = mi.1
      · rw [cj, e0, e45 i (by omega)] at hij
        exact absurd hij (hn i (by omega))
      · rw [e45 i (by omega), e45 j (by omega)] at hij
        exact m4 i j (by omega) (by omega) hij
  · rcases (l1 b 0).mp hb with z | z
    · exact ⟨mi.1, by show mi.1 < mi.1 + 1; omega, by rw [e0]; exact z.1.symm⟩
    · obtain ⟨i, i1, i2⟩ := m5 b z
      exact ⟨i, by show i < mi.1 + 1; omega, by rw [e45 i i1]; exact i2⟩
theorem swl_app {M M' : im_M} {wa : Bk} {a b v : Int} (h : swl M wa) (hsb : sbk wa) (hlt : wa.1 < 60) (hh : ¬ hs2 wa a b) (h0 : M' 6952 130 = (wa.1 : Int) + 1) (h42 : ∀ i : Int, M' 7042 i = if i = wa.1 then a else M 7042 i) (h43 : ∀ i : Int, M' 7043 i = if i = wa.1 then b else M 7043 i) (h44 : ∀ i, i < 302 * (wa.1 : Int) ∨ 302 * (wa.1 : Int) + 302 ≤ i → M' 7044 i = M 7044 i) (hs : sn M' 7044 wa.1 v) : swl M' (bins wa a b v) := by
  obtain ⟨m1, m2, m3, m4, m5⟩ := h
  obtain ⟨l1, l2, l3⟩ := lk_bins (v := v) hsb hh
  have e42 : ∀ i : Nat, i < wa.1 → M' 7042 i = M 7042 i := fun i hi => by rw [h42, if_neg (by omega)]
  have e43 : ∀ i : Nat, i < wa.1 → M' 7043 i = M 7043 i := fun i hi => by rw [h43, if_neg (by omega)]
  have e0 : M' 7042 wa.1 = a := by rw [h42, if_pos rfl]
  have e1 : M' 7043 wa.1 = b := by rw [h43, if_pos rfl]
  have hn : ∀ i : Nat, i < wa.1 → M 7042 i = a → M 7043 i = b → False := fun i hi z1 z2 => hh (by rw [← z1, ← z2]; exact (m3 i hi).1)
  refine ⟨by rw [h0]; show _ = ((wa.1 + 1 : Nat) : Int); omega, by show wa.1 + 1 ≤ 60; omega, fun i hi => ?_, fun i j hi hj hij hij2 => ?_, fun a' b' hb => ?_⟩
  · have hi : i < wa.1 + 1 := hi
    by_cases c : i = wa.1
    · subst c
      rw [e0, e1, l2]
      exact ⟨(l1 a b).mpr (Or.inl ⟨rfl, rfl⟩), hs⟩
    · obtain ⟨y1, y2⟩ := m3 i (by omega)
      rw [e42 i (by omega), e43 i (by omega), l3 _ _ y1]
      exact ⟨(l1 _ _).mpr (Or.inr y1), sn_congr y2 (fun q p1 p2 => h44 q (by omega))⟩
  · have hi : i < wa.1 + 1 := hi
    have hj : j < wa.1 + 1 := hj
    by_cases ci : i = wa.1
    · by_cases cj : j = wa.1
      · omega
      · rw [ci, e0, e42 j (by omega)] at hij
        rw [ci, e1, e43 j (by omega)] at hij2
        exact (hn j (by omega) hij.symm hij2.symm).elim
    · by_cases cj : j = wa.1
      · rw [cj, e0, e42 i (by omega)] at hij
        rw [cj, e1, e43 i (by omega)] at hij2
        exact (hn i (by omega) hij hij2).elim
      · rw [e42 i (by omega), e42 j (by omega)] at hij
        rw [e43 i (by omega), e43 j (by omega)] at hij2
        exact m4 i j (by omega) (by omega) hij hij2
  · rcases (l1 a' b').mp hb with z | z
    · exact ⟨wa.1, by show wa.1 < wa.1 + 1; omega, by rw [e0]; exact z.1.symm, by rw [e1]; exact z.2.symm⟩
    · obtain ⟨i, i1, i2, i3⟩ := m5 a' b' z
      exact ⟨i, by show i < wa.1 + 1; omega, by rw [e42 i i1]; exact i2, by rw [e43 i i1]; exact i3⟩
