/-! which codes a written call gives -/
theorem ne_fst {a b : Int} {u : Wd} (h : a ≠ b) : ((a, u) : Int × Wd).1 ≠ b := h
theorem entO_3 {ag : Int} {J : Jw} {kd many a b c n : Int} {t : Int → Int} : (entO ag J kd many a b c t n).1 ≠ -102 ∧ (entO ag J kd many a b c t n).1 ≠ -101 := by
  have := entO_i (ag := ag) (J := J) (kd := kd) (many := many) (a := a) (b := b) (c := c) (t := t) (n := n)
  omega
theorem keO_c {ag k n w0 : Int} {t : Int → Int} {w : Wd} (hn : 0 ≤ n) (hW : WFP w.gRw w.gM) : (keO w ag k t n w0).1 ≠ -102 := by
  unfold keO
  by_cases c1 : ¬ (0 ≤ k ∧ k < 16)
  · rw [if_pos c1]; exact ne_fst (by decide)
  rw [if_neg c1]
  by_cases c2 : w.gRt k ≠ -1
  · rw [if_pos c2]; exact ne_fst (by decide)
  rw [if_neg c2]
  cases hS : prsT t n w.gM w0 with
  | inl f => show (-1 : Int) ≠ -102; decide
  | inr S =>
    dsimp only
    by_cases c4 : 4000 < S.2.2.1
    · rw [if_pos c4]; exact ne_fst (by decide)
    rw [if_neg c4]
    by_cases c3 : (entO ag w.gJr 1 1 k 0 0 t n).1 ≠ 0
    · rw [if_pos c3]; exact entO_3.1
    rw [if_neg c3]
    have := (prsT_gx hS hn hW.1 hW.2.1).1
    show S.2.2.1 - w.gM ≠ -102
    omega
theorem drO_c {ag k : Int} {w : Wd} : (drO w ag k).1 ≠ -102 := by
  unfold drO
  by_cases c1 : ¬ (0 ≤ k ∧ k < 16)
  · rw [if_pos c1]; exact ne_fst (by decide)
  rw [if_neg c1]
  by_cases c2 : w.gRt k = -1
  · rw [if_pos c2]; exact ne_fst (by decide)
  rw [if_neg c2]
  by_cases c3 : (entO ag w.gJr 2 1 k 0 0 z0 0).1 ≠ 0
  · rw [if_pos c3]; exact entO_3.1
  · rw [if_neg c3]; exact ne_fst (by decide)
theorem fgO_c {ag : Int} {w : Wd} : (fgO w ag).1 ≠ -102 ∧ (fgO w ag).1 ≠ -101 := by
  unfold fgO
  by_cases c3 : (entO ag w.gJr 8 0 0 0 0 z0 0).1 ≠ 0
  · rw [if_pos c3]; exact entO_3
  · rw [if_neg c3]
    show (w.gPm.1 : Int) ≠ -102 ∧ (w.gPm.1 : Int) ≠ -101
    omega
theorem enO_c {ag i : Int} {w : Wd} : (enO w ag i).1 ≠ -102 := by
  unfold enO
  by_cases c1 : ¬ (0 ≤ i ∧ i < 16)
  · rw [if_pos c1]; exact ne_fst (by decide)
  rw [if_neg c1]
  by_cases c2 : (w.gIn i).1 = 0
  · rw [if_pos c2]; exact ne_fst (by decide)
  rw [if_neg c2]
  by_cases c4 : ¬ ovr w i
  · rw [if_pos c4]; exact ne_fst (by decide)
  rw [if_neg c4]
  by_cases c3 : (entO ag w.gJr 4 1 i 0 0 z0 0).1 ≠ 0
  · rw [if_pos c3]; exact entO_3.1
  · rw [if_neg c3]; exact ne_fst (by decide)
theorem paO_c {ag nm n : Int} {t : Int → Int} {w : Wd} : (paO w ag nm t n).1 ≠ -101 := by
  unfold paO
  by_cases c1 : ¬ nmV nm
  · rw [ifq_pos c1]; exact ne_fst (by decide)
  rw [ifq_neg c1]
  cases hv : nuT t n with
  | inl f => show (-1 : Int) ≠ -101; decide
  | inr v =>
    dsimp only
    by_cases c2 : ¬ hs2 w.gPm nm 0 ∧ 20 ≤ w.gPm.1
    · rw [if_pos c2]; exact ne_fst (by decide)
    rw [if_neg c2]
    by_cases c3 : (entO ag w.gJr 7 1 nm 0 0 t n).1 ≠ 0
    · rw [if_pos c3]; exact entO_3.2
    rw [if_neg c3]
    cases hb : bput w.gPm 20 nm 0 v with
    | none => show (0 : Int) ≠ -101; decide
    | some β => show (β.1 : Int) ≠ -101; omega
theorem miO_c {ag pa tk' n : Int} {t : Int → Int} {w : Wd} : (miO w ag pa tk' t n).1 ≠ -101 := by
  unfold miO
  by_cases c1 : ¬ nmV pa ∨ ¬ nmV tk'
  · rw [ifq_pos c1]; exact ne_fst (by decide)
  rw [ifq_neg c1]
  cases hv : nuT t n with
  | inl f => show (-1 : Int) ≠ -101; decide
  | inr v =>
    dsimp only
    by_cases c2 : v ≤ 0
    · rw [if_pos c2]; exact ne_fst (by decide)
    rw [if_neg c2]
    by_cases c5 : ¬ sm (hld w.gMi tk' 0 + v)
    · rw [ifq_pos c5]; exact ne_fst (by decide)
    rw [ifq_neg c5]
    by_cases c4 : (¬ hs2 w.gWa pa tk' ∧ 60 ≤ w.gWa.1) ∨ (¬ hs2 w.gMi tk' 0 ∧ 60 ≤ w.gMi.1)
    · rw [if_pos c4]; exact ne_fst (by decide)
    rw [if_neg c4]
    by_cases c3 : (entO ag w.gJr 5 2 pa tk' 0 t n).1 ≠ 0
    · rw [if_pos c3]; exact entO_3.2
    rw [if_neg c3]
    cases hb : bcre w.gWa 60 pa tk' v with
    | inl z => show (0 : Int) ≠ -101; decide
    | inr β =>
      dsimp only
      cases hc : bcre w.gMi 60 tk' 0 v with
      | inl z => show (0 : Int) ≠ -101; decide
      | inr γ => show (0 : Int) ≠ -101; decide
theorem trO_c {ag i fr to n cp : Int} {t : Int → Int} {J0 : Ip} {ρ ρ' : Rl} {w : Wd} : (trO w ag i fr to t n J0 ρ ρ' cp).1 ≠ -102 := by
  unfold trO
  by_cases c1 : ¬ (0 ≤ i ∧ i < 16)
  · rw [if_pos c1]; exact ne_fst (by decide)
  rw [if_neg c1]
  by_cases c2 : (w.gIn i).1 = 0
  · rw [if_pos c2]; exact ne_fst (by decide)
  rw [if_neg c2]
  cases hI : inpT t n J0 with
  | inl f => show (-1 : Int) ≠ -102; decide
  | inr J =>
    dsimp only
    cases hR : trR w i fr to J ρ ρ' cp with
    | inl z => have := runO_rng hR; show z ≠ -102; omega
    | inr s =>
      dsimp only
      by_cases c3 : (entO ag w.gJr 6 3 i fr to t n).1 ≠ 0
      · rw [if_pos c3]; exact entO_3.1
      · rw [if_neg c3]; exact ne_fst (by decide)
/-! the shapes of the law's continuations -/
abbrev RKi (g : im_g) (d : Nat) (e : im_E) (p4 : Int) (K : im_K) (x6 : Int) : im_K := im_ri (fun x10 e_ M7 => e = e_ ∧ im_T g (d - 1) 262 0 [some (.ref 6952)] [] e M7 (im_ri (fun x14 e_ M11 => e = e_ ∧ (im_i32 x14) ∧ (im_i32 x6) ∧ ((((x14 = x6 → ((x6 = 0 → (im_i32 x10) ∧ ((¬ (M11 7081 0) = x10 → K (.inl (some (vI 0))) e M11))))) ∧ (¬ x14 = x6 → K (.inl (some (vI 0))) e M11))) ∧ ((((x14 = x6) ∧ (¬ x6 = 0)) ∨ ((x14 = x6) ∧ (x6 = 0) ∧ ((M11 7081 0) = x10))) → im_T g d 452 23 (lwL (p4 + 6)) [] e M11 K)))))
abbrev RKl (g : im_g) (d : Nat) (e : im_E) (p4 : Int) (K : im_K) (x6 : Int) : im_K := im_rl (fun x10 e_ M7 => e = e_ ∧ im_T g (d - 1) 262 0 [some (.ref 6952)] [] e M7 (im_ri (fun x14 e_ M11 => e = e_ ∧ (im_i32 x14) ∧ (im_i32 x6) ∧ ((((x14 = x6 → ((x6 = 0 → (im_i64 x10) ∧ ((¬ (M11 7081 0) = x10 → K (.inl (some (vI 0))) e M11))))) ∧ (¬ x14 = x6 → K (.inl (some (vI 0))) e M11))) ∧ ((((x14 = x6) ∧ (¬ x6 = 0)) ∨ ((x14 = x6) ∧ (x6 = 0) ∧ ((M11 7081 0) = x10))) → im_T g d 452 23 (lwL (p4 + 6)) [] e M11 K)))))
abbrev RKv (g : im_g) (d : Nat) (e : im_E) (p4 : Int) (K : im_K) (x6 : Int) : im_K := im_r0 (fun e_ M7 => e = e_ ∧ im_T g (d - 1) 262 0 [some (.ref 6952)] [] e M7 (im_ri (fun x13 e_ M10 => e = e_ ∧ (im_i32 x13) ∧ (im_i32 x6) ∧ ((x13 = x6 → im_T g d 452 23 (lwL (p4 + 6)) [] e M10 K) ∧ (¬ x13 = x6 → K (.inl (some (vI 0))) e M10)))))
section LAWD
variable {g : im_g} {d : Nat} {e : im_E} {M M3 M' : im_M} {K : im_K} {w : Wd} {p4 x6 x10 v : Int}
theorem rk_i (hx : 0 ≤ x6 ∧ x6 ≤ 3) (h0 : M' 6952 0 = x6) (hv : x6 = 0 → M' 7081 0 = nqI v) (hN : im_T g d 452 23 (lwL (p4 + 6)) [] e M' K) : RKi g d e p4 K x6 (.inl (some (vI v))) e M' := ⟨nqI v, by rw [← nqI_v], rfl, tl_i hx h0 (fun z => ⟨nqI_r v, hv z⟩) hN⟩
theorem rk_l (hx : 0 ≤ x6 ∧ x6 ≤ 3) (h0 : M' 6952 0 = x6) (hv : x6 = 0 → M' 7081 0 = nqL v) (hN : im_T g d 452 23 (lwL (p4 + 6)) [] e M' K) : RKl g d e p4 K x6 (.inl (some (vL v))) e M' := ⟨nqL v, by rw [← nqL_v], rfl, tl_l hx h0 (fun z => ⟨nqL_r v, hv z⟩) hN⟩
theorem rk_v (hx : 0 ≤ x6 ∧ x6 ≤ 3) (h0 : M' 6952 0 = x6) (hN : im_T g d 452 23 (lwL (p4 + 6)) [] e M' K) : RKv g d e p4 K x6 (.inl none) e M' := ⟨rfl, rfl, tl_v hx h0 hN⟩
theorem tc_r (r : Int) : (0 ≤ tc1 r ∧ tc1 r ≤ 3) ∧ (0 ≤ tc12 r ∧ tc12 r ≤ 3) ∧ (0 ≤ tcA2 r ∧ tcA2 r ≤ 3) ∧ (0 ≤ tc123 r ∧ tc123 r ≤ 3) := by
  unfold tc1 tc12 tcA2 tc123
  refine ⟨?_, ?_, ?_, ?_⟩ <;> (repeat' split) <;> decide
end LAWD
