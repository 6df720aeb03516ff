/-! ABOUT on the reference: whens in whens; as it is called -/
def lnkd (R : Rw) (i x : Int) : Prop := R 16 i = x ∨ R 17 i = x ∨ (R 0 i ≠ 3 ∧ R 18 i = x) ∨ R 19 i = x
def w2H (R : Rw) (m : Int) : Prop := (∀ i, 0 ≤ i → i < m → ∀ s : Nat, 16 ≤ s → s ≤ 18 → (s = 18 → R 0 i ≠ 3) → R s i ≠ -1 → R 2 (R s i) = R 2 i + (if R 0 (R s i) = 3 then 1 else 0)) ∧ (∀ i, 0 ≤ i → i < m → R 19 i ≠ -1 → R 2 (R 19 i) = R 2 i) ∧ (∀ n, 0 ≤ n → n < m → R 1 n = 0 → R 2 n = if R 0 n = 3 then 1 else 0) ∧ (∀ n, 0 ≤ n → n < m → R 1 n ≠ 0 → ∃ i, (0 ≤ i ∧ i < n) ∧ lnkd R i n ∧ ∀ x, i < x → x < n → 0 < R 1 x)
section ABOUTR2
variable {g : im_g} {d : Nat} {e : im_E} {M M0 : im_M} {K : im_K} {R : Rw} {m : Int}
/-- a link's part gets its number -/
theorem c_standIn {c v : Int} (hR : RP M0 R m) (hW : WFP R m) (hc : -1 ≤ c ∧ c < m) (hF : ∀ x, x ≠ 6991 → M x = M0 x) (hv : c ≠ -1 → R 2 c = v + (if R 0 c = 3 then 1 else 0)) (h2 : c ≠ -1 → im_i32 (R 2 c)) (hK : ∀ M', (∀ x, x ≠ 6991 → M' x = M0 x) → (∀ x, M' 6991 x = if x = c ∧ c ≠ -1 then R 2 c else M 6991 x) → K (.inl none) e M') : im_T g d 330 0 [some (.ref 6952), some (vI c), some (vI v)] [] e M K := by
  have m5 := hW.2.1
  by_cases c1 : c = -1
  · exact b_standIn_0 ⟨by constructor <;> omega, ⟨fun _ => hK M hF (fun x => by rw [if_neg (fun z => z.2 c1)]), fun z => absurd c1 z⟩, fun x hx => by omega⟩
  · have hkn := (hW.2.2 c (by omega) hc.2).1.1
    have hn := (hW.2.2 c (by omega) hc.2).2.1
    have hP := kRP5 hkn.1 hkn.2 hn.2.2.2
    have e60 : M 6960 c = kR (R 0 c) (R 3 c) := by rw [hF 6960 (by decide)]; exact (hR c (by omega) hc.2).1
    have hv := hv c1
    have h2 := h2 c1
    refine b_standIn_0 ⟨by constructor <;> omega, ⟨fun z => absurd z c1, fun _ => ⟨by omega, by omega⟩⟩, fun x hx => ?_⟩
    have hxv : v + x = R 2 c := by
      rw [hv]
      rw [e60] at hx
      by_cases k3 : R 0 c = 3
      · have := hP.mpr k3
        rw [if_pos k3]; clear hkn hn; omega
      · have : ¬ kR (R 0 c) (R 3 c) = 5 := fun z => k3 (hP.mp z)
        rw [if_neg k3]; clear hkn hn; omega
    rw [hxv]
    refine ⟨⟨by omega, by omega⟩, h2, hK _ (fun y hy => by rw [im_u_ne _ _ _ hy]; exact hF y hy) (fun y => ?_)⟩
    rw [im_rdx]
    by_cases cy : y = c
    · rw [if_pos cy, if_pos ⟨cy, c1⟩]
    · rw [if_neg cy, if_neg (fun z => cy z.1)]
theorem l_most {r e1 : Int} (hR : RP M0 R m) (hW : WFP R m) (hl : lkR R m) (hw : w2H R m) (h2b : ∀ j, 0 ≤ j → j < m → 0 ≤ R 2 j ∧ R 2 j ≤ 5000) (hr : 0 ≤ r ∧ r < e1 ∧ e1 ≤ m) (hr1 : R 1 r = 0) (hdeep : ∀ x, r < x → x < e1 → R 1 r < R 1 x) (hd : 2 ≤ d)
    (hK : ∀ M', (∀ x, x ≠ 6991 → M' x = M0 x) → K (.inl (some (vI (nwM R r (e1 - r).toNat)))) e M') :
    ∀ (j k : Nat) (M : im_M), r + k + j = e1 → (∀ x, x ≠ 6991 → M x = M0 x) → (∀ x, r ≤ x → x < e1 → (x = r ∨ ∃ i, r ≤ i ∧ i < r + k ∧ lnkd R i x) → M 6991 x = R 2 x) → im_T g d 329 26 [some (.ref 6952), none, some (vI e1), some (vI (nwM R r k)), some (vI (r + k))] [] e M K := by
  obtain ⟨hw1, hw2, hw3, hw4⟩ := hw
  have m5 := hW.2.1
  intro j
  induction j with
  | zero =>
    intro k M hk hF hQ
    have ek : k = (e1 - r).toNat := by omega
    refine b_mostWhens_26 (by omega) ⟨by constructor <;> omega, by constructor <;> omega, ⟨fun _ => by rw [ek]; exact hK M hF, fun z => by omega⟩, fun x hx => by omega⟩
  | succ j ih =>
    intro k M hk hF hQ
    have hn0 : 0 ≤ r + k ∧ r + k < m := ⟨by omega, by omega⟩
    have hwn : M 6991 (r + k) = R 2 (r + k) := by
      refine hQ (r + k) (by omega) (by omega) ?_
      by_cases c : k = 0
      · exact Or.inl (by omega)
      · have hdp := hdeep (r + k) (by omega) (by omega)
        obtain ⟨i, i0, i1, i2⟩ := hw4 (r + k) hn0.1 hn0.2 (by omega)
        refine Or.inr ⟨i, ?_, by omega, i1⟩
        apply Decidable.byContradiction
        intro hlt
        have := i2 r (by omega) (by omega)
        omega
    have hb := nwM_b h2b hr.1 k (by omega)
    have h2n := h2b (r + k) hn0.1 hn0.2
    have hln := hl (r + k) hn0.1 hn0.2
    have l16 := hln 16 (by decide) (by decide)
    have l17 := hln 17 (by decide) (by decide)
    have l18 := hln 18 (by decide) (by decide)
    have l19 := hln 19 (by decide) (by decide)
    have hkn := (hW.2.2 (r + k) hn0.1 hn0.2).1.1
    have hnm := (hW.2.2 (r + k) hn0.1 hn0.2).2.1
    have hP := kRP5 hkn.1 hkn.2 hnm.2.2.2
    have hrow := hR (r + k) hn0.1 hn0.2
    obtain ⟨q16, q17, q18, q19⟩ := hrow.2.2.2.1
    have eM : ∀ (M' : im_M), (∀ x, x ≠ 6991 → M' x = M0 x) → M' 6960 (r + k) = kR (R 0 (r + k)) (R 3 (r + k)) ∧ M' 6964 (r + k) = R 16 (r + k) ∧ M' 6965 (r + k) = R 17 (r + k) ∧ M' 6966 (r + k) = R 18 (r + k) ∧ M' 6967 (r + k) = R 19 (r + k) := fun M' h' => ⟨by rw [h' 6960 (by decide)]; exact hrow.1, by rw [h' 6964 (by decide)]; exact q16, by rw [h' 6965 (by decide)]; exact q17, by rw [h' 6966 (by decide)]; exact q18, by rw [h' 6967 (by decide)]; exact q19⟩
    have i32_2 : ∀ c, -1 ≤ c ∧ c < m → c ≠ -1 → im_i32 (R 2 c) := fun c hc hne => by have := h2b c (by omega) hc.2; constructor <;> omega
    have hmx : nwM R r (k + 1) = max (nwM R r k) (R 2 (r + k)) := rfl
    -- the end of a turn
    have fin : ∀ (M' : im_M) (x9 : Int), x9 = nwM R r (k + 1) → (∀ x, x ≠ 6991 → M' x = M0 x) → (∀ x, M' 6991 x = R 2 x ∨ M' 6991 x = M 6991 x) → (∀ x, 0 ≤ x → (R 16 (r + k) = x ∨ R 17 (r + k) = x ∨ (R 0 (r + k) ≠ 3 ∧ R 18 (r + k) = x)) → M' 6991 x = R 2 x) → M' 6991 (r + k) = R 2 (r + k) → ((M' 6967 (r + k)) = (-1) → im_T g d 329 26 [some (.ref 6952), none, some (vI e1), some (vI x9), some (vI (r + k + 1))] [] e M' K) ∧ (¬ (M' 6967 (r + k)) = (-1) → (0 ≤ (M' 6967 (r + k)) ∧ (M' 6967 (r + k)) < 5100) ∧ im_T g d 329 26 [some (.ref 6952), none, some (vI e1), some (vI x9), some (vI (r + k + 1))] [] e (im_u M' 6991 (M' 6967 (r + k)) (M' 6991 (r + k))) K) := by
      intro M' x9 hx9 hF' hor hlk' hself
      rw [(eM M' hF').2.2.2.2, hself, hx9]
      have r1k : (r + ((k + 1 : Nat) : Int)) = r + k + 1 := by omega
      refine ⟨fun z => ?_, fun z => ⟨⟨by omega, by omega⟩, ?_⟩⟩
      · have := ih (k + 1) M' (by omega) hF' (fun x x0 x1 hx => ?_)
        · rw [r1k] at this; exact this
        · rcases hx with c | ⟨i, i0, i1, i2⟩
          · rcases hor x with o | o
            · exact o
            · rw [o]; exact hQ x x0 x1 (Or.inl c)
          · by_cases ci : i = r + k
            · rw [ci] at i2
              rcases i2 with c | c | c | c
              · exact hlk' x (by omega) (Or.inl c)
              · exact hlk' x (by omega) (Or.inr (Or.inl c))
              · exact hlk' x (by omega) (Or.inr (Or.inr c))
              · omega
            · rcases hor x with o | o
              · exact o
              · rw [o]; exact hQ x x0 x1 (Or.inr ⟨i, i0, by omega, i2⟩)
      · have := ih (k + 1) (im_u M' 6991 (R 19 (r + k)) (R 2 (r + k))) (by omega) (fun x hx => by rw [im_u_ne _ _ _ hx]; exact hF' x hx) (fun x x0 x1 hx => ?_)
        · rw [r1k] at this; exact this
        · rw [im_rdx]
          by_cases cx : x = R 19 (r + k)
          · rw [if_pos cx, cx]; exact (hw2 (r + k) hn0.1 hn0.2 z).symm
          · rw [if_neg cx]
            rcases hx with c | ⟨i, i0, i1, i2⟩
            · rcases hor x with o | o
              · exact o
              · rw [o]; exact hQ x x0 x1 (Or.inl c)
            · by_cases ci : i = r + k
              · rw [ci] at i2
                rcases i2 with c | c | c | c
                · exact hlk' x (by omega) (Or.inl c)
                · exact hlk' x (by omega) (Or.inr (Or.inl c))
                · exact hlk' x (by omega) (Or.inr (Or.inr c))
                · exact absurd c.symm cx
              · rcases hor x with o | o
                · exact o
                · rw [o]; exact hQ x x0 x1 (Or.inr ⟨i, i0, by omega, i2⟩)
    clear hkn hnm
    refine b_mostWhens_26 (by omega) ⟨by constructor <;> omega, by constructor <;> omega, ⟨fun z => by omega, fun _ => ⟨⟨by omega, by omega⟩, by constructor <;> omega⟩⟩, fun x9 h9 => ⟨⟨by omega, by omega⟩, ?_⟩⟩
    rw [hwn] at h9
    have hx9 : x9 = nwM R r (k + 1) := by rw [hmx]; omega
    rw [(eM M hF).2.1, hwn]
    refine c_standIn hR hW l16 hF (fun z => hw1 (r + k) hn0.1 hn0.2 16 (by decide) (by decide) (fun q => absurd q (by decide)) z) (i32_2 _ l16) (fun M1 F1 v1 => ⟨rfl, rfl, ?_⟩)
    have s1 : M1 6991 (r + k) = R 2 (r + k) := by
      rw [v1]; split
      · rename_i z; rw [← z.1]
      · exact hwn
    rw [(eM M1 F1).2.2.1, s1]
    refine c_standIn hR hW l17 F1 (fun z => hw1 (r + k) hn0.1 hn0.2 17 (by decide) (by decide) (fun q => absurd q (by decide)) z) (i32_2 _ l17) (fun M2 F2 v2 => ⟨rfl, rfl, ?_⟩)
    have s2 : M2 6991 (r + k) = R 2 (r + k) := by
      rw [v2]; split
      · rename_i z; rw [← z.1]
      · exact s1
    have or2 : ∀ x, M2 6991 x = R 2 x ∨ M2 6991 x = M 6991 x := fun x => by
      rw [v2, v1]
      split
      · rename_i z; rw [z.1]; exact Or.inl rfl
      · split
        · rename_i z; rw [z.1]; exact Or.inl rfl
        · exact Or.inr rfl
    have lk2 : ∀ x, 0 ≤ x → (R 16 (r + k) = x ∨ R 17 (r + k) = x) → M2 6991 x = R 2 x := fun x x0 hx => by
      rw [v2, v1]
      rcases hx with z | z
      · by_cases c : x = R 17 (r + k) ∧ R 17 (r + k) ≠ -1
        · rw [if_pos c, c.1]
        · rw [if_neg c, if_pos ⟨z.symm, by omega⟩, z]
      · rw [if_pos ⟨z.symm, by omega⟩, z]
    rw [(eM M2 F2).1]
    refine ⟨fun k5 => ?_, fun k5 => ?_⟩
    · have k3 := hP.mp k5
      refine fin M2 x9 hx9 F2 or2 (fun x x0 hx => ?_) s2
      rcases hx with z | z | z
      · exact lk2 x x0 (Or.inl z)
      · exact lk2 x x0 (Or.inr z)
      · exact absurd k3 z.1
    · have k3 : R 0 (r + k) ≠ 3 := fun z => k5 (hP.mpr z)
      rw [(eM M2 F2).2.2.2.1, s2]
      refine c_standIn hR hW l18 F2 (fun z => hw1 (r + k) hn0.1 hn0.2 18 (by decide) (by decide) (fun _ => k3) z) (i32_2 _ l18) (fun M3 F3 v3 => ⟨rfl, rfl, ?_⟩)
      refine fin M3 x9 hx9 F3 (fun x => ?_) (fun x x0 hx => ?_) ?_
      · rw [v3]; split
        · rename_i z; rw [z.1]; exact Or.inl rfl
        · exact or2 x
      · rw [v3]
        by_cases c : x = R 18 (r + k) ∧ R 18 (r + k) ≠ -1
        · rw [if_pos c, c.1]
        · rw [if_neg c]
          rcases hx with z | z | z
          · exact lk2 x x0 (Or.inl z)
          · exact lk2 x x0 (Or.inr z)
          · exact absurd ⟨z.2.symm, by omega⟩ c
      · rw [v3]; split
        · rename_i z; rw [← z.1]
        · exact s2
end ABOUTR2
section ABOUTR3
variable {g : im_g} {d : Nat} {e : im_E} {M : im_M} {K : im_K} {w : Wd}
theorem RW.abf {M M' : im_M} {w : Wd} (h : RW M w) (hx : ∀ x, x ≠ 6952 → x ≠ 6989 → x ≠ 6990 → x ≠ 6991 → M' x = M x) (hk : ∀ k, k ≠ 60 → M' 6952 k = M 6952 k) : RW M' w := by
  obtain ⟨s8, s116, s99, s100⟩ := h.2.2.2.2.2.2
  exact h.scr0 ⟨fun x a b c d f => hx x a (by omega) (by omega) (by omega), fun x i a b c => by rw [hx x (by omega) (by omega) (by omega) (by omega)], fun x i a b => by rw [hx x (by omega) (by omega) (by omega) (by omega)], fun i _ => by rw [hx 6955 (by decide) (by decide) (by decide) (by decide)], fun k hk' => hk k (by omega)⟩ (hk 19 (by decide)) (hk 20 (by decide)) ⟨by rw [hk 8 (by decide)]; exact s8, by rw [hk 116 (by decide)]; exact s116, by rw [hk 99 (by decide)]; exact s99, by rw [hk 100 (by decide)]; exact s100⟩
theorem c_R_about {k q : Int} (h : RW M w) (hW : WFP w.gRw w.gM) (hA : abH w.gRw w.gM) (hl : lkR w.gRw w.gM) (hw2 : w2H w.gRw w.gM) (he : ∀ j, 0 ≤ j → j < w.gM → ends (w.gRw 1) w.gM j (eN w.gRw w.gM j)) (hk : im_i32 k) (hq : im_i32 q) (hrt : 0 ≤ k ∧ k < 16 → w.gRt k ≠ -1 → (0 ≤ w.gRt k ∧ w.gRt k < w.gM) ∧ w.gRw 1 (w.gRt k) = 0 ∧ eN w.gRw w.gM (w.gRt k) - w.gRt k ≤ 1000) (hd : 4 ≤ d)
    (hKt : mco 3 w.gJr.2.2.2.2 (0 ≤ k ∧ k < 16) (0 ≤ q ∧ q ≤ 4) (0 ≤ k ∧ k < 16 ∧ w.gRt k ≠ -1) ≠ 0 → ∀ M', (∀ z, z < 6952 ∨ 7080 < z → M' z = M z) → RW M' w → M' 6952 0 = mco 3 w.gJr.2.2.2.2 (0 ≤ k ∧ k < 16) (0 ≤ q ∧ q ≤ 4) (0 ≤ k ∧ k < 16 ∧ w.gRt k ≠ -1) → K (.inl (some (vL 0))) e M')
    (hK : w.gJr.2.2.2.2 = 0 → 0 ≤ k ∧ k < 16 → 0 ≤ q ∧ q ≤ 4 → w.gRt k ≠ -1 → ∀ M', (∀ z, z < 6952 ∨ 7080 < z → M' z = M z) → RW M' w → M' 6952 0 = 0 → K (.inl (some (vL (abV w.gRw w.gM (w.gRt k) q)))) e M') : im_T g d 328 0 [some (.ref 6952), some (vI k), some (vI q), none, none, none, none, none] [] e M K := by
  have rt := h.2.1.2.1
  have m5 := hW.2.1
  refine b_about_0 (by omega) ⟨hk, c_isInQ (by constructor <;> omega) (by decide) (by decide) (fun a ha => ⟨_, rfl, rfl, hq, c_isInQ (by constructor <;> omega) (by decide) (by decide) (fun b hb => ⟨_, rfl, rfl, c_isInQ (by constructor <;> omega) (by decide) (by decide) (fun c hc => ⟨_, rfl, rfl, by constructor <;> omega, fun hc1 => ⟨⟨by omega, by omega⟩, fun hne => ?_⟩, fun hor => ?_⟩)⟩)⟩)⟩
  · have hkI : 0 ≤ k ∧ k < 16 := by omega
    have hr : w.gRt k ≠ -1 := fun z => hne ((rt k hkI.1 hkI.2).1 z)
    refine c_mayQ (A := 0 ≤ k ∧ k < 16) (B := 0 ≤ q ∧ q ≤ 4) (C := 0 ≤ k ∧ k < 16 ∧ w.gRt k ≠ -1) h (by decide) (by decide) (by omega) hb (Or.inl ⟨rfl, hkI.1, hkI.2, hr⟩) (fun hm M1 W1 e0 ez ek => ⟨_, rfl, rfl, by decide, fun z => absurd rfl z, fun _ => hKt hm M1 (fun z hz => ez z (by omega)) W1 e0⟩) (fun hz _ hB _ M1 W1 e0 ez ek => ⟨_, rfl, rfl, by decide, fun _ => ?_, fun z => absurd z (by decide)⟩)
    have e85 : M1 6985 k = w.gRt k := by rw [ez 6985 (by decide)]; exact ((rt k hkI.1 hkI.2).2 hr).2.1
    have e86 : M1 6986 k = eN w.gRw w.gM (w.gRt k) - w.gRt k := by rw [ez 6986 (by decide)]; exact ((rt k hkI.1 hkI.2).2 hr).2.2
    rw [e85, e86]
    obtain ⟨q1, q2, q3⟩ := hrt hkI hr
    have hK := hK hz hkI hB hr
    obtain ⟨n1, n2, n3, _⟩ := he _ q1.1 q1.2
    generalize w.gRt k = r at hK q1 q2 q3 n1 n2 n3 e85 e86
    have ee : r + (eN w.gRw w.gM r - r) = eN w.gRw w.gM r := by omega
    rw [ee]
    have hP := W1.2.1.1.1
    have fr1 : ∀ z, z < 6952 ∨ 7080 < z → M1 z = M z := fun z hz => ez z (by omega)
    unfold abV at hK
    have hz0 : (r + ((0 : Nat) : Int)) = r := by omega
    have hF60 : aF M1 (im_u M1 6952 60 0) := ⟨fun x a _ _ => im_u_ne _ _ _ a, fun k a => im_rdk _ _ _ a⟩
    have sq0 : ∀ κ, sQ (im_u M1 6952 60 0) κ r 0 := fun κ => ⟨im_rds _ _ _ _, fun a b => ⟨fun ⟨x, x0, x1, _⟩ => by rw [im_rds] at x1; omega, fun ⟨x, x0, x1, _⟩ => by omega⟩⟩
    have hWaf : ∀ M', aF M1 M' → RW M' w ∧ (∀ z, z < 6952 ∨ 7080 < z → M' z = M z) ∧ M' 6952 0 = 0 := fun M' F' => ⟨W1.abf (fun x a b c _ => F'.1 x a b c) F'.2, fun z hz => (F'.1 z (by omega) (by omega) (by omega)).trans (fr1 z hz), (F'.2 0 (by decide)).trans e0⟩
    refine ⟨fun nq1 => ⟨fun nq3 => ?_, fun q3' => ?_⟩, fun q1' => ?_⟩
    · by_cases c0 : q = 0
      · subst c0
        rw [if_pos rfl] at hK
        have hP' : RP (im_u M1 6952 60 0) w.gRw w.gM := RP_congr hP (im_rdk _ _ _ (by decide)) (im_rdk _ _ _ (by decide)) (fun x a b => im_u_ne _ _ _ (by omega)) (fun i _ => by rw [im_u_ne _ _ _ (by decide)])
        have := l_ab0 (g := g) (d := d) (e := e) (K := K) hP' hW ⟨q1.1, n1, n2⟩ (by omega) (hK _ (hWaf _ hF60).2.1 (hWaf _ hF60).1 (hWaf _ hF60).2.2) (eN w.gRw w.gM r - r).toNat 0 (by omega)
        rw [hz0] at this
        exact this
      · by_cases c2 : q = 2
        · subst c2
          rw [if_neg (by decide), if_neg (by decide), if_pos rfl] at hK
          have := l_ab2 (g := g) (d := d) (e := e) (K := K) hP hW hA ⟨q1.1, n1, n2⟩ q3 (by omega) (fun M' F' => hK M' (hWaf M' F').2.1 (hWaf M' F').1 (hWaf M' F').2.2) (eN w.gRw w.gM r - r).toNat 0 (im_u M1 6952 60 0) (-1) (by omega) (Int.le_refl _) (by decide) hF60 (sq0 _)
          rw [hz0] at this
          exact this
        · have c4 : q = 4 := by omega
          subst c4
          rw [if_neg (by decide), if_neg (by decide), if_neg (by decide), if_neg (by decide)] at hK
          have := l_ab4 (g := g) (d := d) (e := e) (K := K) hP hW hA ⟨q1.1, n1, n2⟩ q3 (by omega) (fun M' F' => hK M' (hWaf M' F').2.1 (hWaf M' F').1 (hWaf M' F').2.2) (eN w.gRw w.gM r - r).toNat 0 (im_u M1 6952 60 0) (-1) (by omega) (Int.le_refl _) (by decide) hF60 (sq0 _)
          rw [hz0] at this
          exact this
    · rw [if_neg (by omega), if_neg nq1, if_neg (by omega), if_pos q3'] at hK
      have hkn := (hW.2.2 r q1.1 q1.2).1.1
      have hnm := (hW.2.2 r q1.1 q1.2).2.1
      have hP5 := kRP5 hkn.1 hkn.2 hnm.2.2.2
      have hbw := nwM_b hA.2 q1.1 (eN w.gRw w.gM r - r).toNat (by omega)
      refine b_mostWhens_0 ⟨⟨q1.1, by omega⟩, fun x4 h4 => ?_⟩
      rw [(hP r q1.1 q1.2).1] at h4
      have hx4 : x4 = w.gRw 2 r := by
        rw [hw2.2.2.1 r q1.1 q1.2 q2]
        by_cases c3 : w.gRw 0 r = 3
        · have := hP5.mpr c3
          rw [if_pos c3]; clear hkn hnm; omega
        · have : ¬ kR (w.gRw 0 r) (w.gRw 3 r) = 5 := fun z => c3 (hP5.mp z)
          rw [if_neg c3]; clear hkn hnm; omega
      rw [hx4]
      have := l_most (g := g) (d := d - 1) (e := e) (M0 := M1) (K := im_ri (fun x42 e_ M41 => e = e_ ∧ (im_i32 x42) ∧ K (.inl (some (vL x42))) e M41)) hP hW hl hw2 hA.2 ⟨q1.1, n1, n2⟩ q2 n3 (by omega) (fun M' F' => ⟨_, rfl, rfl, by constructor <;> omega, hK M' (fun z hz => (F' z (by omega)).trans (fr1 z hz)) (W1.abf (fun x _ _ _ a => F' x a) (fun k _ => by rw [F' 6952 (by decide)])) (by rw [F' 6952 (by decide)]; exact e0)⟩) (eN w.gRw w.gM r - r).toNat 0 (im_u M1 6991 r (w.gRw 2 r)) (by omega) (fun x hx => im_u_ne _ _ _ hx) (fun x x0 x1 hx => ?_)
      · rw [hz0] at this
        exact this
      · rw [im_rdx]
        rcases hx with c | ⟨i, i0, i1, _⟩
        · rw [if_pos c, c]
        · omega
    · rw [if_neg (by omega), if_pos q1'] at hK
      exact hK M1 fr1 W1 e0
  · have hno : ¬ (0 ≤ k ∧ k < 16 ∧ w.gRt k ≠ -1) := by
      intro ⟨z1, z2, z3⟩
      have := ((rt k z1 z2).2 z3).1
      omega
    exact c_mayQ (A := 0 ≤ k ∧ k < 16) (B := 0 ≤ q ∧ q ≤ 4) (C := 0 ≤ k ∧ k < 16 ∧ w.gRt k ≠ -1) h (by decide) (by decide) (by omega) hb (Or.inr ⟨rfl, hno⟩) (fun hm M1 W1 e0 ez ek => ⟨_, rfl, rfl, by decide, fun z => absurd rfl z, fun _ => hKt hm M1 (fun z hz => ez z (by omega)) W1 e0⟩) (fun _ _ _ hC _ _ _ _ _ => absurd hC hno)
end ABOUTR3
