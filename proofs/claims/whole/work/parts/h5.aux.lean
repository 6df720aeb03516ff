/-! THE LAW: helpers -/
def nqI (v : Int) : Int := (Int32.ofInt v).toInt
def nqL (v : Int) : Int := (Int64.ofInt v).toInt
theorem nqI_r (v : Int) : im_i32 (nqI v) := by
  have h1 := (Int32.ofInt v).toInt_lt
  have h2 := (Int32.ofInt v).le_toInt
  unfold nqI
  constructor <;> omega
theorem nqL_r (v : Int) : im_i64 (nqL v) := by
  have h1 := (Int64.ofInt v).toInt_lt
  have h2 := (Int64.ofInt v).le_toInt
  unfold nqL
  constructor <;> omega
theorem nqI_v (v : Int) : vI v = vI (nqI v) := by
  have : Int32.ofInt (nqI v) = Int32.ofInt v := Int32.ofInt_toInt _
  unfold vI; rw [this]
theorem nqL_v (v : Int) : vL v = vL (nqL v) := by
  have : Int64.ofInt (nqL v) = Int64.ofInt v := Int64.ofInt_toInt _
  unfold vL; rw [this]
theorem mq_d {p dk : Int} {A B C : Prop} (h : dk ≠ 0) : mco p dk A B C = p := ifq_pos h
theorem mq_1 {p dk : Int} {A B C : Prop} (h : dk = 0) (h1 : ¬ A) : mco p dk A B C = 1 := by
  unfold mco; rw [ifq_neg (fun z => z h), ifq_pos h1]
theorem mq_2 {p dk : Int} {A B C : Prop} (h : dk = 0) (h1 : A) (h2 : ¬ B) : mco p dk A B C = 2 := by
  unfold mco; rw [ifq_neg (fun z => z h), ifq_neg (fun z => z h1), ifq_pos h2]
theorem mq_3 {p dk : Int} {A B C : Prop} (h : dk = 0) (h1 : A) (h2 : B) (h3 : ¬ C) : mco p dk A B C = 3 := by
  unfold mco; rw [ifq_neg (fun z => z h), ifq_neg (fun z => z h1), ifq_neg (fun z => z h2), ifq_pos h3]
theorem mq_0 {p dk : Int} {A B C : Prop} (h : dk = 0) (h1 : A) (h2 : B) (h3 : C) : mco p dk A B C = 0 := by
  unfold mco; rw [ifq_neg (fun z => z h), ifq_neg (fun z => z h1), ifq_neg (fun z => z h2), ifq_neg (fun z => z h3)]
theorem mq_r {p dk : Int} {A B C : Prop} (hp : 0 ≤ p ∧ p ≤ 3) : 0 ≤ mco p dk A B C ∧ mco p dk A B C ≤ 3 := by
  by_cases h : dk = 0
  · by_cases h1 : A
    · by_cases h2 : B
      · by_cases h3 : C
        · rw [mq_0 h h1 h2 h3]; decide
        · rw [mq_3 h h1 h2 h3]; decide
      · rw [mq_2 h h1 h2]; decide
    · rw [mq_1 h h1]; decide
  · rw [mq_d h]; exact hp
/-! what a world gives -/
theorem WI.W {w : Wd} (h : WI w) : WFP w.gRw w.gM := h.2.1.1.1
theorem WI.m4 {w : Wd} (h : WI w) : w.gM ≤ 4000 := h.2.1.1.2.1
theorem WI.pH {w : Wd} (h : WI w) : prH w.gRw w.gM := h.2.1.1.2.2.1
theorem WI.lR {w : Wd} (h : WI w) : lkR w.gRw w.gM := h.2.1.1.2.2.2.1
theorem WI.aH {w : Wd} (h : WI w) : abH w.gRw w.gM := h.2.1.1.2.2.2.2.1
theorem WI.w2 {w : Wd} (h : WI w) : w2H w.gRw w.gM := h.2.1.1.2.2.2.2.2
theorem WI.nm {w : Wd} (h : WI w) : ∀ j, 0 ≤ j → j < w.gM → w.gRw 4 j ≤ 9223372036854775807 ∧ w.gRw 5 j ≤ 9223372036854775807 ∧ w.gRw 6 j ≤ 9223372036854775807 := fun j a b => (h.pH.2 j a b).1
theorem WI.de {w : Wd} (h : WI w) : w.gDe ≤ 16384 := by
  have h1 := h.2.1.2.2
  have h2 := h.1.1
  omega
theorem WI.rt {w : Wd} (h : WI w) : ∀ k, 0 ≤ k → k < 16 → w.gRt k = -1 ∨ (0 ≤ w.gRt k ∧ w.gRt k < w.gM) := fun k a b => by
  rcases h.2.2.1 k a b with z | z
  · exact Or.inl z
  · exact Or.inr z.1
theorem WI.rt2 {w : Wd} (h : WI w) {k : Int} (hk : 0 ≤ k ∧ k < 16) (hn : w.gRt k ≠ -1) : rtO w.gRw w.gM (w.gRt k) := by
  rcases h.2.2.1 k hk.1 hk.2 with z | z
  · exact absurd z hn
  · exact z
theorem WI.in1 {w : Wd} (h : WI w) {i : Int} (hi : 0 ≤ i ∧ i < 16) : insOk w.gRw w.gM w.gWa (w.gIn i) := h.2.ins hi
theorem WI.b1 {w : Wd} (h : WI w) {i : Int} (hi : 0 ≤ i ∧ i < 16) : (w.gIn i).1 = 0 ∨ (w.gIn i).1 = 1 := (h.2.ins hi).1
theorem WI.ee {w : Wd} : ∀ i, 0 ≤ i → i < w.gM → ∃ x, ends (w.gRw 1) w.gM i x := fun i _ hi => ends_ex _ hi
theorem WI.sb {w : Wd} (h : WI w) : (sbk w.gWa ∧ posb w.gWa) ∧ (sbk w.gMi ∧ posb w.gMi) := h.2.2.2.2.1.2
theorem CW.tn {M : im_M} {e : im_E} {w : Wd} (h : CW M e w 0) : 0 ≤ w.gTn := h.1.1.2.2.1
theorem CW.byt {M : im_M} {e : im_E} {w : Wd} (h : CW M e w 0) : byt w.gJr.1 := fun i a b => by
  have := h.2.2.2.2.2.1.1 i a b
  omega
theorem CW.ac {M : im_M} {e : im_E} {w : Wd} (h : CW M e w 0) {k : Int} (hk : 0 ≤ k ∧ k < 16) : (w.gIn k).2.2.2.1.1 ≤ 40 := by
  obtain ⟨n, hn⟩ : ∃ n : Nat, (n : Int) = k := ⟨k.toNat, by omega⟩
  have := (h.2.1.2.2 n (by omega)).2.2.1
  rw [hn] at this
  obtain ⟨π, hb, _⟩ := this
  have := hb.2.1
  omega
