/-! STATE, NAME, ENTRY, AMOUNT, WALLET on the class -/
def bkI (I : Ins) (q : Int) : Bk := if q = 1 then I.2.2.2.1 else if q = 2 then I.2.2.2.2.1 else if q = 3 then I.2.2.2.2.2.1 else I.2.2.2.2.2.2
noncomputable def stV (w : Wd) (i q : Int) : Int := if q = 0 then (w.gIn i).2.2.1 else if q = 5 then ifq (ovr w i) 1 0 else ((bkI (w.gIn i) q).1 : Int)
def ouW (w : Wd) (L : List Int) : Wd := (w.sOb (obL L)).sOn (L.length : Int)
/-- a number alone is put out -/
def nuL (v : Int) : List Int := lps [] (numB v)
section STATEC
variable {g : im_g} {d : Nat} {e : im_E} {M : im_M} {K : im_K} {w : Wd}
theorem c_begunP {i : Int} {X : Nat → im_E → im_M → Prop} (h : CW M e w 0) (hi : im_i32 i) (hb : 0 ≤ i ∧ i < 16 → (w.gIn i).1 = 0 ∨ (w.gIn i).1 = 1) (hd : 1 ≤ d) (hd0 : w.gJr.2.2.2.2 ≠ 0 → K (.inr xS) (e ++ [im_ex]) M) (hKp : w.gJr.2.2.2.2 = 0 → ¬ (0 ≤ i ∧ i < 16) → K (.inr xP) (e ++ [im_ex]) M) (hKs : w.gJr.2.2.2.2 = 0 → 0 ≤ i ∧ i < 16 → (w.gIn i).1 = 0 → K (.inr xS) (e ++ [im_ex]) M)
    (hK : w.gJr.2.2.2.2 = 0 → 0 ≤ i ∧ i < 16 → (w.gIn i).1 = 1 → X (2072 + 305 * i.toNat) e M) : im_T g d 208 0 [some (.ref 0), some (vI i)] [] e M (im_rx (im_rr X) (fun E_ e_ M_ => K (.inr E_) e_ M_)) := by
  refine k_P_begun_0 hd (c_needPower h (fun z => Or.inr ⟨_, rfl, hd0 z⟩) (fun hz => ⟨rfl, c_needPl hi (by decide) (fun hI => ⟨rfl, hI, ?_⟩) (fun z => Or.inr ⟨_, rfl, hKp hz z⟩)⟩))
  have ei : ((i.toNat : Nat) : Int) = i := by omega
  obtain ⟨a1, ⟨a2, _, _⟩, _⟩ := h.2.1.2.2 i.toNat (by omega)
  rw [ei] at a1 a2
  refine ⟨2072 + 305 * i.toNat, a1, (st_inst i.toNat (by omega)).1, ?_⟩
  rw [a2]
  refine c_needSt (by rcases hb hI with z | z <;> rw [z] <;> decide) (fun hne => ⟨rfl, 2072 + 305 * i.toNat, a1, (st_inst i.toNat (by omega)).1, Or.inl ⟨_, rfl, hK hz hI (by rcases hb hI with z | z; exact absurd z hne; exact z)⟩⟩) (fun z => Or.inr ⟨_, rfl, hKs hz hI z⟩)
/-- which book, and where it lies -/
theorem c_book {i : Nat} {q : Int} {X : Nat → im_E → im_M → Prop} (hi : i < 16) (h : CW M e w 0) (hq : 1 ≤ q ∧ q ≤ 4) (hK : ∀ (a n : Nat), 13 ≤ a → a + 6 + 2 * n ≤ 6952 → bkN e a n → cb M a n (bkI (w.gIn i) q) → X a e M) : im_T g d 211 0 [some (.ref (2072 + 305 * i)), some (vI q)] [] e M (im_rr X) := by
  obtain ⟨_, _, c1, c2, c3, c4⟩ := h.2.1.2.2 i hi
  obtain ⟨_, s1, s2, s3, s4⟩ := st_inst (e := e) i hi
  unfold bkI at hK
  refine k_State_book_0 (st_inst i hi).1 ⟨by constructor <;> omega, fun z => ⟨_, rfl, ?_⟩, fun z => ⟨_, rfl, ?_⟩, fun z => ⟨_, rfl, ?_⟩, fun z => ⟨20, s4.1, _, rfl, ?_⟩⟩
  · rw [if_pos z] at hK; exact hK _ 40 (by omega) (by omega) s1 c1
  · rw [if_neg (by omega), if_pos z] at hK; exact hK _ 40 (by omega) (by omega) s2 c2
  · rw [if_neg (by omega), if_neg (by omega), if_pos z] at hK; exact hK _ 40 (by omega) (by omega) s3 c3
  · rw [if_neg (by omega), if_neg (by omega), if_neg (by omega)] at hK; exact hK _ 20 (by omega) (by omega) s4 c4
theorem cb_n {M : im_M} {a n : Nat} {β : Bk} (h : cb M a n β) : M a 4 = β.1 := by obtain ⟨π, ⟨q, _⟩, _⟩ := h; exact q
theorem c_P_state {i q : Int} (h : CW M e w 0) (hW : WFP w.gRw w.gM) (hi : im_i32 i) (hq : im_i32 q) (hb : 0 ≤ i ∧ i < 16 → insOk w.gRw w.gM w.gWa (w.gIn i)) (hd : 3 ≤ d) (hd0 : w.gJr.2.2.2.2 ≠ 0 → K (.inr xS) (e ++ [im_ex]) M) (hKp : w.gJr.2.2.2.2 = 0 → ¬ (0 ≤ i ∧ i < 16) → K (.inr xP) (e ++ [im_ex]) M) (hKa : w.gJr.2.2.2.2 = 0 → 0 ≤ i ∧ i < 16 → ¬ (0 ≤ q ∧ q ≤ 5) → K (.inr xA) (e ++ [im_ex]) M) (hKs : w.gJr.2.2.2.2 = 0 → 0 ≤ i ∧ i < 16 → 0 ≤ q ∧ q ≤ 5 → (w.gIn i).1 = 0 → K (.inr xS) (e ++ [im_ex]) M)
    (hK : w.gJr.2.2.2.2 = 0 → 0 ≤ i ∧ i < 16 → 0 ≤ q ∧ q ≤ 5 → (w.gIn i).1 = 1 → K (.inl (some (vL (stV w i q)))) e M) : im_T g d 210 0 [some (.ref 0), some (vI i), some (vI q), none] [] e M K := by
  refine k_P_state_0 (by omega) (c_needPower h hd0 (fun hz => ⟨rfl, c_needPl hi (by decide) (fun hI => ⟨rfl, hq, fun q0 q1 => c_needArg (by decide) (fun _ => ⟨rfl, ?_⟩) (fun z => absurd z (by decide)), fun hor => c_needArg (by decide) (fun z => absurd rfl z) (fun _ => hKa hz hI (by omega))⟩) (hKp hz)⟩))
  have ei : ((i.toNat : Nat) : Int) = i := by omega
  refine c_begunP h hi (fun z => (hb z).1) (by omega) hd0 hKp (fun z1 z2 z3 => hKs z1 z2 ⟨q0, q1⟩ z3) (fun _ _ hB => ⟨rfl, (st_inst i.toNat (by omega)).1, ?_⟩)
  have hK := hK hz hI ⟨q0, q1⟩ hB
  have ov := ((hb hI).2 hB).2.2.2.2.1
  obtain ⟨_, ⟨_, _, a4⟩, _⟩ := h.2.1.2.2 i.toNat (by omega)
  rw [ei] at a4
  unfold stV at hK
  refine ⟨fun z => ?_, fun z => ?_, fun z => ?_⟩
  · rw [if_pos z] at hK; rw [a4]; exact hK
  · rw [if_neg (by omega), if_pos z] at hK
    refine c_isOver (i := i.toNat) (by omega) h hW (by rw [ei]; exact ⟨ov.1, ov.2.1⟩) ⟨_, rfl, rfl, by split <;> decide, fun x hx => ?_⟩
    rw [ei] at hx
    by_cases c : ovr w i
    · rw [ifq_pos c] at hK
      rw [if_pos c] at hx
      have : x = 1 := by omega
      rw [this]; exact hK
    · rw [ifq_neg c] at hK
      rw [if_neg c] at hx
      have : x = 0 := by omega
      rw [this]; exact hK
  · rw [if_neg z.1, if_neg z.2] at hK
    refine c_book (i := i.toNat) (by omega) h (by omega) (fun a n _ _ hN hC => ⟨rfl, n, hN.1, ?_⟩)
    rw [ei] at hC
    rw [cb_n hC]; exact hK
theorem c_tell {q : Nat} {v : Int} (h : CW M e w 0) (hq : im_num e q) (hq7 : q + 1 < 7 ∨ 8 < q) (hv : cn M q v) (hd : 3 ≤ d) (hK : ∀ M', (∀ x, 6952 ≤ x → M' x = M x) → CW M' e (ouW w (nuL v)) 0 → K (.inl (some (vI ((nuL v).length : Int)))) e M') : im_T g d 215 0 [some (.ref 0), some (.ref q)] [] e M K := by
  obtain ⟨_, _, _, _, _, _, ⟨_, ⟨_, _, c11, _⟩⟩, _⟩ := id h
  refine k_P_tell_0 hq (by omega) (k_Writer_clear_0 ⟨rfl, rfl, ?_⟩)
  have hx : ∀ x, x ≠ 7 → im_u M 7 1 0 x = M x := fun x a => im_u_ne _ _ _ a
  have ho : cOL (im_u M 7 1 0) [] := ⟨im_rds _ _ _ _, fun i a b => absurd b (by show ¬ i < (0 : Int); omega), by decide⟩
  refine c_numberL (L := []) hq (by omega) (cn_congr hv (hx _ (by omega)) (hx _ (by omega))) ho (by omega) (fun M' f o => ⟨rfl, rfl, ?_⟩)
  have o' : cOL M' (nuL v) := o
  have fx : ∀ x, x ≠ 7 → x ≠ 8 → M' x = M x := fun x a b => (f.1 x a b).trans (hx x a)
  rw [o'.1]
  refine hK M' (fun x hx => fx x (by omega) (by omega)) (h.out (fun x hx => fx x (by omega) (by omega)) o' ?_)
  obtain ⟨v', c⟩ := c11
  exact ⟨v', cn_congr c (fx _ (by decide) (by decide)) (fx _ (by decide) (by decide))⟩
theorem c_bookWith {i q k : Int} {X : Nat → im_E → im_M → Prop} (h : CW M e w 0) (hi : im_i32 i) (hq : im_i32 q) (hk : im_i32 k) (hb : 0 ≤ i ∧ i < 16 → (w.gIn i).1 = 0 ∨ (w.gIn i).1 = 1) (hd : 2 ≤ d) (hd0 : w.gJr.2.2.2.2 ≠ 0 → K (.inr xS) (e ++ [im_ex]) M) (hKp : w.gJr.2.2.2.2 = 0 → ¬ (0 ≤ i ∧ i < 16) → K (.inr xP) (e ++ [im_ex]) M) (hKa : w.gJr.2.2.2.2 = 0 → 0 ≤ i ∧ i < 16 → ¬ (1 ≤ q ∧ q ≤ 4) → K (.inr xA) (e ++ [im_ex]) M) (hKs : w.gJr.2.2.2.2 = 0 → 0 ≤ i ∧ i < 16 → 1 ≤ q ∧ q ≤ 4 → (w.gIn i).1 = 0 → K (.inr xS) (e ++ [im_ex]) M) (hKe : w.gJr.2.2.2.2 = 0 → 0 ≤ i ∧ i < 16 → 1 ≤ q ∧ q ≤ 4 → (w.gIn i).1 = 1 → ¬ (0 ≤ k ∧ k < (bkI (w.gIn i) q).1) → K (.inr xP) (e ++ [im_ex]) M)
    (hK : w.gJr.2.2.2.2 = 0 → 0 ≤ i ∧ i < 16 → 1 ≤ q ∧ q ≤ 4 → (w.gIn i).1 = 1 → 0 ≤ k ∧ k < (bkI (w.gIn i) q).1 → ∀ (a n : Nat), 13 ≤ a → a + 6 + 2 * n ≤ 6952 → bkN e a n → cb M a n (bkI (w.gIn i) q) → X a e M) : im_T g d 214 0 [some (.ref 0), some (vI i), some (vI q), some (vI k), none] [] e M (im_rx (im_rr X) (fun E_ e_ M_ => K (.inr E_) e_ M_)) := by
  refine k_P_bookWith_0 (by omega) (c_needPower h (fun z => Or.inr ⟨_, rfl, hd0 z⟩) (fun hz => ⟨rfl, c_needPl hi (by decide) (fun hI => ⟨rfl, hq, fun q0 q1 => c_needArg (by decide) (fun _ => ⟨rfl, ?_⟩) (fun z => absurd z (by decide)), fun hor => c_needArg (by decide) (fun z => absurd rfl z) (fun _ => Or.inr ⟨_, rfl, hKa hz hI (by omega)⟩)⟩) (fun z => Or.inr ⟨_, rfl, hKp hz z⟩)⟩))
  have ei : ((i.toNat : Nat) : Int) = i := by omega
  refine c_begunP h hi hb (by omega) (fun z => Or.inr ⟨_, rfl, hd0 z⟩) (fun z1 z2 => Or.inr ⟨_, rfl, hKp z1 z2⟩) (fun z1 z2 z3 => Or.inr ⟨_, rfl, hKs z1 z2 ⟨q0, q1⟩ z3⟩) (fun _ _ hB => ⟨rfl, (st_inst i.toNat (by omega)).1, ?_⟩)
  refine c_book (i := i.toNat) (by omega) h (by omega) (fun a n a13 an hN hC => ⟨rfl, n, hN.1, ?_⟩)
  rw [ei] at hC
  rw [cb_n hC]
  have hn : (bkI (w.gIn i) q).1 ≤ n := by obtain ⟨π, ⟨_, z, _⟩, _⟩ := hC; exact z
  refine c_needPl hk (by constructor <;> omega) (fun hk2 => ⟨rfl, Or.inl ⟨_, rfl, hK hz hI ⟨q0, q1⟩ hB hk2 a n a13 an hN hC⟩⟩) (fun z => Or.inr ⟨_, rfl, hKe hz hI ⟨q0, q1⟩ hB z⟩)
theorem c_P_name {i q k s : Int} (h : CW M e w 0) (hi : im_i32 i) (hq : im_i32 q) (hk : im_i32 k) (hs : im_i32 s) (hb : 0 ≤ i ∧ i < 16 → (w.gIn i).1 = 0 ∨ (w.gIn i).1 = 1) (hd : 3 ≤ d) (hd0 : w.gJr.2.2.2.2 ≠ 0 → K (.inr xS) (e ++ [im_ex]) M) (hKp : w.gJr.2.2.2.2 = 0 → ¬ (0 ≤ i ∧ i < 16) → K (.inr xP) (e ++ [im_ex]) M) (hKa : w.gJr.2.2.2.2 = 0 → 0 ≤ i ∧ i < 16 → ¬ (1 ≤ q ∧ q ≤ 4) → K (.inr xA) (e ++ [im_ex]) M) (hKs : w.gJr.2.2.2.2 = 0 → 0 ≤ i ∧ i < 16 → 1 ≤ q ∧ q ≤ 4 → (w.gIn i).1 = 0 → K (.inr xS) (e ++ [im_ex]) M) (hKe : w.gJr.2.2.2.2 = 0 → 0 ≤ i ∧ i < 16 → 1 ≤ q ∧ q ≤ 4 → (w.gIn i).1 = 1 → ¬ (0 ≤ k ∧ k < (bkI (w.gIn i) q).1) → K (.inr xP) (e ++ [im_ex]) M)
    (hK : w.gJr.2.2.2.2 = 0 → 0 ≤ i ∧ i < 16 → 1 ≤ q ∧ q ≤ 4 → (w.gIn i).1 = 1 → 0 ≤ k ∧ k < (bkI (w.gIn i) q).1 → K (.inl (some (vL (if s = 0 then (bkI (w.gIn i) q).2.1 k else (bkI (w.gIn i) q).2.2.1 k)))) e M) : im_T g d 217 0 [some (.ref 0), some (vI i), some (vI q), some (vI k), some (vI s), none] [] e M K := by
  refine k_P_name_0 (by omega) (c_bookWith h hi hq hk hb (by omega) hd0 hKp hKa hKs hKe (fun z1 z2 z3 z4 z5 a n a13 an hN hC => ⟨rfl, n, hN.1, hs, ?_⟩))
  obtain ⟨π, ⟨_, hn, _, _, hAB⟩, _⟩ := hC
  have ek : ((k.toNat : Nat) : Int) = k := by omega
  obtain ⟨b1, b2⟩ := hAB k.toNat (by omega)
  rw [ek] at b1 b2
  refine ⟨⟨fun _ => ⟨z5.1, by omega⟩, fun _ => ⟨z5.1, by omega⟩⟩, fun x hx => ?_⟩
  rw [b1, b2] at hx
  have : x = if s = 0 then (bkI (w.gIn i) q).2.1 k else (bkI (w.gIn i) q).2.2.1 k := by split <;> omega
  rw [this]; exact hK z1 z2 z3 z4 z5
theorem c_P_entry {i q k : Int} (h : CW M e w 0) (hi : im_i32 i) (hq : im_i32 q) (hk : im_i32 k) (hb : 0 ≤ i ∧ i < 16 → (w.gIn i).1 = 0 ∨ (w.gIn i).1 = 1) (hd : 4 ≤ d) (hd0 : w.gJr.2.2.2.2 ≠ 0 → K (.inr xS) (e ++ [im_ex]) M) (hKp : w.gJr.2.2.2.2 = 0 → ¬ (0 ≤ i ∧ i < 16) → K (.inr xP) (e ++ [im_ex]) M) (hKa : w.gJr.2.2.2.2 = 0 → 0 ≤ i ∧ i < 16 → ¬ (1 ≤ q ∧ q ≤ 4) → K (.inr xA) (e ++ [im_ex]) M) (hKs : w.gJr.2.2.2.2 = 0 → 0 ≤ i ∧ i < 16 → 1 ≤ q ∧ q ≤ 4 → (w.gIn i).1 = 0 → K (.inr xS) (e ++ [im_ex]) M) (hKe : w.gJr.2.2.2.2 = 0 → 0 ≤ i ∧ i < 16 → 1 ≤ q ∧ q ≤ 4 → (w.gIn i).1 = 1 → ¬ (0 ≤ k ∧ k < (bkI (w.gIn i) q).1) → K (.inr xP) (e ++ [im_ex]) M)
    (hK : w.gJr.2.2.2.2 = 0 → 0 ≤ i ∧ i < 16 → 1 ≤ q ∧ q ≤ 4 → (w.gIn i).1 = 1 → 0 ≤ k ∧ k < (bkI (w.gIn i) q).1 → ∀ M', (∀ x, 6952 ≤ x → M' x = M x) → CW M' e (ouW w (nuL ((bkI (w.gIn i) q).2.2.2 k))) 0 → K (.inl (some (vI ((nuL ((bkI (w.gIn i) q).2.2.2 k)).length : Int)))) e M') : im_T g d 213 0 [some (.ref 0), some (vI i), some (vI q), some (vI k), none] [] e M K := by
  refine k_P_entry_0 (by omega) (c_bookWith h hi hq hk hb (by omega) hd0 hKp hKa hKs hKe (fun z1 z2 z3 z4 z5 a n a13 an hN hC => ⟨rfl, n, hN.1, ?_⟩))
  obtain ⟨π, ⟨_, hn, hπ, _, _⟩, hV, _⟩ := hC
  have ek : ((k.toNat : Nat) : Int) = k := by omega
  obtain ⟨b1, b2⟩ := hπ k.toNat (by omega)
  have b3 := hV k.toNat (by omega)
  rw [ek] at b2 b3
  exact ⟨⟨z5.1, by omega⟩, _, b2, hN.2 _ b1, c_tell h (hN.2 _ b1) (by omega) b3 (by omega) (fun M' f W => ⟨_, rfl, rfl, hK z1 z2 z3 z4 z5 M' f W⟩)⟩
theorem c_P_amount {p s : Int} (h : CW M e w 0) (hp : im_i32 p) (hs : im_i32 s) (hd : 4 ≤ d) (hd0 : w.gJr.2.2.2.2 ≠ 0 → K (.inr xS) (e ++ [im_ex]) M) (hKp : w.gJr.2.2.2.2 = 0 → ¬ (0 ≤ p ∧ p < (if s = 0 then w.gPy else w.gWr).1) → K (.inr xP) (e ++ [im_ex]) M)
    (hK : w.gJr.2.2.2.2 = 0 → 0 ≤ p ∧ p < (if s = 0 then w.gPy else w.gWr).1 → ∀ M' L, (∀ x, 6952 ≤ x → M' x = M x) → (L = if s ≠ 0 ∧ w.gWr.2.1 p = 5 then [] else nuL ((if s = 0 then w.gPy else w.gWr).2.2.2.2.2 p)) → CW M' e (ouW w L) 0 → K (.inl (some (vI (L.length : Int)))) e M') (h5 : ∀ i : Nat, i < w.gPy.1 → w.gPy.2.1 i ≠ 5) : im_T g d 224 0 [some (.ref 0), some (vI p), some (vI s), none] [] e M K := by
  obtain ⟨V1, ⟨a1, a2, a3, a4, a5⟩, a6⟩ := h.2.2.2.1.1
  obtain ⟨V2, ⟨b1, b2, b3, b4, b5⟩, b6⟩ := h.2.2.2.1.2
  obtain ⟨_, _, _, _, _, _, ⟨_, ⟨_, _, c11, _⟩⟩, _⟩ := id h
  refine k_P_amount_0 (by omega) (c_needPower h hd0 (fun hz => ⟨rfl, hs, fun s0 => ?_, fun s1 => ?_⟩))
  · rw [if_pos s0] at hKp hK
    rw [a1]
    refine c_needPl hp (by constructor <;> omega) (fun hI => ⟨rfl, fun z => absurd s0 z, fun _ => ⟨⟨hI.1, by omega⟩, 414 + 6 + 2 * p.toNat, ?_, rw_414.2 p.toNat (by omega), ?_⟩⟩) (hKp hz)
    · have ep : ((p.toNat : Nat) : Int) = p := by omega
      have := a3 p.toNat (by omega)
      rw [ep] at this; exact this
    · have ep : ((p.toNat : Nat) : Int) = p := by omega
      have c1 := a5 p.toNat (by omega)
      rw [a6 p.toNat (by omega) (h5 _ (by omega)), ep] at c1
      exact c_tell h (rw_414.2 p.toNat (by omega)) (by omega) c1 (by omega) (fun M' f W => ⟨_, rfl, rfl, hK hz hI M' _ f (by rw [if_neg (fun z => z.1 s0)]) W⟩)
  · rw [if_neg s1] at hKp hK
    rw [b1]
    refine c_needPl hp (by constructor <;> omega) (fun hI => ⟨rfl, ?_⟩) (hKp hz)
    have ep : ((p.toNat : Nat) : Int) = p := by omega
    have b4' := (b4 p.toNat (by omega)).1
    rw [ep] at b4'
    rw [show (540 + 1 : Nat) = 541 from rfl] at b4'
    rw [b4']
    refine ⟨fun _ => ⟨⟨hI.1, by omega⟩, fun h5' => k_Writer_clear_0 ⟨rfl, rfl, ?_⟩⟩, fun hor => ⟨⟨hI.1, by omega⟩, 540 + 6 + 2 * p.toNat, ?_, rw_540.2 p.toNat (by omega), ?_⟩⟩
    · have hx : ∀ x, x ≠ 7 → im_u M 7 1 0 x = M x := fun x a => im_u_ne _ _ _ a
      have ho : cOL (im_u M 7 1 0) [] := ⟨im_rds _ _ _ _, fun i a b => absurd b (by show ¬ i < (0 : Int); omega), by decide⟩
      refine hK hz hI _ [] (fun x hx' => hx x (by omega)) (by rw [if_pos ⟨s1, h5'⟩]) (h.out (fun x hx' => hx x (by omega)) ho ?_)
      obtain ⟨v', c⟩ := c11
      exact ⟨v', cn_congr c (hx _ (by decide)) (hx _ (by decide))⟩
    · have := b3 p.toNat (by omega)
      rw [ep] at this; exact this
    · have hn5 : w.gWr.2.1 p ≠ 5 := by
        rcases hor with z | z
        · exact absurd z s1
        · exact z.2
      have c1 := b5 p.toNat (by omega)
      rw [b6 p.toNat (by omega) (by rw [ep]; exact hn5), ep] at c1
      exact c_tell h (rw_540.2 p.toNat (by omega)) (by omega) c1 (by omega) (fun M' f W => ⟨_, rfl, rfl, hK hz hI M' _ f (by rw [if_neg (fun z => hn5 z.2)]) W⟩)
theorem c_P_wallet {pa tk' : Int} (h : CW M e w 0) (hpa : im_i64 pa) (htk : im_i64 tk') (hd : 4 ≤ d) (hd0 : w.gJr.2.2.2.2 ≠ 0 → K (.inr xS) (e ++ [im_ex]) M) (hKa : w.gJr.2.2.2.2 = 0 → ¬ (nmV pa ∧ nmV tk') → K (.inr xA) (e ++ [im_ex]) M)
    (hK : w.gJr.2.2.2.2 = 0 → nmV pa ∧ nmV tk' → ∀ M', (∀ x, 6952 ≤ x → M' x = M x) → CW M' e (ouW w (nuL (hld w.gWa pa tk'))) 0 → K (.inl (some (vI ((nuL (hld w.gWa pa tk')).length : Int)))) e M') : im_T g d 230 0 [some (.ref 0), some (vL pa), none, some (vL tk'), none] [] e M K := by
  obtain ⟨⟨_, _, _, t4⟩, _, ⟨_, b2, _⟩, _⟩ := id h
  refine k_P_wallet_0 (by omega) (c_needPower h hd0 (fun hz => ⟨rfl, c_isName hpa t4 (by omega) (fun hN => ⟨_, rfl, rfl, by decide, fun z => absurd z (by decide), fun _ => c_isName htk t4 (by omega) (fun hN2 => ⟨_, rfl, rfl, by decide, fun z => absurd z (by decide), fun _ => c_needArg (by decide) (fun _ => ⟨rfl, ?_⟩) (fun z => absurd z (by decide))⟩) (fun hN2 => ⟨_, rfl, rfl, by decide, fun _ => c_needArg (by decide) (fun z => absurd rfl z) (fun _ => hKa hz (fun z => hN2 z.2)), fun z => absurd rfl z⟩)⟩) (fun hN => ⟨_, rfl, rfl, by decide, fun _ => c_needArg (by decide) (fun z => absurd rfl z) (fun _ => hKa hz (fun z => hN z.1)), fun z => absurd rfl z⟩)⟩))
  exact c_heldB (p := 0) bk_76 b2 hpa htk (by omega) (fun c c1 c2 c3 c4 => ⟨_, rfl, rfl, c1, c_tell h c1 (by omega) c4 (by omega) (fun M' f W => ⟨_, rfl, rfl, hK hz ⟨hN, hN2⟩ M' f W⟩)⟩)
end STATEC
