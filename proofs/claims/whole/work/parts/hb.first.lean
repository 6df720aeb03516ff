/-! THE FIRST WORLD: all cells are good -/
def okL (B : am_H) : Prop := ∀ c ∈ B, okc c
theorem okN : okL [] := fun c hc => by cases hc
theorem okC {a : va_E} {B : am_H} (h : okc a) (hB : okL B) : okL (a :: B) := fun c hc => by
  rcases List.mem_cons.mp hc with z | z
  · rw [z]; exact h
  · exact hB c z
theorem okA {A B : am_H} (hA : okL A) (hB : okL B) : okL (A ++ B) := fun c hc => by
  rcases List.mem_append.mp hc with z | z
  · exact hA c z
  · exact hB c z
theorem ok1 {a : va_E} (h : okc a) : okL [a] := okC h okN
theorem okc_lf {n : Nat} {f : Nat → Int64} : okc (.inl (2, n, .inr (.inl f))) := by
  have hf : (fun j : Nat => Int64.ofInt ((f ((j : Int).toNat)).toInt)) = f := by
    funext j
    rw [show ((j : Int)).toNat = j by omega, Int64.ofInt_toInt]
  exact ⟨congrArg (fun q => Sum.inl (2, n, Sum.inr (Sum.inl q))) hf, fun j _ _ => im_t64 _⟩
theorem okc_if {n : Nat} {f : Nat → Int32} : okc (.inl (1, n, .inl f)) := by
  have hf : (fun j : Nat => Int32.ofInt ((f ((j : Int).toNat)).toInt)) = f := by
    funext j
    rw [show ((j : Int)).toNat = j by omega, Int32.ofInt_toInt]
  exact ⟨congrArg (fun q => Sum.inl (1, n, Sum.inl q)) hf, fun j _ _ => im_t32 _⟩
theorem okI1 {n : Nat} : okc (.inl (1, n, .inl (fun _ => 0))) := okc_i (Or.inr (Or.inl rfl))
theorem okI0 {n : Nat} : okc (.inl (0, n, .inl (fun _ => 0))) := okc_i (Or.inl rfl)
theorem okI3 {n : Nat} : okc (.inl (3, n, .inl (fun _ => 0))) := okc_i (Or.inr (Or.inr rfl))
theorem okNum (k : Nat) : okL [pu_num k, pu_limb] := okC (okc_num k) (ok1 okI1)
theorem okRow (l n k : Nat) : okL (pu_row l n k) := okC (okc_o rfl) (okC okI1 (okC okc_l (okC okc_l (okC okc_l (okC (okc_r (Or.inl rfl)) (okc_nums _ _))))))
theorem okJou (l : Nat) : okL (pu_journal l) := okC (okc_o rfl) (okA okN (ok1 okI0))
theorem okWri (l p : Nat) : okL (pu_writer l p) := okC (okc_o rfl) (okA (okA (okA (okA okN (ok1 okI0)) (ok1 okI1)) (ok1 okI1)) (okNum _))
theorem okPoo (l : Nat) : okL (pu_pool l) := okC (okc_o rfl) (okA (okA (okA (okA (okA (okA (okA (okA (okA okN (ok1 okI1)) (ok1 okI1)) (ok1 okI1)) (ok1 okI1)) (ok1 okI1)) (ok1 okc_l)) (ok1 okc_l)) (ok1 okc_l)) (ok1 okI1))
theorem okPar (l p q : Nat) : okL (pu_parser l p q) := okC (okc_o rfl) (okA (okA (okA okN (ok1 okI1)) (ok1 okI1)) (okNum _))
theorem okSea (l p q : Nat) : okL (pu_search l p q) := okC (okc_o rfl) (okA (okA (okA (okA (okA (okA (okA okN (ok1 (okc_r (Or.inr rfl)))) (okRow _ _ _)) (ok1 okc_l)) (ok1 okI1)) (ok1 okI1)) (okNum _)) (okc_book _ _ _))
theorem okRea (l : Nat) (f : Nat → Int64) : okL (pu_reader l f) := okC (okc_o rfl) (okC okc_lf (okC okI0 (okC (okc_num _) (ok1 okI1))))
theorem okMaR (l : Nat) : okL (pu_machR l) := okA (okA (okA (okA (okA (okA (okA okN (ok1 okc_l)) (okNum _)) (okc_state _ _)) (okc_book _ _ _)) (okc_book _ _ _)) (okRow _ _ _)) (okRow _ _ _)
theorem okMac (l p k : Nat) : okL (pu_mach l p k) := okC (okc_o rfl) (okC (okc_r (Or.inl rfl)) (okA (okMaR l) (okc_nums _ _)))
theorem okSts (b : Nat) : ∀ k, okL (pu_states b k) := by
  intro k
  induction k with
  | zero => exact okN
  | succ k ih => exact okA ih (okc_state _ _)
theorem okPlA (l : Nat) : okL (pu_platA l) := okA (okA (okA (okA (okA okN (ok1 okI0)) (okRea _ _)) (okWri _ _)) (okPoo _)) (okPar _ _ _)
theorem okPlR (l : Nat) : okL (pu_platR l) := okA (okA (okA (okA (okA (okA (okA (okA (okA (okA (okA okN (okc_book _ _ _)) (okc_book _ _ _)) (okc_book _ _ _)) (okRow _ _ _)) (okRow _ _ _)) (okRow _ _ _)) (okc_state _ _)) (okMac _ _ _)) (okSea _ _ _)) (okJou _)) (okNum _)
theorem okPla (l k : Nat) : okL (pu_plat l k) := okC (okc_o rfl) (okA (okPlA l) (okC okc_if (okC (okc_r (Or.inr rfl)) (okA (okPlR l) (okSts _ _)))))
set_option maxRecDepth 20000 in
theorem okMT : okL pu_mT := by
  unfold pu_mT
  repeat' (first | exact okN | refine okC okI1 ?_ | refine okC okc_l ?_ | refine okC okI3 ?_ | refine okC okI0 ?_)
set_option maxRecDepth 20000 in
theorem okMod : okL (pu_model 6952) := okC (okc_o (by decide +kernel)) okMT
theorem okH : okL pu_H := okA (okA (okA okN (okPla 0 16)) okMod) (ok1 okc_l)
/-- the first memory -/
def M00 : im_M := im_bm pu_H 0 (fun _ _ => 0)
theorem W00 : im_W (im_sh0 ++ []) M00 pu_H := by
  have h0 : im_W [] (fun _ _ => 0) ([] : am_H) := ⟨rfl, fun a s h => by cases h⟩
  have := h0.blk okH
  rw [List.append_nil]
  exact this
theorem S00 : sbs (fun i => (im_sh0 ++ [])[i]?) M00 0 pu_H := fun i c hi => by
  refine ⟨?_, im_bm_at hi⟩
  show (im_sh0 ++ [])[0 + i]? = some (im_so c)
  rw [List.append_nil, Nat.zero_add]
  unfold im_sh0
  rw [List.getElem?_map, hi]
  rfl
