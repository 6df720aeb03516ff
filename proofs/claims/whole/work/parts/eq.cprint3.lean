/-! THE CLASS prints: as it is called -/
def nA (k : Int) : Prop := k = 1 ∨ k = 4 ∨ k = 6 ∨ k = 12 ∨ k = 15 ∨ k = 20
def nB (k : Int) : Prop := k = 1 ∨ k = 6 ∨ k = 12 ∨ k = 20
/-- names and parts that a node hasn't -/
def nzr (R : Rw) (j : Int) : Prop := (R 0 j < 28 → R 0 j ≠ 3 → (R 4 j ≠ 0 ↔ nA (R 0 j)) ∧ (R 5 j ≠ 0 ↔ nB (R 0 j)) ∧ (R 6 j ≠ 0 ↔ R 0 j = 1)) ∧ (R 0 j ≠ 3 → ∀ s : Nat, 1 ≤ s → s ≤ 3 → (∀ y ∈ kids (R 0 j), y.2 ≠ s) → R (15 + s) j = -1)
def prH (R : Rw) (m : Int) : Prop := prT R m ∧ ∀ j, 0 ≤ j → j < m → (R 4 j ≤ 9223372036854775807 ∧ R 5 j ≤ 9223372036854775807 ∧ R 6 j ≤ 9223372036854775807) ∧ nzr R j
/-- what is printed of the node n -/
def prL (w : Wd) (n : Int) : List Int := ltk [] (tX w.gRw w.gM.toNat false n)
section CPRINT3
variable {g : im_g} {d : Nat} {e : im_E} {M M0 : im_M} {K : im_K} {w : Wd}
theorem c_contractW {n : Int} (h : CW M e w 0) (hW : WFP w.gRw w.gM) (hH : prH w.gRw w.gM) (hm : w.gM < 5000) (hn : 0 ≤ n ∧ n < w.gM) (hsz : eN w.gRw w.gM n - n ≤ 1000) (hd : 10 ≤ d)
    (hK : ∀ M', (∀ x, 6952 ≤ x → M' x = M x) → CW M' e (ouW w (prL w n)) 0 → M' 7 1 = ((prL w n).length : Int) → K (.inl none) e M') : im_T g d 174 0 [some (.ref 7), some (.ref 13), some (vI n), none, none, none, none] [] e (im_u M 7 1 0) K := by
  obtain ⟨⟨_, _, _, t4⟩, ⟨⟨p1, _, _⟩, _, _⟩, _, _, _, _, ⟨_, ⟨_, _, c11, _⟩⟩, _⟩ := id h
  have hB : PB (im_u M 7 1 0) w.gRw w.gM (M 13 10) := ⟨CP_congr p1 (fun x a b => im_u_ne _ _ _ (by omega)), fun i a b => by rw [im_u_ne _ _ _ (by decide)]; exact t4 i a b, hW, hH.1, fun j a b => (hH.2 j a b).1⟩
  have hD := (hW.2.2 n hn.1 hn.2).2.2.1
  have ho : cOL (im_u M 7 1 0) [] := ⟨im_rds _ _ _ _, fun i a b => absurd b (by show ¬ i < (0 : Int); omega), by decide⟩
  have hs0 : wSt (im_u (im_u M 7 1 0) 7 5 0) [] := ⟨im_rds _ _ _ _, trivial⟩
  have ho0 : cOL (im_u (im_u M 7 1 0) 7 5 0) [] := ⟨by rw [im_rdk _ _ _ (by decide)]; exact im_rds _ _ _ _, fun i a b => absurd b (by show ¬ i < (0 : Int); omega), by decide⟩
  refine k_Writer_contract_0 (by omega) (c_pushW hs0 (by decide) (by decide) (by have := hW.2.1; constructor <;> omega) ho0 (fun M1 F1 h11 hs1 ho1 => ⟨rfl, rfl, ?_⟩))
  have F0 : pW (im_u M 7 1 0) (im_u (im_u M 7 1 0) 7 5 0) := ⟨fun x hx => im_u_ne _ _ _ (by omega), fun k _ h5 => im_rdk _ _ _ h5⟩
  have hc1 : cwp (im_u M 7 1 0) M1 [(99, n)] [] := ⟨F0.trans F1, by
    obtain ⟨v, hv⟩ := c11
    exact ⟨v, cn_congr hv (by rw [h11.1, im_u_ne _ _ _ (by decide), im_u_ne _ _ _ (by decide)]) (by rw [h11.2, im_u_ne _ _ _ (by decide), im_u_ne _ _ _ (by decide)])⟩, hs1, ho1⟩
  refine l_prC (K := K) hB hm (by omega) w.gM.toNat n 99 n M1 [] [] 0 (by omega) hn.1 hn.2 (Or.inl rfl) hc1 (by simp only [List.length_nil]; omega) (Int.le_refl _) (by omega) (fun M2 t2 hc2 t20 t21 => ?_)
  have h75 : M2 7 5 = 0 := hc2.2.2.1.1
  refine k_Writer_contract_17 (by omega) ⟨by constructor <;> omega, fun _ z => by omega, fun _ => ?_⟩
  have fx : ∀ x, x < 7 ∨ 12 < x → M2 x = M x := fun x hx => (hc2.1.1 x hx).trans (im_u_ne _ _ _ (by omega))
  exact hK M2 (fun x hx => fx x (by omega)) (h.out (fun x hx => fx x (by omega)) hc2.2.2.2 hc2.2.1) hc2.2.2.2.1
theorem c_P_print {k : Int} (h : CW M e w 0) (hW : WFP w.gRw w.gM) (hH : prH w.gRw w.gM) (hm : w.gM < 5000) (hk : im_i32 k) (hrt : 0 ≤ k ∧ k < 16 → w.gRt k ≠ -1 → (0 ≤ w.gRt k ∧ w.gRt k < w.gM) ∧ eN w.gRw w.gM (w.gRt k) - w.gRt k ≤ 1000) (hd : 11 ≤ d) (hd0 : w.gJr.2.2.2.2 ≠ 0 → K (.inr xS) (e ++ [im_ex]) M) (hKp : w.gJr.2.2.2.2 = 0 → ¬ (0 ≤ k ∧ k < 16) → K (.inr xP) (e ++ [im_ex]) M) (hKs : w.gJr.2.2.2.2 = 0 → 0 ≤ k ∧ k < 16 → w.gRt k = -1 → K (.inr xS) (e ++ [im_ex]) M)
    (hK : w.gJr.2.2.2.2 = 0 → 0 ≤ k ∧ k < 16 → w.gRt k ≠ -1 → ∀ M', (∀ x, 6952 ≤ x → M' x = M x) → CW M' e (ouW w (prL w (w.gRt k))) 0 → K (.inl (some (vI ((prL w (w.gRt k)).length : Int)))) e M') : im_T g d 173 0 [some (.ref 0), some (vI k)] [] e M K := by
  have rt := h.2.1.2.1
  refine k_P_print_0 (by omega) (c_needPower h hd0 (fun hz => ⟨rfl, c_needPl hk (by decide) (fun hI => ⟨rfl, hI, fun x hx => ?_⟩) (hKp hz)⟩))
  rw [rt k hI.1 hI.2] at hx
  refine c_needSt (by constructor <;> omega) (fun hne => ⟨rfl, k_Writer_clear_0 ⟨rfl, rfl, ?_⟩⟩) (fun h0 => hKs hz hI (by omega))
  have hr : w.gRt k ≠ -1 := by omega
  obtain ⟨r1, r2⟩ := hrt hI hr
  rw [im_u_ne _ _ _ (by decide), rt k hI.1 hI.2]
  refine c_contractW h hW hH hm r1 r2 (by omega) (fun M' f W e1 => ⟨rfl, rfl, ?_⟩)
  rw [e1]; exact hK hz hI hr M' f W
theorem c_P_rest {i : Int} (h : CW M e w 0) (hW : WFP w.gRw w.gM) (hH : prH w.gRw w.gM) (hm : w.gM < 5000) (hi : im_i32 i) (hio : 0 ≤ i ∧ i < 16 → insOk w.gRw w.gM w.gWa (w.gIn i)) (hsz : 0 ≤ i ∧ i < 16 → (w.gIn i).1 = 1 → eN w.gRw w.gM (w.gIn i).2.1 - (w.gIn i).2.1 ≤ 1000) (hd : 11 ≤ d) (hd0 : w.gJr.2.2.2.2 ≠ 0 → K (.inr xS) (e ++ [im_ex]) M) (hKp : w.gJr.2.2.2.2 = 0 → ¬ (0 ≤ i ∧ i < 16) → K (.inr xP) (e ++ [im_ex]) M) (hKs : w.gJr.2.2.2.2 = 0 → 0 ≤ i ∧ i < 16 → (w.gIn i).1 = 0 → K (.inr xS) (e ++ [im_ex]) M)
    (hK : w.gJr.2.2.2.2 = 0 → 0 ≤ i ∧ i < 16 → (w.gIn i).1 = 1 → ∀ M', (∀ x, 6952 ≤ x → M' x = M x) → CW M' e (ouW w (prL w (w.gIn i).2.1)) 0 → K (.inl (some (vI ((prL w (w.gIn i).2.1).length : Int)))) e M') : im_T g d 207 0 [some (.ref 0), some (vI i), none] [] e M K := by
  refine k_P_rest_0 (by omega) (c_begunP h hi (fun z => (hio z).1) (by omega) hd0 hKp hKs (fun hz hI hB => ⟨rfl, (st_inst i.toNat (by omega)).1, k_Writer_clear_0 ⟨rfl, rfl, ?_⟩⟩))
  have ei : ((i.toNat : Nat) : Int) = i := by omega
  obtain ⟨_, ⟨_, a5, _⟩, _⟩ := h.2.1.2.2 i.toNat (by omega)
  rw [ei] at a5
  have ov := ((hio hI).2 hB).2.2.2.2.1
  rw [im_u_ne _ _ _ (by omega), a5]
  refine c_contractW h hW hH hm ⟨ov.1, ov.2.1⟩ (hsz hI hB) (by omega) (fun M' f W e1 => ⟨rfl, rfl, ?_⟩)
  rw [e1]; exact hK hz hI hB M' f W
end CPRINT3
