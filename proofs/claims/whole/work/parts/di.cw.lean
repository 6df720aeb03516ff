/-! THE CLASS between calls -/
def cTape (M : im_M) (t : Int → Int) (n : Int) : Prop := M 0 1 = n ∧ txt (M 1) t n ∧ (0 ≤ n ∧ n ≤ 16384)
def cOut (M : im_M) (t : Int → Int) (n : Int) : Prop := M 7 1 = n ∧ txt (M 8) t n ∧ (0 ≤ n ∧ n ≤ 16384)
def cFau (M : im_M) (c p : Int) : Prop := M 2 8 = c ∧ M 2 9 = p
def cKw (M : im_M) : Prop := ∀ i, 0 ≤ i → i < 34 → M 3 i = kwv i
def cPool (M : im_M) (R : Rw) (m u : Int) : Prop := CP M R m (M 13 10) ∧ M 13 8 = m ∧ (0 ≤ M 13 10 ∧ M 13 10 ≤ u)
def cRoots (M : im_M) (rt : Int → Int) : Prop := ∀ i, 0 ≤ i → i < 16 → M 28 i = rt i
def cInB (M : im_M) (b : Nat) (I : Ins) : Prop := (M b 6 = I.1 ∧ M b 5 = I.2.1 ∧ M b 4 = I.2.2.1) ∧ cb M (b + 1) 40 I.2.2.2.1 ∧ cb M (b + 87) 40 I.2.2.2.2.1 ∧ cb M (b + 173) 40 I.2.2.2.2.2.1 ∧ cb M (b + 259) 20 I.2.2.2.2.2.2
def cIns (M : im_M) (In : Int → Ins) : Prop := ∀ i : Nat, i < 16 → M 29 i = ((2072 + 305 * i : Nat) : Int) ∧ cInB M (2072 + 305 * i) (In i)
def cMach (M : im_M) : Prop := (cbx M 667 40 ∧ cbx M 753 40 ∧ cbx M 839 40) ∧ NP M ∧ cbx M 1207 60 ∧ (∃ ρ, rw6 M 1333 ρ) ∧ (∃ ρ, rw6 M 1459 ρ) ∧ (∃ w, cn M 934 w) ∧ (0 ≤ M 931 10 ∧ M 931 10 ≤ 1000000000000000) ∧ (0 ≤ M 931 11 ∧ M 931 11 ≤ 1000000000000000)
def cScr (M : im_M) : Prop := (∃ I, CIr M 328 I) ∧ (∃ w, cn M 26 w) ∧ (∃ w, cn M 11 w) ∧ (∃ w, cn M 2070 w)
/-- room: what stands in e beside the exceptions -/
def nex (s : im_Sh) : Bool := !(Nat.beq s.1 6)
def stc (e : im_E) : Nat := (e.filter nex).length
def stz (e : im_E) : Nat := ((e.filter nex).map (fun s => s.2.1)).sum
def xcn (e : im_E) : Nat := (e.filter (fun s => Nat.beq s.1 6)).length
def lvc (M : im_M) : Nat → Nat
  | 0 => 0
  | n + 1 => lvc M n + if M 1794 (n : Int) = -1 then 0 else 1
def RB (M : im_M) (e : im_E) : Prop := stc e ≤ 265 * lvc M 128 ∧ stz e ≤ 4975 * lvc M 128
theorem lvc_congr {M M' : im_M} (h : M' 1794 = M 1794) : ∀ n, lvc M' n = lvc M n := by
  intro n
  induction n with
  | zero => rfl
  | succ n ih => show lvc M' n + _ = lvc M n + _; rw [ih, h]
theorem RB_congr {M M' : im_M} {e : im_E} (h : RB M e) (h1 : M' 1794 = M 1794) : RB M' e := by
  unfold RB; rw [lvc_congr h1]; exact h
def cLv (M : im_M) (e : im_E) : Prop := (∀ j : Nat, j < 128 → M 1794 j = -1 ∨ ∃ b : Nat, M 1794 j = (b : Int) ∧ 7082 ≤ b ∧ stN e b 0 ∧ cbx M (b + 1) 40 ∧ cbx M (b + 87) 40 ∧ cbx M (b + 173) 40) ∧ (∀ (i j b c : Nat), i < 128 → j < 128 → i ≠ j → M 1794 i = (b : Int) → M 1794 j = (c : Int) → b + 265 ≤ c ∨ c + 265 ≤ b) ∧ RB M e
def cSea (M : im_M) (e : im_E) (md : Int) : Prop := M 1793 9 = md ∧ (∃ T A B C V, crw M 1795 128 0 T A B C V ∨ ∃ k, crw M 1795 128 k T A B C V) ∧ (∃ w, cn M 2060 w) ∧ cLv M e
/-- all of it -/
def CW (M : im_M) (e : im_E) (w : Wd) (ag : Int) : Prop := (cTape M w.gTp w.gTn ∧ cOut M w.gOb w.gOn ∧ cFau M w.gFc w.gFp ∧ cKw M) ∧ (cPool M w.gRw w.gM w.gDe ∧ cRoots M w.gRt ∧ cIns M w.gIn) ∧ (cb M 30 20 w.gPm ∧ cb M 76 60 w.gWa ∧ cb M 202 60 w.gMi) ∧ (rw6 M 414 w.gPy ∧ rw6 M 540 w.gWr) ∧ cSea M e w.gMd ∧ cJr M w.gJr ∧ (cMach M ∧ cScr M) ∧ M 0 19 = ag
theorem cb_congr {M M' : im_M} {b n : Nat} {β : Bk} (h : cb M b n β) (hs : ∀ x, b ≤ x → x < b + 6 + 2 * n → M' x = M x) : cb M' b n β := cbk_congr h hs
theorem cbx_congr {M M' : im_M} {b n : Nat} (h : cbx M b n) (hs : ∀ x, b ≤ x → x < b + 6 + 2 * n → M' x = M x) : cbx M' b n := by
  obtain ⟨β, hβ⟩ := h
  exact ⟨β, cb_congr hβ hs⟩
theorem cInB_congr {M M' : im_M} {b : Nat} {I : Ins} (h : cInB M b I) (hs : ∀ x, b ≤ x → x < b + 305 → M' x = M x) : cInB M' b I := by
  obtain ⟨h1, h2, h3, h4, h5⟩ := h
  exact ⟨by rw [hs b (by omega) (by omega)]; exact h1, cb_congr h2 (fun x a b => hs x (by omega) (by omega)), cb_congr h3 (fun x a b => hs x (by omega) (by omega)), cb_congr h4 (fun x a b => hs x (by omega) (by omega)), cb_congr h5 (fun x a b => hs x (by omega) (by omega))⟩
theorem cIns_congr {M M' : im_M} {In : Int → Ins} (h : cIns M In) (hs : ∀ x, x = 29 ∨ (2072 ≤ x ∧ x < 6952) → M' x = M x) : cIns M' In := fun i hi => by
  obtain ⟨a, b⟩ := h i hi
  exact ⟨by rw [hs 29 (Or.inl rfl)]; exact a, cInB_congr b (fun x p q => hs x (Or.inr ⟨by omega, by omega⟩))⟩
theorem cLv_congr {M M' : im_M} {e : im_E} (h : cLv M e) (hs : ∀ x, x = 1794 ∨ 7082 ≤ x → M' x = M x) : cLv M' e := by
  have h0 := hs 1794 (Or.inl rfl)
  refine ⟨fun j hj => ?_, fun i j b c hi hj hij hb hc => h.2.1 i j b c hi hj hij (by rw [← h0]; exact hb) (by rw [← h0]; exact hc), RB_congr h.2.2 h0⟩
  rw [h0]
  rcases h.1 j hj with a | ⟨b, b1, b2, b3, b4, b5, b6⟩
  · exact Or.inl a
  · exact Or.inr ⟨b, b1, b2, b3, cbx_congr b4 (fun x p q => hs x (by omega)), cbx_congr b5 (fun x p q => hs x (by omega)), cbx_congr b6 (fun x p q => hs x (by omega))⟩
theorem cSea_congr {M M' : im_M} {e : im_E} {md : Int} (h : cSea M e md) (hs : ∀ x, (1793 ≤ x ∧ x < 2068) ∨ 7082 ≤ x → M' x = M x) : cSea M' e md := by
  obtain ⟨h1, ⟨T, A, B, C, V, h2⟩, ⟨w, h3⟩, h4⟩ := h
  refine ⟨by rw [hs 1793 (by omega)]; exact h1, ⟨T, A, B, C, V, ?_⟩, ⟨w, cn_congr h3 (hs _ (by omega)) (hs _ (by omega))⟩, cLv_congr h4 (fun x hx => hs x (by omega))⟩
  rcases h2 with a | ⟨k, a⟩
  · exact Or.inl (crw_congr a (fun x p q => hs x (by omega)))
  · exact Or.inr ⟨k, crw_congr a (fun x p q => hs x (by omega))⟩
theorem cTape_congr {M M' : im_M} {t : Int → Int} {n : Int} (h : cTape M t n) (h0 : M' 0 1 = M 0 1) (h1 : M' 1 = M 1) : cTape M' t n := by
  obtain ⟨a, b, c⟩ := h
  exact ⟨h0.trans a, by rw [h1]; exact b, c⟩
theorem cOut_congr {M M' : im_M} {t : Int → Int} {n : Int} (h : cOut M t n) (h0 : M' 7 = M 7) (h1 : M' 8 = M 8) : cOut M' t n := by
  obtain ⟨a, b, c⟩ := h
  exact ⟨by rw [h0]; exact a, by rw [h1]; exact b, c⟩
theorem cPool_congr {M M' : im_M} {R : Rw} {m u u' : Int} (h : cPool M R m u) (hs : ∀ x, 13 ≤ x → x ≤ 22 → M' x = M x) (hu : u ≤ u') : cPool M' R m u' := by
  obtain ⟨a, b, c⟩ := h
  have e := hs 13 (by omega) (by omega)
  unfold cPool
  rw [e]
  exact ⟨CP_congr a (fun x p q => hs x (by omega) (by omega)), b, by omega⟩
theorem cMach_congr {M M' : im_M} (h : cMach M) (hs : ∀ x, 666 ≤ x → x < 1793 → M' x = M x) : cMach M' := by
  obtain ⟨⟨a1, a2, a3⟩, b, c, ⟨ρ, d1⟩, ⟨ρ', d2⟩, ⟨w, d3⟩, d4, d5⟩ := h
  have e := hs 931 (by omega) (by omega)
  refine ⟨⟨cbx_congr a1 (fun x p q => hs x (by omega) (by omega)), cbx_congr a2 (fun x p q => hs x (by omega) (by omega)), cbx_congr a3 (fun x p q => hs x (by omega) (by omega))⟩, b.congr (hs 932 (by omega) (by omega)) (fun x p q => hs x (by omega) (by omega)), cbx_congr c (fun x p q => hs x (by omega) (by omega)), ⟨ρ, rw6_congr d1 (fun x p q => hs x (by omega) (by omega))⟩, ⟨ρ', rw6_congr d2 (fun x p q => hs x (by omega) (by omega))⟩, ⟨w, cn_congr d3 (hs _ (by omega) (by omega)) (hs _ (by omega) (by omega))⟩, by rw [e]; exact d4, by rw [e]; exact d5⟩
theorem cScr_congr {M M' : im_M} (h : cScr M) (hs : ∀ x, (x = 11 ∨ x = 12 ∨ x = 26 ∨ x = 27 ∨ x = 2070 ∨ x = 2071 ∨ (328 ≤ x ∧ x < 414)) → M' x = M x) : cScr M' := by
  obtain ⟨⟨I, k, h1, h2⟩, ⟨w1, h3⟩, ⟨w2, h4⟩, ⟨w3, h5⟩⟩ := h
  exact ⟨⟨I, k, h1, crw_congr h2 (fun x p q => hs x (by omega))⟩, ⟨w1, cn_congr h3 (hs _ (by omega)) (hs _ (by omega))⟩, ⟨w2, cn_congr h4 (hs _ (by omega)) (hs _ (by omega))⟩, ⟨w3, cn_congr h5 (hs _ (by omega)) (hs _ (by omega))⟩⟩
