/-! THE PATH of a search is told -/
/-- a try: its sort (-1: none), three names, number, start -/
abbrev Pe : Type := Int × Int × Int × Int × Int × Int
def peT (p : Pe) : List (List Int) := if p.1 = -1 then [nmB 2002872692, numB p.2.2.2.2.2] else if p.1 = 30 then [nmB (kwv 30), nmB 24948, numB p.2.2.2.2.2] else if p.1 = 29 then [nmB (kwv 29), nmB p.2.1, nmB p.2.2.1, numB p.2.2.2.2.1, nmB 24948, numB p.2.2.2.2.2] else [nmB (kwv 28), nmB p.2.1, nmB p.2.2.1, nmB p.2.2.2.1, numB p.2.2.2.2.1, nmB 24948, numB p.2.2.2.2.2]
def peO (p : Pe) : Prop := (p.1 = -1 ∨ p.1 = 28 ∨ p.1 = 29 ∨ p.1 = 30) ∧ (p.1 = 28 ∨ p.1 = 29 → (0 ≤ p.2.1 ∧ p.2.1 ≤ 9223372036854775807) ∧ (0 ≤ p.2.2.1 ∧ p.2.2.1 ≤ 9223372036854775807)) ∧ (p.1 = 28 → 0 ≤ p.2.2.2.1 ∧ p.2.2.2.1 ≤ 9223372036854775807) ∧ (0 ≤ p.2.2.2.2.2 ∧ p.2.2.2.2.2 ≤ 1000000000000000)
def paT (P : Nat → Pe) : Nat → List (List Int)
  | 0 => []
  | k + 1 => paT P k ++ peT (P k)
def cPe (M : im_M) (j : Nat) (p : Pe) : Prop := M 1796 j = p.1 ∧ (p.1 = 28 ∨ p.1 = 29 → M 1797 j = p.2.1 ∧ M 1798 j = p.2.2.1 ∧ M 1800 j = ((1801 + 2 * j : Nat) : Int) ∧ cn M (1801 + 2 * j) p.2.2.2.2.1) ∧ (p.1 = 28 → M 1799 j = p.2.2.2.1) ∧ M 2057 j = p.2.2.2.2.2
def wT (M M' : im_M) : Prop := (∀ x, x ≠ 7 → x ≠ 8 → x ≠ 11 → x ≠ 12 → M' x = M x) ∧ (∀ k, k ≠ 1 → M' 7 k = M 7 k)
theorem wT.rf (M : im_M) : wT M M := ⟨fun _ _ _ _ _ => rfl, fun _ _ => rfl⟩
theorem wT.trans {M M1 M2 : im_M} (h : wT M M1) (h' : wT M1 M2) : wT M M2 := ⟨fun x a b c d => (h'.1 x a b c d).trans (h.1 x a b c d), fun k a => (h'.2 k a).trans (h.2 k a)⟩
theorem wF.wT {M M' : im_M} (h : wF M M') : wT M M' := ⟨fun x a b _ _ => h.1 x a b, h.2⟩
theorem cPe.fr {M M' : im_M} {j : Nat} {p : Pe} (h : cPe M j p) (F : wT M M') : cPe M' j p := by
  obtain ⟨h1, h2, h3, h4⟩ := h
  have ex : ∀ x, 1796 ≤ x → M' x = M x := fun x a => F.1 x (by omega) (by omega) (by omega) (by omega)
  refine ⟨by rw [ex 1796 (by decide)]; exact h1, fun z => ?_, fun z => by rw [ex 1799 (by decide)]; exact h3 z, by rw [ex 2057 (by decide)]; exact h4⟩
  obtain ⟨a, b, c, f⟩ := h2 z
  exact ⟨by rw [ex 1797 (by decide)]; exact a, by rw [ex 1798 (by decide)]; exact b, by rw [ex 1800 (by decide)]; exact c, cn_congr f (ex _ (by omega)) (ex _ (by omega))⟩
theorem ltk_one (L : List Int) (a : List Int) (ts : List (List Int)) : ltk (ltk L [a]) ts = ltk L (a :: ts) := rfl
section PATH
variable {g : im_g} {d : Nat} {e : im_E} {M : im_M} {K : im_K}
theorem c_timeL {t : Int} {L : List Int} (ht : 0 ≤ t ∧ t ≤ 1000000000000000) (ho : cOL M L) (hd : 3 ≤ d) (hK : ∀ M', wT M M' → (∃ v, cn M' 11 v) → cOL M' (ltk L [numB t]) → K (.inl none) e M') : im_T g d 187 0 [some (.ref 7), some (vL t), none] [] e M K := by
  refine k_Writer_time_0 (by omega) (c_setTime nm_11 ht.1 (by omega) (by omega) (fun M1 F1 h1 => ⟨rfl, rfl, ?_⟩))
  have ho1 : cOL M1 L := by
    obtain ⟨o1, o2, o3⟩ := ho
    exact ⟨by rw [F1 7 (by decide) (by decide)]; exact o1, by rw [F1 8 (by decide) (by decide)]; exact o2, o3⟩
  refine c_numberL nm_11 (by decide) h1 ho1 (by omega) (fun M2 F2 h2 => ⟨rfl, rfl, hK M2 ⟨fun x a b c d => (F2.1 x a b).trans (F1 x c d), fun k a => (F2.2 k a).trans (by rw [F1 7 (by decide) (by decide)])⟩ ⟨t, cn_congr h1 (F2.1 11 (by decide) (by decide)) (F2.1 12 (by decide) (by decide))⟩ h2⟩)
theorem c_tellOne {L : List Int} {p : Pe} {j : Nat} (hj : j < 128) (hn : im_num e (1801 + 2 * j)) (hp : peO p) (hc : cPe M j p) (hu : (j : Int) < M 1795 5) (hw : cKw M) (ho : cOL M L) (hd : 4 ≤ d) (hK : ∀ M', wT M M' → (∃ v, cn M' 11 v) → cOL M' (ltk L (peT p)) → im_T g d 246 2 [some (.ref 1793), some (.ref 7), some (vI ((j : Int) + 1)), none] [] e M' K) : im_T g d 246 2 [some (.ref 1793), some (.ref 7), some (vI j), none] [] e M K := by
  obtain ⟨p1, p2, p3, p4⟩ := hp
  obtain ⟨h1, h2, h3, h4⟩ := hc
  refine k_Search_tellPath_2 (by omega) ⟨by constructor <;> omega, fun z => by omega, fun _ => ⟨⟨by omega, by omega⟩, ?_⟩⟩
  rw [h1]
  have ex : ∀ {N : im_M}, wT M N → ∀ x, 1796 ≤ x → N x = M x := fun F x a => F.1 x (by omega) (by omega) (by omega) (by omega)
  have last : ∀ (N : im_M) (L' : List Int), wT M N → cOL N L' → ltk L' [numB p.2.2.2.2.2] = ltk L (peT p) → im_T g (d - 1) 187 0 [some (.ref 7), some (vL (N 2057 j)), none] [] e N (im_r0 fun e_ M125 => e = e_ ∧ im_T g d 246 2 [some (.ref 1793), some (.ref 7), some (vI ((j : Int) + 1)), none] [] e M125 K) := by
    intro N L' F o hE
    rw [ex F 2057 (by decide), h4]
    exact c_timeL p4 o (by omega) (fun M' F' v' o' => ⟨rfl, rfl, hK M' (F.trans F') v' (by rw [← hE]; exact o')⟩)
  have at' : ∀ (N : im_M) (L' : List Int), wT M N → cOL N L' → ltk L' [nmB 24948, numB p.2.2.2.2.2] = ltk L (peT p) → im_T g (d - 1) 183 0 [some (.ref 7), some (vL 24948), none] [] e N (im_r0 fun e_ M128 => e = e_ ∧ im_T g (d - 1) 187 0 [some (.ref 7), some (vL (M128 2057 j)), none] [] e M128 (im_r0 fun e_ M125 => e = e_ ∧ im_T g d 246 2 [some (.ref 1793), some (.ref 7), some (vI ((j : Int) + 1)), none] [] e M125 K)) := by
    intro N L' F o hE
    exact c_codeL (by decide) o (by omega) (fun M' F' o' => ⟨rfl, rfl, last M' _ (F.trans F'.wT) o' ((ltk_one _ _ _).trans hE)⟩)
  have num : ∀ (N : im_M) (L' : List Int), (p.1 = 28 ∨ p.1 = 29) → wT M N → cOL N L' → ltk L' [numB p.2.2.2.2.1, nmB 24948, numB p.2.2.2.2.2] = ltk L (peT p) → ∃ b : Nat, N 1800 j = (b : Int) ∧ im_num e b ∧ im_T g (d - 1) 177 0 [some (.ref 7), some (.ref b), none, none, none, none] [] e N (im_r0 fun e_ M108 => e = e_ ∧ im_T g (d - 1) 183 0 [some (.ref 7), some (vL 24948), none] [] e M108 (im_r0 fun e_ M128 => e = e_ ∧ im_T g (d - 1) 187 0 [some (.ref 7), some (vL (M128 2057 j)), none] [] e M128 (im_r0 fun e_ M125 => e = e_ ∧ im_T g d 246 2 [some (.ref 1793), some (.ref 7), some (vI ((j : Int) + 1)), none] [] e M125 K))) := by
    intro N L' hk F o hE
    obtain ⟨_, _, a, b⟩ := h2 hk
    refine ⟨1801 + 2 * j, by rw [ex F 1800 (by decide)]; exact a, hn, c_numberL hn (by omega) (cn_congr b (ex F _ (by omega)) (ex F _ (by omega))) o (by omega) (fun M' F' o' => ⟨rfl, rfl, at' M' _ (F.trans F'.wT) o' ((ltk_cons _ _ _).symm.trans hE)⟩)⟩
  rcases p1 with z | z | z | z
  · have eT : peT p = [nmB 2002872692, numB p.2.2.2.2.2] := by unfold peT; rw [if_pos z]
    rw [z]
    simp only [Int.reduceEq, Int.reduceNeg, not_true_eq_false, not_false_eq_true, false_implies, true_implies, true_and, and_true, or_false, false_or, or_true, true_or, false_and, and_false, forall_const]
    exact c_codeL (by decide) ho (by omega) (fun M' F' o' => ⟨rfl, rfl, last M' _ F'.wT o' (by rw [eT]; simp only [ltk_cons, ltk_nil])⟩)
  · have eT : peT p = [nmB (kwv 28), nmB p.2.1, nmB p.2.2.1, nmB p.2.2.2.1, numB p.2.2.2.2.1, nmB 24948, numB p.2.2.2.2.2] := by unfold peT; rw [if_neg (by omega), if_neg (by omega), if_neg (by omega)]
    rw [z]
    simp only [Int.reduceEq, Int.reduceNeg, not_true_eq_false, not_false_eq_true, false_implies, true_implies, true_and, and_true, or_false, false_or, or_true, true_or, false_and, and_false, forall_const]
    obtain ⟨a1, a2, _⟩ := h2 (Or.inl z)
    obtain ⟨n1, n2⟩ := p2 (Or.inl z)
    refine c_keywordL (by decide) hw ho (by omega) (fun M1 F1 o1 => ⟨rfl, rfl, ?_⟩)
    have F1 := F1.wT
    rw [ex F1 1797 (by decide), a1]
    refine c_codeL n1 o1 (by omega) (fun M2 F2 o2 => ⟨rfl, rfl, ?_⟩)
    have F2 := F1.trans F2.wT
    rw [ex F2 1798 (by decide), a2]
    refine c_codeL n2 o2 (by omega) (fun M3 F3 o3 => ⟨rfl, rfl, ?_⟩)
    have F3 := F2.trans F3.wT
    rw [ex F3 1799 (by decide), h3 z]
    refine c_codeL (p3 z) o3 (by omega) (fun M4 F4 o4 => ⟨rfl, rfl, num M4 _ (Or.inl z) (F3.trans F4.wT) o4 (by rw [eT]; simp only [ltk_cons, ltk_nil])⟩)
  · have eT : peT p = [nmB (kwv 29), nmB p.2.1, nmB p.2.2.1, numB p.2.2.2.2.1, nmB 24948, numB p.2.2.2.2.2] := by unfold peT; rw [if_neg (by omega), if_neg (by omega), if_pos z]
    rw [z]
    simp only [Int.reduceEq, Int.reduceNeg, not_true_eq_false, not_false_eq_true, false_implies, true_implies, true_and, and_true, or_false, false_or, or_true, true_or, false_and, and_false, forall_const]
    obtain ⟨a1, a2, _⟩ := h2 (Or.inr z)
    obtain ⟨n1, n2⟩ := p2 (Or.inr z)
    refine c_keywordL (by decide) hw ho (by omega) (fun M1 F1 o1 => ⟨rfl, rfl, ?_⟩)
    have F1 := F1.wT
    rw [ex F1 1797 (by decide), a1]
    refine c_codeL n1 o1 (by omega) (fun M2 F2 o2 => ⟨rfl, rfl, ?_⟩)
    have F2 := F1.trans F2.wT
    rw [ex F2 1798 (by decide), a2]
    refine c_codeL n2 o2 (by omega) (fun M3 F3 o3 => ⟨rfl, rfl, num M3 _ (Or.inr z) (F2.trans F3.wT) o3 (by rw [eT]; simp only [ltk_cons, ltk_nil])⟩)
  · have eT : peT p = [nmB (kwv 30), nmB 24948, numB p.2.2.2.2.2] := by unfold peT; rw [if_neg (by omega), if_pos z]
    rw [z]
    simp only [Int.reduceEq, Int.reduceNeg, not_true_eq_false, not_false_eq_true, false_implies, true_implies, true_and, and_true, or_false, false_or, or_true, true_or, false_and, and_false, forall_const]
    exact c_keywordL (by decide) hw ho (by omega) (fun M' F' o' => ⟨rfl, rfl, at' M' _ F'.wT o' (by rw [eT]; simp only [ltk_cons, ltk_nil])⟩)
theorem c_tellPath {L : List Int} {P : Nat → Pe} {n : Nat} (hn : n ≤ 128) (he : ∀ j : Nat, j < 128 → im_num e (1801 + 2 * j)) (hP : ∀ j, j < n → peO (P j) ∧ cPe M j (P j)) (hu : M 1795 5 = n) (hw : cKw M) (ho : cOL M L) (hd : 4 ≤ d) (h11 : ∃ v, cn M 11 v) (hK : ∀ M', wT M M' → (∃ v, cn M' 11 v) → cOL M' (ltk L (paT P n)) → K (.inl none) e M') : im_T g d 246 0 [some (.ref 1793), some (.ref 7), none, none] [] e M K := by
  have loop : ∀ (j k : Nat) (N : im_M), k + j = n → wT M N → (∃ v, cn N 11 v) → cOL N (ltk L (paT P k)) → im_T g d 246 2 [some (.ref 1793), some (.ref 7), some (vI k), none] [] e N K := by
    intro j
    induction j with
    | zero =>
      intro k N hk F v11 o
      have hkn : k = n := by omega
      subst hkn
      have e5 : N 1795 5 = k := by rw [F.1 1795 (by decide) (by decide) (by decide) (by decide)]; exact hu
      exact k_Search_tellPath_2 (by omega) ⟨by constructor <;> omega, fun _ => hK N F v11 o, fun z => by omega⟩
    | succ j ih =>
      intro k N hk F v11 o
      have e5 : N 1795 5 = n := by rw [F.1 1795 (by decide) (by decide) (by decide) (by decide)]; exact hu
      have hk' : k < n := by omega
      refine c_tellOne (p := P k) (by omega) (he k (by omega)) (hP k hk').1 ((hP k hk').2.fr F) (by omega) (fun i a b => by rw [F.1 3 (by decide) (by decide) (by decide) (by decide)]; exact hw i a b) o hd (fun M' F' v' o' => ?_)
      exact ih (k + 1) M' (by omega) (F.trans F') v' (by show cOL M' (ltk L (paT P k ++ peT (P k))); rw [ltk_app]; exact o')
  exact k_Search_tellPath_0 (loop n 0 M (by omega) (wT.rf M) h11 ho)
end PATH
