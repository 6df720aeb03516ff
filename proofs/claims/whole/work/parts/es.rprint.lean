/-! THE REFERENCE prints a node -/
theorem lpu_ne (L : List Int) (b : Int) : (lpu L b).length ≠ 0 ∨ L.length = 0 := by
  unfold lpu
  split
  · rw [List.length_append, List.length_singleton]; omega
  · omega
theorem lpu_pos (L : List Int) (b : Int) : (lpu L b).length ≠ 0 := by
  unfold lpu
  split
  · rw [List.length_append, List.length_singleton]; omega
  · omega
theorem lps_pos : ∀ (B L : List Int), L.length ≠ 0 → (lps L B).length ≠ 0 := by
  intro B
  induction B with
  | nil => intro L h; exact h
  | cons b B ih => intro L _; exact ih _ (lpu_pos L b)
theorem lga_pos {L : List Int} (h : L.length ≠ 0) : (lga L).length ≠ 0 := by
  unfold lga; rw [if_neg h]; exact lpu_pos _ _
theorem ltk_pos : ∀ (ts : List (List Int)) (L : List Int), L.length ≠ 0 → (ltk L ts).length ≠ 0 := by
  intro ts
  induction ts with
  | nil => intro L h; exact h
  | cons t ts ih => intro L h; exact ih _ (lps_pos t _ (lga_pos h))
theorem ltk_pos1 {t : List Int} (ht : t ≠ []) (ts : List (List Int)) (L : List Int) : (ltk L (t :: ts)).length ≠ 0 := by
  refine ltk_pos ts _ ?_
  cases t with
  | nil => exact absurd rfl ht
  | cons b t => exact lps_pos t _ (lpu_pos _ b)
/-- the names that stand with a node -/
def nmK (R : Rw) (n : Int) : List (List Int) := (if R 4 n ≠ 0 then [nmB (R 4 n)] else []) ++ (if R 0 n = 1 then [nmB (kwv (if R 3 n = 1 then 33 else 32))] else []) ++ (if R 5 n ≠ 0 then [nmB (R 5 n)] else []) ++ (if R 6 n ≠ 0 then [nmB (R 6 n)] else [])
def caT (R : Rw) (c : Int) : List (List Int) := if R 0 c = 30 then [] else if R 0 c = 28 then [nmB (R 4 c), nmB (R 5 c), nmB (R 6 c)] else nmB (R 4 c) :: nmB (R 5 c) :: [91] :: ((bl R c (R 6 c).toNat).map numB ++ [[93]])
def ly (n : Int) : List (Int × Int) := if n = -1 then [] else [(0, n)]
/-- the stack of what is still to be told -/
def rst2 (M : im_M) : List (Int × Int) → Prop
  | [] => True
  | x :: L => M 6988 L.length = x.1 ∧ M 6987 L.length = x.2 ∧ rst2 M L
def rSt (M : im_M) (L : List (Int × Int)) : Prop := M 6952 57 = L.length ∧ rst2 M L
theorem rst2_congr {M M' : im_M} : ∀ (L : List (Int × Int)), rst2 M L → (∀ i : Int, 0 ≤ i → i < L.length → M' 6988 i = M 6988 i ∧ M' 6987 i = M 6987 i) → rst2 M' L := by
  intro L
  induction L with
  | nil => intro _ _; trivial
  | cons x L ih =>
    intro h hs
    obtain ⟨h1, h2, h3⟩ := h
    have := hs L.length (by omega) (by rw [List.length_cons]; omega)
    exact ⟨by rw [this.1]; exact h1, by rw [this.2]; exact h2, ih h3 (fun i a b => hs i a (by rw [List.length_cons]; omega))⟩
def rwp (M0 M : im_M) (S : List (Int × Int)) (L : List Int) : Prop := ((∀ x, x ≠ 6952 → x ≠ 6954 → x ≠ 6987 → x ≠ 6988 → M x = M0 x) ∧ (∀ k, k ≠ 4 → k ≠ 57 → M 6952 k = M0 6952 k)) ∧ rSt M S ∧ rOL M L
def kRP (k a kk : Int) : Prop := (k < 28 → (kk ≤ 7 ∨ 22 ≤ kk) ∧ kk ≤ 50 ∧ 1 ≤ kk) ∧ (k < 28 → k ≠ 3 → kk ≠ 5) ∧ (k = 3 → kk = 5) ∧ (k = 1 → kk = 2 + a) ∧ (k < 28 → k ≠ 1 → kk ≠ 2 ∧ kk ≠ 3) ∧ (k = 34 → kk = 20) ∧ (k = 35 → kk = 21)
theorem kR_f {k a : Int} (h : knd k) (h31 : k ≠ 31) (ha : k = 1 → a = 0 ∨ a = 1) : kRP k a (kR k a) := by
  have hk : (0 ≤ k ∧ k ≤ 31) ∨ k = 34 ∨ k = 35 := h
  have e : kR k a = if k = 0 then 1 else if k = 1 then 2 + a else if k ≤ 5 then k + 2 else if k ≤ 16 then k + 16 else if k ≤ 27 then k + 23 else if k ≤ 30 then k - 20 else if k = 31 then 8 else if k = 34 then 20 else 21 := rfl
  generalize kR k a = kk at e ⊢
  have hkk : (k = 0 ∧ kk = 1) ∨ (k = 1 ∧ kk = 2 + a) ∨ (2 ≤ k ∧ k ≤ 5 ∧ kk = k + 2) ∨ (6 ≤ k ∧ k ≤ 16 ∧ kk = k + 16) ∨ (17 ≤ k ∧ k ≤ 27 ∧ kk = k + 23) ∨ (28 ≤ k ∧ k ≤ 30 ∧ kk = k - 20) ∨ (k = 34 ∧ kk = 20) ∨ (k = 35 ∧ kk = 21) := by
    (repeat' split at e) <;> omega
  clear e
  refine ⟨fun z => ⟨by omega, by omega, by omega⟩, fun z z2 => by omega, fun z => by omega, fun z => by omega, fun z z2 => ⟨by omega, by omega⟩, fun z => by omega, fun z => by omega⟩
theorem kRP_c {k a kk : Int} (h : kRP k a kk) (hk : knd k) (h31 : k ≠ 31) (hc : ¬ (28 ≤ k ∧ k ≤ 30)) : (1 ≤ kk ∧ kk ≤ 50 ∧ ¬ (8 ≤ kk ∧ kk ≤ 10)) ∧ (kk = 20 → k = 34) ∧ (kk = 21 → k = 35) ∧ (kk ≠ 21 → kk ≠ 20 → 0 ≤ k ∧ k < 28) := by
  obtain ⟨a1, _, _, _, _, a6, a7⟩ := h
  have hk : (0 ≤ k ∧ k ≤ 31) ∨ k = 34 ∨ k = 35 := hk
  have hcs : (0 ≤ k ∧ k < 28) ∨ k = 34 ∨ k = 35 := by omega
  clear hk
  rcases hcs with z | z | z
  · have b := a1 z.2
    clear a1 a6 a7
    exact ⟨by omega, fun q => by omega, fun q => by omega, fun _ _ => z⟩
  · have b := a6 z
    clear a1 a6 a7
    exact ⟨by omega, fun _ => z, fun q => by omega, fun _ q => absurd b q⟩
  · have b := a7 z
    clear a1 a6 a7
    exact ⟨by omega, fun q => by omega, fun _ => z, fun q => absurd b q⟩
section RPRINT
variable {g : im_g} {d : Nat} {e : im_E} {M M0 : im_M} {K : im_K} {R : Rw} {m : Int}
theorem rwp.qf {M' : im_M} {S : List (Int × Int)} {L L' : List Int} (h : rwp M0 M S L) (hF : qF M M') (ho : rOL M' L') : rwp M0 M' S L' := by
  obtain ⟨⟨a, b⟩, ⟨c, c'⟩, _⟩ := h
  exact ⟨⟨fun x p q r s => (hF.1 x p q).trans (a x p q r s), fun k p q => (hF.2 k p).trans (b k p q)⟩, ⟨by rw [hF.2 57 (by decide)]; exact c, rst2_congr S c' (fun i _ _ => ⟨by rw [hF.1 6988 (by decide) (by decide)], by rw [hF.1 6987 (by decide) (by decide)]⟩)⟩, ho⟩
theorem rwp.pop {x : Int × Int} {S : List (Int × Int)} {L : List Int} (h : rwp M0 M (x :: S) L) : rwp M0 (im_u M 6952 57 (S.length : Int)) S L := by
  obtain ⟨⟨a, b⟩, ⟨c, c'⟩, o⟩ := h
  refine ⟨⟨fun x p q r s => (im_u_ne _ _ _ p).trans (a x p q r s), fun k p q => (im_rdk _ _ _ q).trans (b k p q)⟩, ⟨im_rds _ _ _ _, rst2_congr S c'.2.2 (fun i _ _ => ⟨im_rdn _ _ _ _ (by decide), im_rdn _ _ _ _ (by decide)⟩)⟩, ⟨by rw [im_rdk _ _ _ (by decide)]; exact o.1, fun i p q => by rw [im_rdn _ _ _ _ (by decide)]; exact o.2.1 i p q, o.2.2⟩⟩
theorem c_layQ {a n : Int} {S : List (Int × Int)} {L : List Int} (h : rwp M0 M S L) (ha : im_i32 a) (hn : im_i32 n) (hn1 : n ≠ -1) (hS : S.length < 5000) (hK : ∀ M', rwp M0 M' ((a, n) :: S) L → K (.inl none) e M') : im_T g d 317 0 [some (.ref 6952), some (vI a), some (vI n)] [] e M K := by
  obtain ⟨⟨f1, f2⟩, ⟨c, c'⟩, o⟩ := h
  refine b_lay_0 ⟨hn, fun z => absurd z hn1, fun _ => ?_⟩
  rw [c]
  refine ⟨⟨by omega, by omega⟩, ha, by constructor <;> omega, hK _ ⟨⟨fun x p q r s => ?_, fun k p q => ?_⟩, ⟨?_, ?_, ?_, ?_⟩, ⟨?_, fun i p q => ?_, o.2.2⟩⟩⟩
  · rw [im_u_ne _ _ _ p, im_u_ne _ _ _ r, im_u_ne _ _ _ s]; exact f1 x p q r s
  · rw [im_rdk _ _ _ q, im_rdn _ _ _ _ (by decide), im_rdn _ _ _ _ (by decide)]; exact f2 k p q
  · rw [im_rds]; rfl
  · rw [im_rdn _ _ _ _ (by decide), im_rdn _ _ _ _ (by decide), im_rds]
  · rw [im_rdn _ _ _ _ (by decide), im_rds]
  · refine rst2_congr S c' (fun i i0 i1 => ⟨?_, ?_⟩)
    · rw [im_rdn _ _ _ _ (by decide), im_rdn _ _ _ _ (by decide), im_rdk _ _ _ (by omega)]
    · rw [im_rdn _ _ _ _ (by decide), im_rdk _ _ _ (by omega), im_rdn _ _ _ _ (by decide)]
  · rw [im_rdk _ _ _ (by decide), im_rdn _ _ _ _ (by decide), im_rdn _ _ _ _ (by decide)]; exact o.1
  · rw [im_rdn _ _ _ _ (by decide), im_rdn _ _ _ _ (by decide), im_rdn _ _ _ _ (by decide)]; exact o.2.1 i p q
theorem c_layR {n : Int} {S : List (Int × Int)} {L : List Int} (h : rwp M0 M S L) (hn : im_i32 n) (hS : S.length < 5000) (hK : ∀ M', rwp M0 M' (ly n ++ S) L → K (.inl none) e M') : im_T g d 317 0 [some (.ref 6952), some (vI 0), some (vI n)] [] e M K := by
  unfold ly at hK
  by_cases c : n = -1
  · rw [if_pos c] at hK
    exact b_lay_0 ⟨hn, fun _ => hK M h, fun z => absurd c z⟩
  · rw [if_neg c] at hK
    exact c_layQ h (by decide) hn c hS hK
theorem ly_len (n : Int) (S : List (Int × Int)) : (ly n ++ S).length ≤ S.length + 1 := by
  unfold ly; split
  · exact Nat.le_succ _
  · rw [List.length_append]; simp; omega
theorem c_rgap {L : List Int} (ho : rOL M L) (hL : L.length ≠ 0) (hK : ∀ M', qF M M' → rOL M' (lga L) → K (.inl none) e M') : im_T g d 322 0 [some (.ref 6952), some (vI 32)] [] e M K := by
  unfold lga at hK
  rw [if_neg hL] at hK
  exact c_rputL ho (by decide) hK
/-- all that printing asks of the nodes -/
def QB (M : im_M) (R : Rw) (m : Int) : Prop := RP M R m ∧ WFP R m ∧ prH R m ∧ M 6952 6 ≤ 1100000 ∧ M 6952 36 ≤ 20400 ∧ ∀ j, 0 ≤ j → j < m → ∀ s : Nat, 16 ≤ s → s ≤ 19 → -1 ≤ R s j ∧ R s j < m
theorem c_tellNodeR {n : Int} {S : List (Int × Int)} {L : List Int} (hB : QB M0 R m) (hc : rwp M0 M S L) (hn : 0 ≤ n ∧ n < m) (hk : ¬ (28 ≤ R 0 n ∧ R 0 n ≤ 30)) (hS : S.length + 6 < 5000) (hd : 4 ≤ d)
    (hK1 : (R 0 n = 34 ∨ R 0 n = 35) → ∀ M', rwp M0 M' S (ltk L [owT R n]) → K (.inl none) e M')
    (hK3 : R 0 n = 3 → ∀ M', rwp M0 M' ((1, n) :: (ly (R 16 n) ++ ((2, n) :: (3, n) :: (ly (R 17 n) ++ S)))) (ltk L [owT R n]) → K (.inl none) e M')
    (hK : R 0 n < 28 → R 0 n ≠ 3 → ∀ M', rwp M0 M' (ly (R 16 n) ++ (ly (R 17 n) ++ (ly (R 18 n) ++ S))) (ltk L (owT R n :: nmK R n)) → K (.inl none) e M') : im_T g d 318 0 [some (.ref 6952), some (vI n), none] [] e M K := by
  obtain ⟨hR, hW, hH, h6, h36, hlk⟩ := id hB
  have hrow := hR n hn.1 hn.2
  have r1 := hrow.1
  obtain ⟨r4a, r4b, r4c, _⟩ := hrow.2.2.2.1
  have hWn := hW.2.2 n hn.1 hn.2
  obtain ⟨v4, v5, v6⟩ := hWn.2.1.1
  have hkn := hWn.1.1
  obtain ⟨x4, x5, x6⟩ := (hH.2 n hn.1 hn.2).1
  have hl := hlk n hn.1 hn.2
  have l16 := hl 16 (by decide) (by decide)
  have l17 := hl 17 (by decide) (by decide)
  have l18 := hl 18 (by decide) (by decide)
  have m5 := hW.2.1
  have eM : ∀ (M' : im_M) (S' : List (Int × Int)) (L' : List Int), rwp M0 M' S' L' → ∀ x, (6955 ≤ x ∧ x ≤ 6986) → M' x = M0 x := fun M' S' L' h x hx => h.1.1 x (by omega) (by omega) (by omega) (by omega)
  have hkR : M 6960 n = kR (R 0 n) (R 3 n) := by rw [eM M S L hc 6960 (by decide)]; exact r1
  refine b_tellNode_0 (by omega) ⟨⟨hn.1, by omega⟩, ?_⟩
  rw [hkR]
  have hP := kR_f hkn.1 hkn.2 hWn.2.1.2.2.2
  have hwo : ∀ {K2 : im_K} {M2 : im_M}, 0 ≤ R 0 n ∧ R 0 n < 28 → K2 (.inl (some (vL (kwv (R 0 n))))) e M2 → im_T g (d - 1) 326 0 [some (vI (kR (R 0 n) (R 3 n))), none, none, none, none, none, none, none, none, none, none] [] e M2 K2 := fun h28 hh => c_wordOf ⟨h28.1, by omega⟩ hWn.2.1.2.2.2 hh
  generalize kR (R 0 n) (R 3 n) = kk at *
  obtain ⟨kb, k20, k21, kel⟩ := kRP_c hP hkn.1 hkn.2 hk
  refine c_isIn (by constructor <;> omega) (by decide) (by decide) (fun z => absurd z kb.2.2) (fun _ => ⟨_, rfl, rfl, by decide, fun _ => ⟨fun h21 => ⟨fun h20 => ?_, fun h20 => ?_⟩, fun h21 => ?_⟩, fun z => absurd rfl z⟩)
  · obtain ⟨k0, k28⟩ := kel h21 h20
    clear k20 k21 kel
    have how : owT R n = nmB (kwv (R 0 n)) := by unfold owT; rw [if_neg (by omega), if_neg (by omega)]
    refine hwo ⟨k0, k28⟩ ⟨_, rfl, rfl, c_rwordL (kwv_r ⟨k0, by omega⟩) hc.2.2 (by omega) (fun M1 g1 o1 => ⟨rfl, rfl, ?_⟩)⟩
    have hc1 := hc.qf g1 o1
    rw [← how] at hc1
    refine ⟨fun h5 => ?_, fun h5 => ?_⟩
    · have k3 : R 0 n ≠ 3 := fun z => h5 (hP.2.2.1 z)
      have hK := hK k28 k3
      obtain ⟨q2, q2'⟩ := hrow.2.1 k3
      obtain ⟨q3, _⟩ := hrow.2.2.1 (by omega)
      rw [eM M1 _ _ hc1 6966 (by decide), r4c]
      refine c_layR hc1 (by constructor <;> omega) (by omega) (fun M2 hc2 => ⟨rfl, rfl, ?_⟩)
      have l2 := ly_len (R 18 n) S
      rw [eM M2 _ _ hc2 6965 (by decide), r4b]
      refine c_layR hc2 (by constructor <;> omega) (by omega) (fun M3 hc3 => ⟨rfl, rfl, ?_⟩)
      have l3 := ly_len (R 17 n) (ly (R 18 n) ++ S)
      rw [eM M3 _ _ hc3 6964 (by decide), r4a]
      refine c_layR hc3 (by constructor <;> omega) (by omega) (fun M4 hc4 => ⟨rfl, rfl, ?_⟩)
      have q2M : ∀ (M' : im_M) (S' : List (Int × Int)) (L' : List Int), rwp M0 M' S' L' → M' 6961 n = R 4 n ∧ M' 6962 n = R 5 n ∧ M' 6963 n = R 6 n := fun M' S' L' h' => ⟨by rw [eM M' _ _ h' 6961 (by decide)]; exact q2, by rw [eM M' _ _ h' 6962 (by decide)]; exact q2', by rw [eM M' _ _ h' 6963 (by decide)]; exact q3⟩
      -- the third name
      have end3 : ∀ (M' : im_M) (L' : List Int), rwp M0 M' (ly (R 16 n) ++ (ly (R 17 n) ++ (ly (R 18 n) ++ S))) L' → (ltk L (owT R n :: nmK R n) = ltk L' (if R 6 n ≠ 0 then [nmB (R 6 n)] else [])) → (((R 6 n) = 0 → K (.inl none) e M') ∧ (¬ (R 6 n) = 0 → im_T g (d - 1) 320 0 [some (.ref 6952), some (vL (R 6 n)), none] [] e M' (im_r0 (fun e_ M57 => e = e_ ∧ K (.inl none) e M57)))) := fun M' L' h' hL => by
        refine ⟨fun z => ?_, fun z => ?_⟩
        · rw [if_neg (Decidable.not_not.mpr z), ltk_nil] at hL
          exact hK M' (by rw [hL]; exact h')
        · rw [if_pos z] at hL
          exact c_rwordL ⟨v6, x6⟩ h'.2.2 (by omega) (fun M2 g2 o2 => ⟨rfl, rfl, hK M2 (by rw [hL]; exact h'.qf g2 o2)⟩)
      -- the second name
      have end2 : ∀ (M' : im_M) (L' : List Int), rwp M0 M' (ly (R 16 n) ++ (ly (R 17 n) ++ (ly (R 18 n) ++ S))) L' → (ltk L (owT R n :: nmK R n) = ltk L' ((if R 5 n ≠ 0 then [nmB (R 5 n)] else []) ++ (if R 6 n ≠ 0 then [nmB (R 6 n)] else []))) → (((M' 6962 n) = 0 → (((M' 6963 n) = 0 → K (.inl none) e M') ∧ (¬ (M' 6963 n) = 0 → im_T g (d - 1) 320 0 [some (.ref 6952), some (vL (M' 6963 n)), none] [] e M' (im_r0 (fun e_ M57 => e = e_ ∧ K (.inl none) e M57))))) ∧ (¬ (M' 6962 n) = 0 → im_T g (d - 1) 320 0 [some (.ref 6952), some (vL (M' 6962 n)), none] [] e M' (im_r0 (fun e_ M59 => e = e_ ∧ (((M59 6963 n) = 0 → K (.inl none) e M59) ∧ (¬ (M59 6963 n) = 0 → im_T g (d - 1) 320 0 [some (.ref 6952), some (vL (M59 6963 n)), none] [] e M59 (im_r0 (fun e_ M63 => e = e_ ∧ K (.inl none) e M63)))))))) := fun M' L' h' hL => by
        rw [(q2M M' _ _ h').2.1, (q2M M' _ _ h').2.2]
        refine ⟨fun z => ?_, fun z => ?_⟩
        · rw [if_neg (Decidable.not_not.mpr z), List.nil_append] at hL
          exact end3 M' L' h' hL
        · rw [if_pos z, ltk_app] at hL
          refine c_rwordL ⟨v5, x5⟩ h'.2.2 (by omega) (fun M2 g2 o2 => ⟨rfl, rfl, ?_⟩)
          have h2 := h'.qf g2 o2
          rw [(q2M M2 _ _ h2).2.2]
          exact end3 M2 _ h2 hL
      have endm : ∀ (M' : im_M) (L' : List Int), rwp M0 M' (ly (R 16 n) ++ (ly (R 17 n) ++ (ly (R 18 n) ++ S))) L' → (ltk L (owT R n :: nmK R n) = ltk L' ((if R 0 n = 1 then [nmB (kwv (if R 3 n = 1 then 33 else 32))] else []) ++ ((if R 5 n ≠ 0 then [nmB (R 5 n)] else []) ++ (if R 6 n ≠ 0 then [nmB (R 6 n)] else [])))) → R 0 n = 1 → ∀ x30 : Int, (((¬ kk = 2) ∧ x30 = 1768846447) ∨ ((kk = 2) ∧ x30 = 29807)) → ∀ {X : im_M → Prop}, (∀ (M2 : im_M) (L2 : List Int), rwp M0 M2 (ly (R 16 n) ++ (ly (R 17 n) ++ (ly (R 18 n) ++ S))) L2 → (ltk L (owT R n :: nmK R n) = ltk L2 ((if R 5 n ≠ 0 then [nmB (R 5 n)] else []) ++ (if R 6 n ≠ 0 then [nmB (R 6 n)] else []))) → X M2) → im_T g (d - 1) 320 0 [some (.ref 6952), some (vL x30), none] [] e M' (im_r0 (fun e_ M34 => e = e_ ∧ X M34)) := fun M' L' h' hL k1 x30 h30 X hX => by
        have hx : x30 = kwv (if R 3 n = 1 then 33 else 32) := by
          have e33 : kwv 33 = 1768846447 := by decide
          have e32 : kwv 32 = 29807 := by decide
          have := hWn.2.1.2.2.2 k1
          have := hP.2.2.2.1 k1
          by_cases c3 : R 3 n = 1
          · rw [if_pos c3, e33]; omega
          · rw [if_neg c3, e32]; omega
        rw [if_pos k1, ltk_app] at hL
        rw [hx]
        refine c_rwordL (kwv_r (by split <;> decide)) h'.2.2 (by omega) (fun M2 g2 o2 => ⟨rfl, rfl, hX M2 _ (h'.qf g2 o2) hL⟩)
      have hnm : nmK R n = (if R 4 n ≠ 0 then [nmB (R 4 n)] else []) ++ ((if R 0 n = 1 then [nmB (kwv (if R 3 n = 1 then 33 else 32))] else []) ++ ((if R 5 n ≠ 0 then [nmB (R 5 n)] else []) ++ (if R 6 n ≠ 0 then [nmB (R 6 n)] else []))) := by unfold nmK; rw [List.append_assoc, List.append_assoc]
      have hmid : ∀ (M' : im_M) (L' : List Int), rwp M0 M' (ly (R 16 n) ++ (ly (R 17 n) ++ (ly (R 18 n) ++ S))) L' → (ltk L (owT R n :: nmK R n) = ltk L' ((if R 0 n = 1 then [nmB (kwv (if R 3 n = 1 then 33 else 32))] else []) ++ ((if R 5 n ≠ 0 then [nmB (R 5 n)] else []) ++ (if R 6 n ≠ 0 then [nmB (R 6 n)] else [])))) → R 0 n ≠ 1 → (ltk L (owT R n :: nmK R n) = ltk L' ((if R 5 n ≠ 0 then [nmB (R 5 n)] else []) ++ (if R 6 n ≠ 0 then [nmB (R 6 n)] else []))) := fun M' L' _ hL k1 => by
        rw [if_neg k1, List.nil_append] at hL; exact hL
      have h14 : ltk L (owT R n :: nmK R n) = ltk (ltk L [owT R n]) (nmK R n) := by rw [ltk_cons, ltk_cons, ltk_nil]
      rw [(q2M M4 _ _ hc4).1]
      refine ⟨fun z4 => ⟨fun n2 n3 => ?_, fun hor x30 h30 => ?_⟩, fun z4 => c_rwordL ⟨v4, x4⟩ hc4.2.2 (by omega) (fun M5 g5 o5 => ⟨rfl, rfl, ?_⟩)⟩
      · have k1 : R 0 n ≠ 1 := fun z => by have := hWn.2.1.2.2.2 z; have := hP.2.2.2.1 z; omega
        refine end2 M4 _ hc4 (hmid M4 _ hc4 ?_ k1)
        rw [h14, hnm, if_neg (Decidable.not_not.mpr z4), List.nil_append]
      · have k1 : R 0 n = 1 := by
          apply Decidable.byContradiction
          intro z; have := hP.2.2.2.2.1 k28 z; omega
        refine endm M4 _ hc4 ?_ k1 x30 h30 (fun M6 L6 hc6 hL6 => end2 M6 L6 hc6 hL6)
        rw [h14, hnm, if_neg (Decidable.not_not.mpr z4), List.nil_append]
      · have hc5 := hc4.qf g5 o5
        have h15 : ltk L (owT R n :: nmK R n) = ltk (ltk (ltk L [owT R n]) [nmB (R 4 n)]) ((if R 0 n = 1 then [nmB (kwv (if R 3 n = 1 then 33 else 32))] else []) ++ ((if R 5 n ≠ 0 then [nmB (R 5 n)] else []) ++ (if R 6 n ≠ 0 then [nmB (R 6 n)] else []))) := by
          rw [h14, hnm, if_pos z4, ltk_app]
        refine ⟨fun n2 n3 => ?_, fun hor x30 h30 => ?_⟩
        · have k1 : R 0 n ≠ 1 := fun z => by have := hWn.2.1.2.2.2 z; have := hP.2.2.2.1 z; omega
          exact end2 M5 _ hc5 (hmid M5 _ hc5 h15 k1)
        · have k1 : R 0 n = 1 := by
            apply Decidable.byContradiction
            intro z; have := hP.2.2.2.2.1 k28 z; omega
          exact endm M5 _ hc5 h15 k1 x30 h30 (fun M6 L6 hc6 hL6 => end2 M6 L6 hc6 hL6)
    · have k3 : R 0 n = 3 := by
        apply Decidable.byContradiction
        intro z; exact hP.2.1 k28 z h5
      have hK3 := hK3 k3
      rw [eM M1 _ _ hc1 6965 (by decide), r4b]
      refine c_layR hc1 (by constructor <;> omega) (by omega) (fun M2 hc2 => ⟨rfl, rfl, ?_⟩)
      have l2 := ly_len (R 17 n) S
      refine c_layQ hc2 (by decide) (by constructor <;> omega) (by omega) (by omega) (fun M3 hc3 => ⟨rfl, rfl, ?_⟩)
      refine c_layQ hc3 (by decide) (by constructor <;> omega) (by omega) (by rw [List.length_cons]; omega) (fun M4 hc4 => ⟨rfl, rfl, ?_⟩)
      rw [eM M4 _ _ hc4 6964 (by decide), r4a]
      refine c_layR hc4 (by constructor <;> omega) (by simp only [List.length_cons]; omega) (fun M5 hc5 => ⟨rfl, rfl, ?_⟩)
      have l5 := ly_len (R 16 n) ((2, n) :: (3, n) :: (ly (R 17 n) ++ S))
      simp only [List.length_cons] at l5
      exact c_layQ hc5 (by decide) (by constructor <;> omega) (by omega) (by omega) (fun M6 hc6 => ⟨rfl, rfl, hK3 M6 hc6⟩)
  · have k34 := k20 h20
    have hnum := hrow.2.2.2.2.1 k34
    refine c_rblankL hc.2.2 (by omega) (fun M1 f1 o1 => ⟨rfl, rfl, ?_⟩)
    have hc1 := hc.qf f1 o1
    rw [eM M1 _ _ hc1 6968 (by decide)]
    refine c_rnumberL (rnp_congr hnum (fun j _ => by rw [eM M1 _ _ hc1 6955 (by decide)]) (Int.le_refl _)) h6 o1 (by omega) (fun M2 f2 o2 => ⟨rfl, rfl, hK1 (Or.inl k34) M2 (hc1.qf f2 ?_)⟩)
    unfold owT; rw [if_pos k34]; exact o2
  · have k35 := k21 h21
    have e61 : M 6961 n = R 4 n := by rw [eM M _ _ hc 6961 (by decide)]; exact (hrow.2.1 (by omega)).1
    rw [e61]
    refine c_raskedL ⟨v4, x4⟩ hc.2.2 (by omega) (fun M1 f1 o1 => ⟨rfl, rfl, hK1 (Or.inr k35) M1 (hc.qf f1 ?_)⟩)
    unfold owT; rw [if_neg (by omega), if_pos k35]; exact o1
end RPRINT
