/-! THE REFERENCE prints a contract: its loop, print and rest -/
def PrR (g : im_g) (d : Nat) (e : im_E) (M0 : im_M) (K : im_K) (R : Rw) (m : Int) (f : Nat) : Prop :=
  (∀ (n : Int) (M : im_M) (S : List (Int × Int)) (L : List Int), m - n ≤ f → 0 ≤ n → n < m → ¬ (28 ≤ R 0 n ∧ R 0 n ≤ 30) → (S.length : Int) + 5 * (101 - R 1 n) ≤ 4000 → rwp M0 M ((0, n) :: S) L → (∀ M', rwp M0 M' S (ltk L (tX R f false n)) → im_T g d 316 16 [some (.ref 6952), none, none, none] [] e M' K) → im_T g d 316 16 [some (.ref 6952), none, none, none] [] e M K) ∧
  (∀ (n : Int) (M : im_M) (S : List (Int × Int)) (L : List Int), m - n ≤ f → 0 ≤ n → n < m → (28 ≤ R 0 n ∧ R 0 n ≤ 30) → (∃ (i p : Int) (cs : List Int) (q0 : Int), 0 ≤ i ∧ chc R m i p n (n :: cs) q0) → (S.length : Int) + 5 * (101 - R 1 n) ≤ 4000 → rwp M0 M ((0, n) :: S) L → (∀ M', rwp M0 M' S (ltk L (tX R f true n)) → im_T g d 316 16 [some (.ref 6952), none, none, none] [] e M' K) → im_T g d 316 16 [some (.ref 6952), none, none, none] [] e M K)
section RPRINT3
variable {g : im_g} {d : Nat} {e : im_E} {M M0 : im_M} {K : im_K} {R : Rw} {m : Int}
/-- the top entry -/
theorem rwp_top {a n : Int} {S : List (Int × Int)} {L : List Int} (h : rwp M0 M ((a, n) :: S) L) : M 6952 57 - 1 = S.length ∧ 0 < M 6952 57 ∧ M 6988 (M 6952 57 - 1) = a ∧ M 6987 (M 6952 57 - 1) = n := by
  obtain ⟨_, ⟨c, c1, c2, _⟩, _⟩ := h
  have : M 6952 57 = (S.length : Int) + 1 := by rw [c, List.length_cons]; omega
  have e1 : M 6952 57 - 1 = (S.length : Int) := by omega
  rw [e1]
  exact ⟨rfl, by omega, c1, c2⟩
/-- a node's entry is popped -/
theorem c_popN {n : Int} {S : List (Int × Int)} {L : List Int} (h : rwp M0 M ((0, n) :: S) L) (hS : S.length < 5000) (hd : 1 ≤ d) (hK : im_T g (d - 1) 318 0 [some (.ref 6952), some (vI n), none] [] e (im_u M 6952 57 (S.length : Int)) (im_r0 (fun e_ M33 => e = e_ ∧ im_T g d 316 16 [some (.ref 6952), none, none, none] [] e M33 K))) : im_T g d 316 16 [some (.ref 6952), none, none, none] [] e M K := by
  obtain ⟨e1, e2, e3, e4⟩ := rwp_top h
  refine b_tellAll_16 hd ?_
  rw [e3, e4, e1]
  exact ⟨fun z => by omega, fun _ => ⟨by constructor <;> omega, ⟨by omega, by omega⟩, fun z => absurd rfl z, fun _ => hK⟩⟩
/-- a bracket's entry is popped -/
theorem c_popB {a n b : Int} {S : List (Int × Int)} {L : List Int} (h : rwp M0 M ((a, n) :: S) L) (ha : (a = 1 ∧ b = 91) ∨ (a = 2 ∧ b = 93)) (hL : L.length ≠ 0) (hS : S.length < 5000) (hd : 1 ≤ d) (hK : ∀ M', rwp M0 M' S (ltk L [[b]]) → im_T g d 316 16 [some (.ref 6952), none, none, none] [] e M' K) : im_T g d 316 16 [some (.ref 6952), none, none, none] [] e M K := by
  obtain ⟨e1, e2, e3, e4⟩ := rwp_top h
  have hp := h.pop
  refine b_tellAll_16 hd ?_
  rw [e3, e4, e1]
  refine ⟨fun z => by omega, fun _ => ⟨by constructor <;> omega, ⟨by omega, by omega⟩, fun _ => ⟨fun z => by omega, fun _ => c_rgap hp.2.2 hL (fun M1 f1 o1 => ⟨rfl, rfl, fun x hx => ?_⟩)⟩, fun z => by omega⟩⟩
  have hxb : x = b := by omega
  rw [hxb]
  exact c_rputL o1 (by omega) (fun M2 f2 o2 => ⟨rfl, rfl, hK M2 ((hp.qf f1 o1).qf f2 o2)⟩)
/-- a time's entry is popped -/
theorem c_popT {n : Int} {S : List (Int × Int)} {L : List Int} (hB : QB M0 R m) (h : rwp M0 M ((3, n) :: S) L) (hn : 0 ≤ n ∧ n < m) (h3 : R 0 n = 3) (hL : L.length ≠ 0) (hS : S.length < 5000) (hd : 3 ≤ d) (hK : ∀ M', rwp M0 M' S (ltk L [tmT R n]) → im_T g d 316 16 [some (.ref 6952), none, none, none] [] e M' K) : im_T g d 316 16 [some (.ref 6952), none, none, none] [] e M K := by
  obtain ⟨hR, hW, hH, h6, h36, hlk⟩ := id hB
  have hrow := hR n hn.1 hn.2
  obtain ⟨w1, w2⟩ := hrow.2.2.2.2.2.1 h3
  have hWn := hW.2.2 n hn.1 hn.2
  obtain ⟨v4, v5, v6⟩ := hWn.2.1.1
  have t4 := (hWn.2.1.2.2.1 h3).1
  obtain ⟨x4, x5, x6⟩ := (hH.2 n hn.1 hn.2).1
  have m5 := hW.2.1
  obtain ⟨e1, e2, e3, e4⟩ := rwp_top h
  have hp := h.pop
  unfold tmT at hK
  refine b_tellAll_16 (by omega) ?_
  rw [e3, e4, e1, rwp_x h 6970 (by decide), rwp_x h 6961 (by decide)]
  refine ⟨fun z => by omega, fun _ => ⟨by constructor <;> omega, ⟨by omega, by omega⟩, fun _ => ⟨fun _ => ⟨⟨hn.1, by omega⟩, fun h0 => ?_, fun h0 => ?_⟩, fun z => absurd z (by decide)⟩, fun z => absurd z (by decide)⟩⟩
  · have c5 : R 5 n = 0 := by
      apply Decidable.byContradiction
      intro z; have := (w1 z).1; omega
    rw [if_neg (Decidable.not_not.mpr c5)] at hK
    have e69 := (w2 c5).2 (fun x hx => by cases hx)
    refine c_rgap hp.2.2 hL (fun M1 f1 o1 => ⟨rfl, rfl, ?_⟩)
    have hc1 := hp.qf f1 o1
    rw [rwp_x hc1 6969 (by decide), e69]
    exact c_rlongL ⟨v4, t4⟩ o1 (by omega) (fun M2 f2 o2 => ⟨rfl, rfl, hK M2 (hc1.qf f2 o2)⟩)
  · have c5 : R 5 n ≠ 0 := fun z => h0 (w2 z).1
    rw [if_pos c5] at hK
    rw [(w1 c5).2]
    exact c_raskedL ⟨v5, x5⟩ hp.2.2 (by omega) (fun M2 f2 o2 => ⟨rfl, rfl, hK M2 (hp.qf f2 o2)⟩)
/-- a case is told -/
theorem c_tellNodeC {n : Int} {S : List (Int × Int)} {L : List Int} (hB : QB M0 R m) (hc : rwp M0 M S L) (hn : 0 ≤ n ∧ n < m) (hk : 28 ≤ R 0 n ∧ R 0 n ≤ 30) (hS : S.length + 6 < 5000) (hd : 5 ≤ d)
    (hK : ∀ M', rwp M0 M' (ly (R 16 n) ++ (ly (R 17 n) ++ (ly (R 19 n) ++ S))) (ltk L (nmB (kwv 31) :: nmB (kwv (R 0 n)) :: caT R n)) → K (.inl none) e M') : im_T g d 318 0 [some (.ref 6952), some (vI n), none] [] e M K := by
  have r1 := (hB.1 n hn.1 hn.2).1
  have hkr : kR (R 0 n) (R 3 n) = R 0 n - 20 := by
    unfold kR
    rw [if_neg (by omega), if_neg (by omega), if_neg (by omega), if_neg (by omega), if_neg (by omega), if_pos (by omega)]
  have m5 := hB.2.1.2.1
  refine b_tellNode_0 (by omega) ⟨⟨hn.1, by omega⟩, ?_⟩
  rw [rwp_x hc 6960 (by decide), r1, hkr]
  exact c_isIn (by constructor <;> omega) (by decide) (by decide) (fun _ => ⟨_, rfl, rfl, by decide, fun z => absurd z (by decide), fun _ => c_tellCaseR hB hc hn hk hS (by omega) (fun M' h' => ⟨rfl, rfl, hK M' h'⟩)⟩) (fun z => by omega)
theorem bgn_nc {s k : Int} (h : bgn s k) : ¬ (28 ≤ k ∧ k ≤ 30) := by unfold bgn at h; omega
theorem l_prR (hB : QB M0 R m) (hd : 6 ≤ d) : ∀ f : Nat, PrR g d e M0 K R m f := by
  have hW := hB.2.1
  have hH := hB.2.2.1
  -- a part by its link: none, or a node
  have kid : ∀ (f : Nat), PrR g d e M0 K R m f → ∀ (x : Int) (M : im_M) (S : List (Int × Int)) (L : List Int), (x ≠ -1 → m - x ≤ f ∧ 0 ≤ x ∧ x < m ∧ ¬ (28 ≤ R 0 x ∧ R 0 x ≤ 30) ∧ (S.length : Int) + 5 * (101 - R 1 x) ≤ 4000) → rwp M0 M (ly x ++ S) L → (∀ M', rwp M0 M' S (ltk L (kt (tX R f) x)) → im_T g d 316 16 [some (.ref 6952), none, none, none] [] e M' K) → im_T g d 316 16 [some (.ref 6952), none, none, none] [] e M K := by
    intro f hP x M S L hx hc hK
    unfold ly at hc
    unfold kt at hK
    by_cases c : x = -1
    · rw [if_pos c] at hc hK
      exact hK M hc
    · rw [if_neg c] at hc hK
      obtain ⟨a1, a2, a3, a4, a5⟩ := hx c
      exact hP.1 x M S L a1 a2 a3 a4 a5 hc hK
  intro f
  induction f using Nat.strongRecOn with
  | ind f IH =>
    have slot : ∀ (n : Int), 0 ≤ n → n < m → R 0 n ≠ 3 → (∀ y ∈ kids (R 0 n), R (15 + y.2.toNat) n ≠ -1) ∧ ∀ s : Nat, 1 ≤ s → s ≤ 3 → R (15 + s) n ≠ -1 → n < R (15 + s) n ∧ R (15 + s) n < m ∧ R 1 (R (15 + s) n) = R 1 n + 1 ∧ ¬ (28 ≤ R 0 (R (15 + s) n) ∧ R 0 (R (15 + s) n) ≤ 30) := by
      intro n n0 n1 n3
      obtain ⟨_, cs, q0, q, _, b2, b3⟩ := (hW.2.2 n n0 n1).1
      rw [b2 n3] at b3
      obtain ⟨_, _, _, _, c5⟩ := lks_all _ b3 (fun j a b => by omega) (Or.inl rfl)
      have hb : ∀ (L' : List (Int × Int)) {p q : Int}, lks R m n p L' q → ∀ y ∈ L', bgn y.1 (R 0 (R (15 + y.2.toNat) n)) := by
        intro L'
        induction L' with
        | nil => intro p q _ y hy; cases hy
        | cons z L' ih' =>
          intro p q h y hy
          obtain ⟨_, d2, _, _, d5⟩ := h
          rcases List.mem_cons.mp hy with e' | hy
          · rw [e']; exact d2
          · exact ih' d5 y hy
      refine ⟨fun y hy => by have := c5 y hy; omega, fun s s1 s3 hne => ?_⟩
      have hex : ∃ y ∈ kids (R 0 n), y.2 = (s : Int) := by
        apply Classical.byContradiction
        intro hno
        exact hne ((hH.2 n n0 n1).2.2 n3 s s1 s3 (fun y hy z => hno ⟨y, hy, z⟩))
      obtain ⟨y, hy, hys⟩ := hex
      have h1 := c5 y hy
      have h2 := hb _ b3 y hy
      have es : y.2.toNat = s := by omega
      rw [es] at h1 h2
      exact ⟨h1.2.1, h1.2.2.2, h1.1, bgn_nc h2⟩
    refine ⟨fun n M S L hf n0 n1 hnc hroom hc hK => ?_, fun n M S L hf n0 n1 hcs hch hroom hc hK => ?_⟩
    · obtain ⟨f', rfl⟩ : ∃ f', f = f' + 1 := ⟨f - 1, by omega⟩
      have hP := IH f' (by omega)
      have hD := (hW.2.2 n n0 n1).2.2.1
      have hkn := (hW.2.2 n n0 n1).1.1
      have htx : tX R (f' + 1) false n = owT R n :: sgT R (tX R f') n (shp (R 0 n)) := by
        show (if R 0 n = 34 then [numB (R 7 n)] else if R 0 n = 35 then [63 :: nmB (R 4 n)] else nmB (kwv (R 0 n)) :: sgT R (tX R f') n (shp (R 0 n))) = _
        unfold owT
        by_cases c1 : R 0 n = 34
        · rw [if_pos c1, if_pos c1, c1]; rfl
        · rw [if_neg c1, if_neg c1]
          by_cases c2 : R 0 n = 35
          · rw [if_pos c2, if_pos c2, c2]; rfl
          · rw [if_neg c2, if_neg c2]
      rw [htx] at hK
      refine c_popN hc (by omega) (by omega) (c_tellNodeR hB hc.pop ⟨n0, n1⟩ hnc (by omega) (by omega) (fun hv M1 hc1 => ⟨rfl, rfl, hK M1 ?_⟩) (fun h3 M1 hc1 => ⟨rfl, rfl, ?_⟩) (fun h28 h3 M1 hc1 => ⟨rfl, rfl, ?_⟩))
      · have : shp (R 0 n) = [] := by rcases hv with z | z <;> rw [z] <;> rfl
        rw [this]; exact hc1
      · have es : shp (R 0 n) = [(91, 0, 4), (107, 0, 3), (116, 0, 2), (99, 2, 1)] := by rw [h3]; rfl
        have ek : kids (R 0 n) = [(99, 2)] := by rw [h3]; rfl
        obtain ⟨_, cs, q0, q, b1, _, b3⟩ := (hW.2.2 n n0 n1).1
        have b1 := (b1 h3).1
        rw [ek] at b3
        have hq0 := chc_all cs b1 (fun x a b => by omega) (Or.inl rfl)
        have b31 : nxt R n q0 (R 17 n) := b3.1
        have b32 : bgn 99 (R 0 (R 17 n)) := b3.2.1
        have b33 : R 1 (R 17 n) = R 1 n + 1 := b3.2.2.1
        have b34 : R 17 n < m := b3.2.2.2.1
        have hlt17 := nxt_lt b31
        have how : owT R n ≠ [] := by unfold owT; rw [if_neg (by omega), if_neg (by omega), h3]; decide
        have hp1 : (ltk L [owT R n]).length ≠ 0 := ltk_pos1 how [] _
        have ly17 := ly_len (R 17 n) S
        have ly16 := ly_len (R 16 n) ((2, n) :: (3, n) :: (ly (R 17 n) ++ S))
        simp only [List.length_cons] at ly16
        have s1 : sgT1 R (tX R f') n (91, 0, 4) = [[91]] := by unfold sgT1; rw [if_neg (by decide), if_neg (by decide), if_neg (by decide), if_neg (by decide), if_pos rfl]
        have s2 : sgT1 R (tX R f') n (107, 0, 3) = tX R f' true (R 16 n) ++ [[93]] := by unfold sgT1; rw [if_neg (by decide), if_neg (by decide), if_neg (by decide), if_neg (by decide), if_neg (by decide), if_neg (by decide), if_neg (by decide), if_pos rfl]
        have s3 : sgT1 R (tX R f') n (116, 0, 2) = [tmT R n] := by unfold sgT1; rw [if_neg (by decide), if_neg (by decide), if_neg (by decide), if_neg (by decide), if_neg (by decide), if_neg (by decide), if_pos rfl]
        have s4 : sgT1 R (tX R f') n (99, 2, 1) = tX R f' false (R 17 n) := sgT1_kid (Or.inl rfl)
        have hall : ltk L (owT R n :: sgT R (tX R f') n (shp (R 0 n))) = ltk (ltk (ltk (ltk (ltk (ltk L [owT R n]) [[91]]) (tX R f' true (R 16 n))) [[93]]) [tmT R n]) (tX R f' false (R 17 n)) := by
          rw [es]
          show ltk L (owT R n :: (sgT1 R (tX R f') n (91, 0, 4) ++ (sgT1 R (tX R f') n (107, 0, 3) ++ (sgT1 R (tX R f') n (116, 0, 2) ++ (sgT1 R (tX R f') n (99, 2, 1) ++ []))))) = _
          rw [s1, s2, s3, s4]
          simp only [ltk_cons, ltk_app, ltk_nil, List.append_nil, List.cons_append, List.nil_append]
        rw [hall] at hK
        refine c_popB hc1 (Or.inl ⟨rfl, rfl⟩) hp1 (by omega) (by omega) (fun M2 hc2 => ?_)
        have hp2 := ltk_pos [[91]] _ hp1
        -- the cases
        have cont : ∀ M3 : im_M, rwp M0 M3 ((2, n) :: (3, n) :: (ly (R 17 n) ++ S)) (ltk (ltk (ltk L [owT R n]) [[91]]) (tX R f' true (R 16 n))) → im_T g d 316 16 [some (.ref 6952), none, none, none] [] e M3 K := by
          intro M3 hc3
          have hp3 := ltk_pos (tX R f' true (R 16 n)) _ hp2
          refine c_popB hc3 (Or.inr ⟨rfl, rfl⟩) hp3 (by simp only [List.length_cons]; omega) (by omega) (fun M4 hc4 => ?_)
          have hp4 := ltk_pos [[93]] _ hp3
          refine c_popT hB hc4 ⟨n0, n1⟩ h3 hp4 (by omega) (by omega) (fun M5 hc5 => ?_)
          refine kid f' hP (R 17 n) M5 S _ (fun _ => ⟨by omega, by omega, b34, bgn_nc b32, by omega⟩) hc5 (fun M6 hc6 => hK M6 ?_)
          unfold kt at hc6
          rw [if_neg (by omega)] at hc6
          exact hc6
        cases cs with
        | nil =>
          have e16 : R 16 n = -1 := b1.2
          have : tX R f' true (R 16 n) = [] := by
            rw [e16]
            cases f' with
            | zero => rfl
            | succ f' => show (if (-1 : Int) = -1 then _ else _) = _; rw [if_pos rfl]
          refine cont M2 ?_
          rw [this, ltk_nil]
          have el : ly (R 16 n) = [] := by unfold ly; rw [if_pos e16]
          rw [el] at hc2
          exact hc2
        | cons c cs =>
          obtain ⟨a0, a1, a2, a3, a4, a5⟩ := b1
          have hltc := nxt_lt a1
          have ck := (hW.2.2 c (by omega) a4).1.1
          have el : ly (R 16 n) = [(0, c)] := by unfold ly; rw [a0, if_neg (by omega)]
          rw [el] at hc2
          have := hP.2 c M2 ((2, n) :: (3, n) :: (ly (R 17 n) ++ S)) _ (by omega) (by omega) a4 ⟨a2.1, by have := ck.2; omega⟩ ⟨n, n, cs, q0, n0, rfl, a1, a2, a3, a4, a5⟩ (by simp only [List.length_cons]; omega) hc2 (fun M3 hc3 => cont M3 (by rw [a0]; exact hc3))
          exact this
      · have hk0 : 0 ≤ R 0 n := by have := hkn.1; unfold knd at this; omega
        obtain ⟨hpr, hsl⟩ := slot n n0 n1 h3
        have heq := tkq (F := tX R f') ⟨hk0, h28⟩ h3 (hH.2 n n0 n1).2 hpr
        rw [heq] at hK
        have l18 := ly_len (R 18 n) S
        have l17 := ly_len (R 17 n) (ly (R 18 n) ++ S)
        have room : ∀ s : Nat, 1 ≤ s → s ≤ 3 → ∀ S' : List (Int × Int), S'.length ≤ S.length + 2 → R (15 + s) n ≠ -1 → m - R (15 + s) n ≤ f' ∧ 0 ≤ R (15 + s) n ∧ R (15 + s) n < m ∧ ¬ (28 ≤ R 0 (R (15 + s) n) ∧ R 0 (R (15 + s) n) ≤ 30) ∧ (S'.length : Int) + 5 * (101 - R 1 (R (15 + s) n)) ≤ 4000 := fun s s1 s3 S' hS' hne => by
          obtain ⟨z1, z2, z3, z4⟩ := hsl s s1 s3 hne
          refine ⟨by omega, by omega, z2, z4, ?_⟩
          rw [z3]; omega
        refine kid f' hP (R 16 n) M1 _ _ (room 1 (by decide) (by decide) _ (by omega)) hc1 (fun M2 hc2 => ?_)
        refine kid f' hP (R 17 n) M2 _ _ (room 2 (by decide) (by decide) _ (by omega)) hc2 (fun M3 hc3 => ?_)
        refine kid f' hP (R 18 n) M3 _ _ (room 3 (by decide) (by decide) _ (by omega)) hc3 (fun M4 hc4 => hK M4 ?_)
        rw [ltk_cons, ltk_app, ltk_app, ltk_app]
        rw [ltk_cons] at hc4
        exact hc4
    · obtain ⟨f', rfl⟩ : ∃ f', f = f' + 1 := ⟨f - 1, by omega⟩
      have hP := IH f' (by omega)
      have hD := (hW.2.2 n n0 n1).2.2.1
      have htx : tX R (f' + 1) true n = nmB (kwv 31) :: nmB (kwv (R 0 n)) :: (sgT R (tX R f') n (shp (R 0 n)) ++ tX R f' true (R 19 n)) := by
        show (if n = -1 then _ else _) = _
        rw [if_neg (by omega)]
      rw [htx] at hK
      have h3 : R 0 n ≠ 3 := by omega
      obtain ⟨hpr, hsl⟩ := slot n n0 n1 h3
      rw [tkqc (F := tX R f') hcs (hH.2 n n0 n1).2 hpr] at hK
      obtain ⟨i, p, cs, q0, i0, _, a1, a2, a3, a4, a5⟩ := hch
      have l19 := ly_len (R 19 n) S
      have l17 := ly_len (R 17 n) (ly (R 19 n) ++ S)
      have room : ∀ s : Nat, 1 ≤ s → s ≤ 3 → ∀ S' : List (Int × Int), S'.length ≤ S.length + 2 → R (15 + s) n ≠ -1 → m - R (15 + s) n ≤ f' ∧ 0 ≤ R (15 + s) n ∧ R (15 + s) n < m ∧ ¬ (28 ≤ R 0 (R (15 + s) n) ∧ R 0 (R (15 + s) n) ≤ 30) ∧ (S'.length : Int) + 5 * (101 - R 1 (R (15 + s) n)) ≤ 4000 := fun s s1 s3 S' hS' hne => by
        obtain ⟨z1, z2, z3, z4⟩ := hsl s s1 s3 hne
        refine ⟨by omega, by omega, z2, z4, ?_⟩
        rw [z3]; omega
      refine c_popN hc (by omega) (by omega) (c_tellNodeC hB hc.pop ⟨n0, n1⟩ hcs (by omega) (by omega) (fun M1 hc1 => ⟨rfl, rfl, ?_⟩))
      refine kid f' hP (R 16 n) M1 _ _ (room 1 (by decide) (by decide) _ (by omega)) hc1 (fun M2 hc2 => ?_)
      refine kid f' hP (R 17 n) M2 _ _ (room 2 (by decide) (by decide) _ (by omega)) hc2 (fun M3 hc3 => ?_)
      have hfin : ∀ M4 : im_M, rwp M0 M4 S (ltk (ltk (ltk (ltk L (nmB (kwv 31) :: nmB (kwv (R 0 n)) :: caT R n)) (kt (tX R f') (R 16 n))) (kt (tX R f') (R 17 n))) (tX R f' true (R 19 n))) → im_T g d 316 16 [some (.ref 6952), none, none, none] [] e M4 K := fun M4 h4 => hK M4 (by
        simp only [ltk_cons, ltk_app] at h4 ⊢
        exact h4)
      cases cs with
      | nil =>
        have e19 : R 19 n = -1 := a5.2
        have : tX R f' true (R 19 n) = [] := by
          rw [e19]
          cases f' with
          | zero => rfl
          | succ f' => show (if (-1 : Int) = -1 then _ else _) = _; rw [if_pos rfl]
        refine hfin M3 ?_
        rw [this, ltk_nil]
        have el : ly (R 19 n) = [] := by unfold ly; rw [if_pos e19]
        rw [el] at hc3
        exact hc3
      | cons c cs =>
        obtain ⟨d0, d1, d2, d3, d4, d5⟩ := a5
        have hltc := nxt_lt d1
        have ck := (hW.2.2 c (by omega) d4).1.1
        have el : ly (R 19 n) = [(0, c)] := by unfold ly; rw [d0, if_neg (by omega)]
        rw [el] at hc3
        exact hP.2 c M3 S _ (by omega) (by omega) d4 ⟨d2.1, by have := ck.2; omega⟩ ⟨i, n, cs, q0, i0, rfl, d1, d2, d3, d4, d5⟩ (by omega) hc3 (fun M4 hc4 => hfin M4 (by rw [d0]; exact hc4))
end RPRINT3
