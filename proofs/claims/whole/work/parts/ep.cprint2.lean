/-! THE CLASS prints a contract: the loop -/
def PrC (g : im_g) (d : Nat) (e : im_E) (M0 : im_M) (K : im_K) (R : Rw) (m : Int) (f : Nat) : Prop := ∀ (n sg' o : Int) (M : im_M) (S : List (Int × Int)) (L : List Int) (t : Int), m - n ≤ f → 0 ≤ n → n < m → ckd sg' → cwp M0 M ((sg', o) :: S) L → (S.length : Int) + 6 * (101 - R 1 n) ≤ 1000 → 0 ≤ t → t + 5 * (eN R m n - n) ≤ 16000 → (∀ M' t', cwp M0 M' S (ltk L (tX R f false n)) → 0 ≤ t' → t' ≤ t + 5 * (eN R m n - n) → im_T g d 174 17 [some (.ref 7), some (.ref 13), none, some (vI (eN R m n)), some (vI t'), none, none] [] e M' K) → im_T g d 174 17 [some (.ref 7), some (.ref 13), none, some (vI n), some (vI t), none, none] [] e M K
/-- how many signs aren't nodes -/
def nkl : List (Int × Int × Int) → Int
  | [] => 0
  | y :: l => (if ckd y.1 then 0 else 1) + nkl l
theorem nkl_nn : ∀ l, 0 ≤ nkl l := by
  intro l
  induction l with
  | nil => exact Int.le_refl _
  | cons y l ih => unfold nkl; split <;> omega
theorem nkl_shp (k : Int) : nkl (shp k) ≤ 4 := by
  refine shp_ind (P := fun _ l => nkl l ≤ 4) k (fun _ => ?_) (fun _ => ?_) (fun _ => ?_) (fun _ => ?_) (fun _ => ?_) (fun _ => ?_) (fun _ => ?_) (fun _ => ?_) (fun _ => ?_) (fun _ => ?_) (fun _ => ?_) (fun _ => ?_) (fun _ => ?_) (fun _ => ?_) (fun _ => ?_) (fun _ => ?_) <;> decide
theorem shp_97 {k : Int} (h : k ≠ 31) : ∀ y ∈ shp k, y.1 ≠ 97 := by
  have : ∀ k', k' ≠ 31 → ∀ y ∈ shp k', y.1 ≠ 97 := by
    intro k'
    refine shp_ind (P := fun k' l => k' ≠ 31 → ∀ y ∈ l, y.1 ≠ 97) k' (fun h => ?_) (fun h => ?_) (fun h => ?_) (fun h => ?_) (fun h => ?_) (fun h => ?_) (fun h => ?_) (fun h => ?_) (fun h => ?_) (fun h => ?_) (fun h => ?_) (fun h => ?_) (fun h => ?_) (fun h => ?_) (fun h => ?_) (fun h => ?_) <;> simp [h]
  exact this k h
theorem shq_107 {k : Int} (h : k ≠ 3) : ∀ y ∈ shp k, y.1 ≠ 107 := by
  have : ∀ k', k' ≠ 3 → ∀ y ∈ shp k', y.1 ≠ 107 := by
    intro k'
    refine shp_ind (P := fun k' l => k' ≠ 3 → ∀ y ∈ l, y.1 ≠ 107) k' (fun h => ?_) (fun h => ?_) (fun h => ?_) (fun h => ?_) (fun h => ?_) (fun h => ?_) (fun h => ?_) (fun h => ?_) (fun h => ?_) (fun h => ?_) (fun h => ?_) (fun h => ?_) (fun h => ?_) (fun h => ?_) (fun h => ?_) (fun h => ?_) <;> simp [h]
  exact this k h
theorem sgT1_kid {R : Rw} {F : Bool → Int → List (List Int)} {n : Int} {y : Int × Int × Int} (h : ckd y.1) : sgT1 R F n y = F false (R (15 + y.2.1.toNat) n) := by
  unfold ckd at h
  unfold sgT1
  rw [if_neg (by omega), if_neg (by omega), if_neg (by omega), if_neg (by omega), if_neg (by omega), if_neg (by omega), if_neg (by omega), if_neg (by omega)]
section CPRINT2
variable {g : im_g} {d : Nat} {e : im_E} {M M0 : im_M} {K : im_K} {R : Rw} {m E : Int}
/-- an entry that isn't a node's is popped and printed -/
theorem c_popP {n nx' t : Int} {y : Int × Int × Int} {S : List (Int × Int)} {L : List Int} {F : Bool → Int → List (List Int)} (hB : PB M0 R m E) (hc : cwp M0 M ((y.1, n) :: S) L) (hn : 0 ≤ n ∧ n < m) (hnx : 0 ≤ nx' ∧ nx' < 5000) (ht : 0 ≤ t ∧ t ≤ 16000) (hS : S.length < 1023) (hy : y ∈ shp (R 0 n)) (hy2 : ¬ ckd y.1) (hy3 : y.1 ≠ 107) (hy4 : y.1 ≠ 97) (hd : 7 ≤ d)
    (hK : ∀ M', cwp M0 M' S (ltk L (sgT1 R F n y)) → im_T g d 174 17 [some (.ref 7), some (.ref 13), none, some (vI nx'), some (vI (t + 1)), none, none] [] e M' K) : im_T g d 174 17 [some (.ref 7), some (.ref 13), none, some (vI nx'), some (vI t), none, none] [] e M K := by
  obtain ⟨_, _, ⟨c5, c9, c10, _⟩, _⟩ := id hc
  have e5 : M 7 5 - 1 = S.length := by rw [c5, List.length_cons]; omega
  have hpop := hc.pop
  refine k_Writer_contract_17 (by omega) ?_
  rw [e5, c9, c10]
  have h5 : M 7 5 = S.length + 1 := by omega
  unfold ckd at hy2
  refine ⟨by constructor <;> omega, fun _ _ => ⟨by constructor <;> omega, fun _ => ⟨by constructor <;> omega, ⟨by omega, by omega⟩, fun _ _ _ => ⟨fun _ => c_partW (F := F) hB hpop hn hy hy2 hy3 hy4 (by omega) (fun M' h' => ⟨rfl, rfl, hK M' h'⟩), fun z => absurd z hy3⟩, fun z => by omega⟩⟩, fun z => by omega⟩
theorem l_sgC {f : Nat} (hB : PB M0 R m E) (hm : m < 5000) (hP : PrC g d e M0 K R m f) (hd : 7 ≤ d) {n : Int} (hn : 0 ≤ n ∧ n < m) (hf : m - n ≤ f + 1) {S : List (Int × Int)} (hroom : (S.length : Int) + 6 * (101 - R 1 n) ≤ 1000) {q : Int} {T : Int} {L9 : List Int}
    (hK : ∀ M' t', cwp M0 M' S L9 → 0 ≤ t' → t' ≤ T → im_T g d 174 17 [some (.ref 7), some (.ref 13), none, some (vI (nxE R m n q)), some (vI t'), none, none] [] e M' K) (hT : T ≤ 16000) :
    ∀ (l : List (Int × Int × Int)) (p : Int) (M : im_M) (L : List Int) (t : Int), (∀ y ∈ l, y ∈ shp (R 0 n) ∧ y.1 ≠ 107 ∧ y.1 ≠ 97) → l.length ≤ 6 → cwp M0 M (ps2 n l ++ S) L → lks R m n p (kds l) q → (p = n ∨ (n < p ∧ p < m)) → 0 ≤ t → t + nkl l + 5 * (nxE R m n q - nxE R m n p) ≤ T → L9 = ltk L (sgT R (tX R f) n l) → im_T g d 174 17 [some (.ref 7), some (.ref 13), none, some (vI (nxE R m n p)), some (vI t), none, none] [] e M K := by
  have hE := hB.ends
  have hnxE : ∀ p, (p = n ∨ (n < p ∧ p < m)) → 0 ≤ nxE R m n p ∧ nxE R m n p ≤ m ∧ n < nxE R m n p := fun p hp => by
    unfold nxE
    by_cases c : p = n
    · rw [if_pos c]; omega
    · rw [if_neg c]
      obtain ⟨a1, a2, _, _⟩ := hE p (by omega) (by omega)
      omega
  intro l
  induction l with
  | nil =>
    intro p M L t hl hlen hc hk hp t0 ht hL
    have hk : p = q := hk
    subst hk
    rw [show sgT R (tX R f) n [] = [] from rfl, ltk_nil] at hL
    have e0 : nkl [] = 0 := rfl
    exact hK M t (by rw [hL]; exact hc) t0 (by omega)
  | cons y l ih =>
    intro p M L t hl hlen hc hk hp t0 ht hL
    obtain ⟨y1, y2, y3⟩ := hl y List.mem_cons_self
    rw [List.length_cons] at hlen
    have hN := hnxE p hp
    have en : nkl (y :: l) = (if ckd y.1 then 0 else 1) + nkl l := rfl
    have nn := nkl_nn l
    have es : sgT R (tX R f) n (y :: l) = sgT1 R (tX R f) n y ++ sgT R (tX R f) n l := rfl
    rw [es, ltk_app] at hL
    have hlen2 : (ps2 n l ++ S).length = l.length + S.length := by unfold ps2; rw [List.length_append, List.length_map]
    have hD := (hB.2.2.1.2.2 n hn.1 hn.2).2.2.1
    by_cases hcy : ckd y.1
    · have ek : kds (y :: l) = (y.1, y.2.1) :: kds l := by show (if ckd y.1 then (y.1, y.2.1) :: kds l else kds l) = _; rw [if_pos hcy]
      rw [ek] at hk
      obtain ⟨k1, k2, k3, k4, k5⟩ := hk
      rw [if_pos hcy] at en
      dsimp only at k1 k2 k3 k4 k5
      generalize hcc : R (15 + y.2.1.toNat) n = c at k1 k2 k3 k4 k5
      have hlt := nxt_lt k1
      have hnc : nxE R m n p = c := nxE_c hn.1 (by omega) hE k1 k4
      rw [hnc] at ht ⊢
      rw [sgT1_kid hcy, hcc] at hL
      obtain ⟨a1, a2, _, _⟩ := hE c (by omega) k4
      have hnE : nxE R m n c = eN R m c := by unfold nxE; rw [if_neg (by omega)]
      have hq : nxE R m n c ≤ nxE R m n q := by
        have hpp : ∀ (L' : List (Int × Int)) {p q : Int}, lks R m n p L' q → (n < p ∧ p < m) → nxE R m n p ≤ nxE R m n q ∧ (n < q ∧ q < m) := by
          intro L'
          induction L' with
          | nil => intro p q h hp'; cases h; exact ⟨Int.le_refl _, hp'⟩
          | cons z L' ih' =>
            intro p q h hp'
            obtain ⟨b1, b2, b3, b4, b5⟩ := h
            have hlt' := nxt_lt b1
            have hnc' := nxE_c hn.1 (by omega) hE b1 b4
            obtain ⟨c1, c2⟩ := ih' b5 ⟨by omega, b4⟩
            obtain ⟨d1, _, _, _⟩ := hE _ (show 0 ≤ R (15 + z.2.toNat) n by omega) b4
            have hnE' : nxE R m n (R (15 + z.2.toNat) n) = eN R m (R (15 + z.2.toNat) n) := by unfold nxE; rw [if_neg (by omega)]
            exact ⟨by omega, c2⟩
        exact (hpp _ k5 ⟨by omega, k4⟩).1
      refine hP c y.1 n M (ps2 n l ++ S) L t (by omega) (by omega) k4 hcy hc (by rw [hlen2]; omega) t0 (by omega) (fun M' t' hc' t1 t2 => ?_)
      have := ih c M' _ t' (fun z hz => hl z (List.mem_cons_of_mem _ hz)) (by omega) hc' k5 (Or.inr ⟨by omega, k4⟩) (by omega) (by omega) hL
      rw [hnE] at this
      exact this
    · have ek : kds (y :: l) = kds l := by show (if ckd y.1 then (y.1, y.2.1) :: kds l else kds l) = _; rw [if_neg hcy]
      rw [ek] at hk
      rw [if_neg hcy] at en
      have hqp : nxE R m n p ≤ nxE R m n q := by
        have hpp : ∀ (L' : List (Int × Int)) {p q : Int}, lks R m n p L' q → (p = n ∨ (n < p ∧ p < m)) → nxE R m n p ≤ nxE R m n q := by
          intro L'
          induction L' with
          | nil => intro p q h hp'; cases h; exact Int.le_refl _
          | cons z L' ih' =>
            intro p q h hp'
            obtain ⟨b1, b2, b3, b4, b5⟩ := h
            have hlt' := nxt_lt b1
            have hnc' := nxE_c hn.1 (by omega) hE b1 b4
            have c1 := ih' b5 (Or.inr ⟨by omega, b4⟩)
            obtain ⟨d1, _, _, _⟩ := hE _ (show 0 ≤ R (15 + z.2.toNat) n by omega) b4
            have hnE' : nxE R m n (R (15 + z.2.toNat) n) = eN R m (R (15 + z.2.toNat) n) := by unfold nxE; rw [if_neg (by omega)]
            omega
        exact hpp _ hk hp
      refine c_popP (S := ps2 n l ++ S) (F := tX R f) hB hc hn ⟨by omega, by omega⟩ ⟨t0, by omega⟩ (by rw [hlen2]; omega) y1 hcy y2 y3 hd (fun M' hc' => ?_)
      exact ih p M' _ (t + 1) (fun z hz => hl z (List.mem_cons_of_mem _ hz)) (by omega) hc' hk hp (by omega) (by omega) hL
theorem l_casC {n q0 q : Int} {S : List (Int × Int)} (hB : PB M0 R m E) (hm : m < 5000) (hd : 8 ≤ d) (hn : 0 ≤ n ∧ n < m) (h3 : R 0 n = 3) (hq : lks R m n q0 [(99, 2)] q) (hroom : (S.length : Int) + 6 * (101 - R 1 n) ≤ 1002) {T : Int} {L9 : List Int} (hT : T ≤ 16000)
    (hK : ∀ M' t', cwp M0 M' S L9 → 0 ≤ t' → t' ≤ T → im_T g d 174 17 [some (.ref 7), some (.ref 13), none, some (vI (nxE R m n q0)), some (vI t'), none, none] [] e M' K) :
    ∀ (cs : List Int) (f : Nat) (p l' : Int) (M : im_M) (L : List Int) (t : Int), (∀ f', f' < f → PrC g d e M0 K R m f') → chc R m n p l' cs q0 → (p = n ∨ (n < p ∧ p < m)) → m - p ≤ f + 1 → cwp M0 M ((107, n) :: S) L → 0 ≤ t → t + 1 + 5 * (nxE R m n q0 - nxE R m n p) ≤ T → L9 = ltk L (tX R f true l' ++ [[93]]) → im_T g d 174 17 [some (.ref 7), some (.ref 13), none, some (vI (nxE R m n p)), some (vI t), none, none] [] e M K := by
  have hE := hB.ends
  have hD := (hB.2.2.1.2.2 n hn.1 hn.2).2.2.1
  obtain ⟨k1, k2, _, k4, _⟩ := hq
  have k1 : nxt R n q0 (R 17 n) := k1
  have k2 : bgn 99 (R 0 (R 17 n)) := k2
  have k4 : R 17 n < m := k4
  intro cs
  induction cs with
  | nil =>
    intro f p l' M L t hP hch hp hf hc t0 ht hL
    obtain ⟨hpq, hl'⟩ := hch
    subst hpq
    have hlt := nxt_lt k1
    have hnc : nxE R m n p = R 17 n := nxE_c hn.1 (by omega) hE k1 k4
    have htx : tX R f true l' = [] := by
      rw [hl']
      cases f with
      | zero => rfl
      | succ f => show (if (-1 : Int) = -1 then _ else _) = _; rw [if_pos rfl]
    rw [htx] at hL
    obtain ⟨_, _, ⟨c5, c9, c10, _⟩, _⟩ := id hc
    have e5 : M 7 5 - 1 = S.length := by rw [c5, List.length_cons]; omega
    have h5 : M 7 5 = S.length + 1 := by omega
    have hpop := hc.pop
    have hCp : CP (im_u M 7 5 (S.length : Int)) R m E := CP_congr hB.1 (fun x a b => hpop.1.1 x (by omega))
    refine k_Writer_contract_17 (by omega) ?_
    dsimp only at c9 c10
    rw [e5, c9, c10]
    have hK1 := hK
    rw [hnc] at ht hK1 ⊢
    refine ⟨by constructor <;> omega, fun _ _ => ⟨by constructor <;> omega, fun _ => ⟨by constructor <;> omega, ⟨by omega, by omega⟩, fun _ _ _ => ⟨fun z => absurd rfl z, fun _ => ?_⟩, fun z => by omega⟩⟩, fun z => by omega⟩
    refine c_isCase hCp (by omega) (by omega) k4 (fun z => by unfold bgn at k2; omega) (fun _ => ⟨_, rfl, rfl, by decide, fun _ => ?_, fun z => absurd rfl z⟩)
    refine k_Writer_part_0 (by omega) ⟨by decide, fun z => absurd z (by decide), fun z => absurd z (by decide), fun z => absurd z (by decide), fun z => absurd z (by decide), fun z => absurd z (by decide), fun _ => ?_, fun z => absurd z (by decide), fun z => absurd rfl z.2.2.2.2.2.2⟩
    exact c_signL (by decide) hpop.2.2.2 (by omega) (fun M' f' o => ⟨rfl, rfl, rfl, rfl, hK1 M' (t + 1) (by rw [hL]; exact hpop.wf f' o) (by omega) (by omega)⟩)
  | cons c cs ih =>
    intro f p l' M L t hP hch hp hf hc t0 ht hL
    obtain ⟨a0, a1, a2, a3, a4, a5⟩ := hch
    have hlt := nxt_lt a1
    have hnc : nxE R m n p = c := nxE_c hn.1 (by omega) hE a1 a4
    obtain ⟨⟨ckn, c31⟩, cs', q0', qc, _, b2, b3⟩ := (hB.2.2.1.2.2 c (by omega) a4).1
    have c3 : R 0 c ≠ 3 := by omega
    have hq0' := b2 c3
    subst hq0'
    obtain ⟨f', rfl⟩ : ∃ f', f = f' + 1 := ⟨f - 1, by omega⟩
    have hlast := lastE (cs := []) hB.2.2.1 hB.2.2.2.1 ⟨by omega, a4⟩ hE (fun z => absurd z c3) (fun _ => rfl) b3
    have hnEc : nxE R m n q0' = eN R m q0' := by unfold nxE; rw [if_neg (by omega)]
    have hnE1 : nxE R m q0' q0' = q0' + 1 := by unfold nxE; rw [if_pos rfl]
    obtain ⟨e1, e2, _, _⟩ := hE q0' (by omega) a4
    obtain ⟨_, _, ⟨c5, c9, c10, _⟩, _⟩ := id hc
    have e5 : M 7 5 - 1 = S.length := by rw [c5, List.length_cons]; omega
    have h5 : M 7 5 = S.length + 1 := by omega
    have hpop := hc.pop
    have hCp : CP (im_u M 7 5 (S.length : Int)) R m E := CP_congr hB.1 (fun x a b => hpop.1.1 x (by omega))
    have hmono : nxE R m n q0' ≤ nxE R m n q0 := by
      have hpp : ∀ (L' : List Int) {p l q : Int}, chc R m n p l L' q → (n < p ∧ p < m) → nxE R m n p ≤ nxE R m n q := by
        intro L'
        induction L' with
        | nil => intro p l q h hp'; obtain ⟨h, _⟩ := h; subst h; exact Int.le_refl _
        | cons z L' ih' =>
          intro p l q h hp'
          obtain ⟨b0, b1, b2, b3, b4, b5⟩ := h
          have hlt' := nxt_lt b1
          have hnc' := nxE_c hn.1 (by omega) hE b1 b4
          have c1 := ih' b5 ⟨by omega, b4⟩
          obtain ⟨d1, _, _, _⟩ := hE z (by omega) b4
          have hnE' : nxE R m n z = eN R m z := by unfold nxE; rw [if_neg (by omega)]
          omega
      exact hpp _ a5 ⟨by omega, a4⟩
    rw [hnc] at ht ⊢
    have htx : tX R (f' + 1) true l' = nmB (kwv 31) :: nmB (kwv (R 0 q0')) :: (sgT R (tX R f') q0' (shp (R 0 q0')) ++ tX R f' true (R 19 q0')) := by
      rw [a0]
      show (if q0' = -1 then _ else _) = _
      rw [if_neg (by omega)]
    rw [htx] at hL
    have h6 := shp_len (R 0 q0')
    have nk4 := nkl_shp (R 0 q0')
    have nk0 := nkl_nn (shp (R 0 q0'))
    refine k_Writer_contract_17 (by omega) ?_
    dsimp only at c9 c10
    rw [e5, c9, c10]
    refine ⟨by constructor <;> omega, fun _ _ => ⟨by constructor <;> omega, fun _ => ⟨by constructor <;> omega, ⟨by omega, by omega⟩, fun _ _ _ => ⟨fun z => absurd rfl z, fun _ => ?_⟩, fun z => by omega⟩⟩, fun z => by omega⟩
    refine c_isCase hCp (by omega) (by omega) a4 (fun _ => ⟨_, rfl, rfl, by decide, fun z => absurd z (by decide), fun _ => ?_⟩) (fun z => by omega)
    refine c_pushW hpop.2.2.1 (by omega) (by decide) (by constructor <;> omega) hpop.2.2.2 (fun M1 F1 h11 hs1 ho1 => ⟨rfl, rfl, ?_⟩)
    have hc1 : cwp M0 M1 ((107, n) :: S) L := ⟨hpop.1.trans F1, by obtain ⟨v, hv⟩ := hpop.2.1; exact ⟨v, cn_congr hv h11.1 h11.2⟩, hs1, ho1⟩
    have hB1 := hB.of hc1.1
    refine c_keywordL (by decide) hB1.2.1 ho1 (by omega) (fun M2 f2 o2 => ⟨rfl, rfl, ?_⟩)
    have hc2 := hc1.wf f2 o2
    have hB2 := hB.of hc2.1
    have hnm := (hB.2.2.1.2.2 q0' (by omega) a4).2.1.1
    have hmx := hB.2.2.2.2 q0' (by omega) a4
    refine c_nodeW hB2.1 (by omega) hB2.2.1 ⟨by omega, a4⟩ (by omega) ⟨hnm.1, hmx.1⟩ hc2.2.1 hc2.2.2.1 (by rw [List.length_cons]; omega) hc2.2.2.2 (by omega) (fun M3 F3 h11' hs3 ho3 => ⟨rfl, rfl, ?_⟩)
    have hc3 : cwp M0 M3 (ps2 q0' (shp (R 0 q0')) ++ ((107, n) :: S)) (ltk (ltk L [nmB (kwv 31)]) [owT R q0']) := ⟨hc2.1.trans F3, h11', hs3, ho3⟩
    have how : owT R q0' = nmB (kwv (R 0 q0')) := by unfold owT; rw [if_neg (by omega), if_neg (by omega)]
    rw [how] at hc3
    have hgo := l_sgC (g := g) (d := d) (e := e) (K := K) (f := f') hB hm (hP f' (by omega)) (by omega) (n := q0') ⟨by omega, a4⟩ (by omega) (S := (107, n) :: S) (by rw [List.length_cons]; omega) (q := qc) (T := t + 5 * (eN R m q0' - q0')) (L9 := ltk (ltk (ltk L [nmB (kwv 31)]) [nmB (kwv (R 0 q0'))]) (sgT R (tX R f') q0' (shp (R 0 q0')))) (fun M4 t4 hc4 t40 t41 => by
      rw [hlast]
      have := ih f' q0' (R 19 q0') M4 _ t4 (fun f'' hf'' => hP f'' (by omega)) a5 (Or.inr ⟨by omega, a4⟩) (by omega) hc4 t40 (by omega) (by rw [hL]; simp only [List.cons_append, List.append_assoc, ltk_cons, ltk_app, ltk_nil])
      rw [hnEc] at this
      exact this) (by omega) (shp (R 0 q0')) q0' M3 _ (t + 1) (fun y hy => ⟨hy, shq_107 c3 y hy, shp_97 c31 y hy⟩) h6 hc3 b3 (Or.inl rfl) (by omega) (by rw [hlast, hnE1]; omega) rfl
    rw [hnE1] at hgo
    exact hgo
theorem l_prC (hB : PB M0 R m E) (hm : m < 5000) (hd : 8 ≤ d) : ∀ f : Nat, PrC g d e M0 K R m f := by
  have hE := hB.ends
  intro f
  induction f using Nat.strongRecOn with
  | ind f IH =>
    intro n sg' o M S L t hf n0 n1 hsg hc hroom t0 ht hK
    obtain ⟨f', rfl⟩ : ∃ f', f = f' + 1 := ⟨f - 1, by omega⟩
    obtain ⟨hT, ⟨hnm, _⟩, hD, _⟩ := hB.2.2.1.2.2 n n0 n1
    obtain ⟨⟨kn, k31⟩, cs, q0, q, a1, a2, a3⟩ := id hT
    have hmx := hB.2.2.2.2 n n0 n1
    have hlast := lastE hB.2.2.1 hB.2.2.2.1 ⟨n0, n1⟩ hE (fun z => (a1 z).1) a2 a3
    have hnE1 : nxE R m n n = n + 1 := by unfold nxE; rw [if_pos rfl]
    obtain ⟨e1, e2, _, _⟩ := hE n n0 n1
    obtain ⟨_, _, ⟨c5, c9, c10, _⟩, _⟩ := id hc
    dsimp only at c9 c10
    have e5 : M 7 5 - 1 = S.length := by rw [c5, List.length_cons]; omega
    have h5 : M 7 5 = S.length + 1 := by omega
    have hpop := hc.pop
    have hB1 := hB.of hpop.1
    have h6 := shp_len (R 0 n)
    have nk4 := nkl_shp (R 0 n)
    have nk0 := nkl_nn (shp (R 0 n))
    unfold ckd at hsg
    have htx : tX R (f' + 1) false n = owT R n :: sgT R (tX R f') n (shp (R 0 n)) := by
      show (if R 0 n = 34 then [numB (R 7 n)] else if R 0 n = 35 then [63 :: nmB (R 4 n)] else nmB (kwv (R 0 n)) :: sgT R (tX R f') n (shp (R 0 n))) = _
      unfold owT
      by_cases c1 : R 0 n = 34
      · rw [if_pos c1, if_pos c1, c1]; rfl
      · rw [if_neg c1, if_neg c1]
        by_cases c2 : R 0 n = 35
        · rw [if_pos c2, if_pos c2, c2]; rfl
        · rw [if_neg c2, if_neg c2]
    rw [htx] at hK
    have fin : ∀ M1 : im_M, cwp M0 M1 (ps2 n (shp (R 0 n)) ++ S) (ltk L [owT R n]) → im_T g d 174 17 [some (.ref 7), some (.ref 13), none, some (vI (n + 1)), some (vI (t + 1)), none, none] [] e M1 K := by
      intro M1 hc1
      have hK2 : ∀ M' t', cwp M0 M' S (ltk (ltk L [owT R n]) (sgT R (tX R f') n (shp (R 0 n)))) → 0 ≤ t' → t' ≤ t + 5 * (eN R m n - n) → im_T g d 174 17 [some (.ref 7), some (.ref 13), none, some (vI (nxE R m n q)), some (vI t'), none, none] [] e M' K := fun M' t' h1 h2 h3 => by
        rw [hlast]; exact hK M' t' h1 h2 h3
      have hPf := IH f' (by omega)
      by_cases k3 : R 0 n = 3
      · have a1' := (a1 k3).1
        have es : shp (R 0 n) = [(91, 0, 4), (107, 0, 3), (116, 0, 2), (99, 2, 1)] := by rw [k3]; rfl
        have ek : kids (R 0 n) = [(99, 2)] := by rw [k3]; rfl
        rw [ek] at a3
        have hq0 := chc_all cs a1' (fun x a b => by omega) (Or.inl rfl)
        have hmono : nxE R m n n ≤ nxE R m n q0 := by
          rcases hq0.2.1 with z | z
          · rw [z]; exact Int.le_refl _
          · obtain ⟨d1, _, _, _⟩ := hE q0 (by omega) z.2.1
            have : nxE R m n q0 = eN R m q0 := by unfold nxE; rw [if_neg (by omega)]
            omega
        have hmono2 : nxE R m n q0 ≤ nxE R m n q := by
          obtain ⟨b1, _, _, b4, b5⟩ := id a3
          have b4 : R 17 n < m := b4
          have b1 : nxt R n q0 (R 17 n) := b1
          have b5 : R 17 n = q := b5
          have hlt' := nxt_lt b1
          have hnc' := nxE_c n0 (by omega) hE b1 b4
          obtain ⟨d1, _, _, _⟩ := hE (R 17 n) (by omega) b4
          have : nxE R m n q = eN R m (R 17 n) := by rw [← b5]; unfold nxE; rw [if_neg (by omega)]
          omega
        have hy91 : ((91, 0, 4) : Int × Int × Int) ∈ shp (R 0 n) := by rw [es]; simp
        have hc1' : cwp M0 M1 ((91, n) :: (107, n) :: (116, n) :: (99, n) :: S) (ltk L [owT R n]) := by rw [es] at hc1; exact hc1
        refine c_popP (y := (91, 0, 4)) (F := tX R f') hB hc1' ⟨n0, n1⟩ ⟨by omega, by omega⟩ ⟨by omega, by omega⟩ (by simp only [List.length_cons]; omega) hy91 (by unfold ckd; decide) (by decide) (by decide) (by omega) (fun M2 hc2 => ?_)
        have hcs := l_casC (g := g) (d := d) (e := e) (K := K) (n := n) (q0 := q0) (q := q) (S := (116, n) :: (99, n) :: S) hB hm hd ⟨n0, n1⟩ k3 a3 (by simp only [List.length_cons]; omega) (T := t + 3 + 5 * (nxE R m n q0 - (n + 1))) (L9 := ltk (ltk (ltk L [owT R n]) [[91]]) (tX R f' true (R 16 n) ++ [[93]])) (by omega) (fun M3 t3 hc3 t30 t31 => by
          refine l_sgC (g := g) (d := d) (e := e) (K := K) (f := f') hB hm hPf (by omega) ⟨n0, n1⟩ (by omega) (S := S) hroom (q := q) (T := t + 5 * (eN R m n - n)) (L9 := ltk (ltk L [owT R n]) (sgT R (tX R f') n (shp (R 0 n)))) hK2 (by omega) [(116, 0, 2), (99, 2, 1)] q0 M3 _ t3 (fun y hy => ?_) (by decide) hc3 a3 (by omega) t30 ?_ ?_
          · rw [es]
            simp only [List.mem_cons, List.not_mem_nil, or_false] at hy
            rcases hy with z | z <;> subst z <;> exact ⟨by simp, by decide, by decide⟩
          · have : nkl [(116, 0, 2), (99, 2, 1)] = 1 := by decide
            rw [this, hlast]
            rw [hlast] at hmono2
            omega
          · rw [es]
            show ltk (ltk L [owT R n]) (sgT1 R (tX R f') n (91, 0, 4) ++ (sgT1 R (tX R f') n (107, 0, 3) ++ sgT R (tX R f') n [(116, 0, 2), (99, 2, 1)])) = _
            have s1 : sgT1 R (tX R f') n (91, 0, 4) = [[91]] := by unfold sgT1; rw [if_neg (by decide), if_neg (by decide), if_neg (by decide), if_neg (by decide), if_pos rfl]
            have s2 : sgT1 R (tX R f') n (107, 0, 3) = tX R f' true (R 16 n) ++ [[93]] := by unfold sgT1; rw [if_neg (by decide), if_neg (by decide), if_neg (by decide), if_neg (by decide), if_neg (by decide), if_neg (by decide), if_neg (by decide), if_pos rfl]
            rw [s1, s2, ltk_app, ltk_app]) cs f' n (R 16 n) M2 _ (t + 1 + 1) (fun f'' hf'' => IH f'' (by omega)) a1' (Or.inl rfl) (by omega) hc2 (by omega) (by omega) (by
            have s1 : sgT1 R (tX R f') n (91, 0, 4) = [[91]] := by unfold sgT1; rw [if_neg (by decide), if_neg (by decide), if_neg (by decide), if_neg (by decide), if_pos rfl]
            rw [s1])
        rw [hnE1] at hcs
        exact hcs
      · have hq0 := a2 k3
        subst hq0
        have := l_sgC (g := g) (d := d) (e := e) (K := K) (f := f') hB hm hPf (by omega) ⟨n0, n1⟩ (by omega) (S := S) hroom (q := q) (T := t + 5 * (eN R m q0 - q0)) (L9 := ltk (ltk L [owT R q0]) (sgT R (tX R f') q0 (shp (R 0 q0)))) hK2 (by omega) (shp (R 0 q0)) q0 M1 _ (t + 1) (fun y hy => ⟨hy, shq_107 k3 y hy, shp_97 k31 y hy⟩) h6 hc1 a3 (Or.inl rfl) (by omega) (by rw [hlast, hnE1]; omega) rfl
        rw [hnE1] at this
        exact this
    refine k_Writer_contract_17 (by omega) ?_
    rw [e5, c9, c10]
    refine ⟨by constructor <;> omega, fun _ _ => ⟨by constructor <;> omega, fun _ => ⟨by constructor <;> omega, ⟨by omega, by omega⟩, fun z1 z2 z3 => (hsg.elim z1 (fun h => h.elim z2 z3)).elim, fun _ => ?_⟩⟩, fun z => by omega⟩
    exact c_nodeW hB1.1 (by omega) hB1.2.1 ⟨n0, n1⟩ (by omega) ⟨hnm.1, hmx.1⟩ hpop.2.1 hpop.2.2.1 (by omega) hpop.2.2.2 (by omega) (fun M1 F1 h11 hs1 ho1 => ⟨rfl, rfl, fin M1 ⟨hpop.1.trans F1, h11, hs1, ho1⟩⟩)
end CPRINT2
