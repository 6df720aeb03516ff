/-! THE CLASS reads inputs: its loop -/
theorem SHP.cons {u : UInt32} {s x : Int} {sh : List Int} (h : SHP u s (x :: sh)) : (∃ j : Nat, s = (j : Int) ∧ j < (shl u).length ∧ (shl u)[j]? = some x) ∧ SHP u (s + 1) sh ∧ (x = 49 ∨ x = 50 ∨ x = 51 ∨ x = 110) := by
  obtain ⟨hu, j, hj, hl, hs⟩ := h
  have hlt : j < (shl u).length := by
    have := congrArg List.length hs
    rw [List.length_drop] at this
    simp only [List.length_cons] at this
    omega
  rw [List.drop_eq_getElem_cons hlt] at hs
  have hs1 : x = (shl u)[j] := (List.cons.inj hs).1
  have hs2 := (List.cons.inj hs).2
  exact ⟨⟨j, hj, hlt, by rw [hs1, List.getElem?_eq_getElem hlt]⟩, ⟨hu, j + 1, by omega, by omega, hs2⟩, by rw [hs1]; exact (shl_x hu).2 _ (List.getElem_mem hlt)⟩
theorem SHP.nil {u : UInt32} {s : Int} (h : SHP u s []) : s = (shl u).length := by
  obtain ⟨hu, j, hj, hl, hs⟩ := h
  have := congrArg List.length hs
  rw [List.length_drop] at this
  simp only [List.length_nil] at this
  omega
theorem SHP_17 : SHP 17 0 [] := ⟨Or.inl rfl, 0, rfl, Nat.zero_le _, by rw [show shl 17 = _ from tx_17]; rfl⟩
theorem SHP_18 : SHP 18 0 (shI 28) := ⟨Or.inr (Or.inl rfl), 0, rfl, Nat.zero_le _, by rw [show shl 18 = _ from tx_18]; rfl⟩
theorem SHP_19 : SHP 19 0 (shI 29) := ⟨Or.inr (Or.inr rfl), 0, rfl, Nat.zero_le _, by rw [show shl 19 = _ from tx_19]; rfl⟩
section CINP2
variable {g : im_g} {d : Nat} {e : im_E} {M M0 : im_M} {K : im_K} {t : Int → Int} {n : Int} {br b nb : Nat}
theorem l_inT (hsh : (im_sh0 ++ e)[b]? = some (0, nb, [])) (hnb : nb ≤ 2147483647) (hb : M0 2 1 = b) (hn2 : M0 2 2 = n) (hnn : n ≤ nb) (hn0 : 0 ≤ n) (hn1 : n ≤ 16384) (ht : txt (M0 b) t n) (hkw : ∀ i, 0 ≤ i → i < 34 → M0 3 i = kwv i) (hr : rwN e br 40) (hbr : 6 < br) (hbb : b < br ∨ br + 86 ≤ b) (hd : 6 ≤ d) :
    ∀ (f : Nat) (a T s : Int) (u : UInt32) (sh : List Int) (I : Ip) (M : im_M), (n - a).toNat + 2 ≤ f → 0 ≤ a → a ≤ n → T ≤ a → 0 ≤ T → SHP u s sh → (sh ≠ [] → 1 ≤ I.1) → FX br M0 M → CIr M br I → M 2 3 = a →
      (∀ c p, inp t n f a sh I = .inl (c, p) → ∀ M', FX br M0 M' → (∃ I', CIr M' br I') → M' 2 5 = p → K (.inl (some (vI c))) e M') →
      (∀ I', inp t n f a sh I = .inr I' → ∀ M', FX br M0 M' → CIr M' br I' → K (.inl (some (vI 0))) e M') →
      im_T g d 103 21 [some (.ref 2), none, none, some (.ref br), some (.float u), some (vI s), some (vI T), none] [] e M K := by
  have hbn := bt_ne hsh
  intro f
  induction f with
  | zero => intro a T s u sh I M hf; omega
  | succ f ih =>
    intro a T s u sh I M hf ha0 han hTa hT0 hS hI1 hF hC h3 hKf hKs
    have hk := tk_ok (t := t) han
    have hu30 : Nat.blt u.toNat 30 = true := by rcases hS.1 with rfl | rfl | rfl <;> decide
    have hu20 : u.toNat < 20 := by rcases hS.1 with rfl | rfl | rfl <;> decide
    have hl4 := (shl_x hS.1).1
    have htl : (tx u).length = (shl u).length := by unfold shl; rw [List.length_map]
    have h22 : M 2 2 = n := (hF.2 2 (by decide)).trans hn2
    have hMb : M b = M0 b := hF.1 b hbn.1 hbn.2.2.1 hbn.2.2.2 (by omega)
    have hM3 : M 3 = M0 3 := hF.1 3 (by decide) (by decide) (by decide) (by omega)
    refine k_Reader_inputsText_21 hr.1 hu30 (by omega) ⟨by constructor <;> omega, fun z => by omega, fun _ => ?_⟩
    have hsI : im_i32 s := by
      obtain ⟨_, j, hj, hl, _⟩ := hS
      constructor <;> omega
    cases sh with
    | nil =>
      have e1 : inp t n (f + 1) a [] I = if (tk t n a).2.2.1 = 41 then .inr I else if ¬ (28 ≤ (tk t n a).2.2.1 ∧ (tk t n a).2.2.1 ≤ 30) then .inl (ftk (tk t n a).2.2.1, (tk t n a).1) else if I.1 = 40 then .inl (9, (tk t n a).1) else inp t n f (tk t n a).2.1 (shI (tk t n a).2.2.1) (ipB I (tk t n a).2.2.1) := rfl
      rw [e1] at hKf hKs
      generalize (tk t n a).1 = p at hk hKf hKs
      generalize (tk t n a).2.1 = q at hk hKf hKs
      generalize (tk t n a).2.2.1 = ty at hk hKf hKs
      generalize (tk t n a).2.2.2.1 = nm at hk
      generalize (tk t n a).2.2.2.2 = v at hk
      clear e1
      refine c_adv (t := t) (n := n) (a := a) (p := p) (q := q) (ty := ty) (nm := nm) (v := v) hsh hnb ((hF.2 1 (by decide)).trans hb) h22 h3 hnn (by rw [hMb]; exact ht) (fun i i0 i1 => by rw [hM3]; exact hkw i i0 i1) ha0 hk (by omega) (fun M1 hA => ⟨rfl, rfl, ?_⟩)
      have hF1 := hF.ad hA
      have hC1 : CIr M1 br I := by
        obtain ⟨k, hk, hc⟩ := hC
        exact ⟨k, hk, crw_congr hc (fun x x1 x2 => hA.1 x (by omega) (by omega) (by omega))⟩
      obtain ⟨a1, a2, a3, a4, a5, a6, a7, a8⟩ := id hA
      rw [a4]
      by_cases h41 : ty = 41
      · subst h41
        rw [if_pos rfl] at hKs
        refine ⟨fun _ => c_slen hu20 htl (by omega) (by omega) ⟨_, rfl, rfl, hsI, by constructor <;> omega, fun _ => ?_, fun z => by have := hS.nil; omega⟩, fun z => by omega⟩
        rw [a4]
        exact ⟨fun z => absurd rfl z, fun _ => hKs I rfl M1 hF1 hC1⟩
      rw [if_neg h41] at hKf hKs
      obtain ⟨q1, q2, q3, q4, q5, -⟩ := tkn_q hk h41
      have ftk4 : 0 ≤ ty → ftk ty = 4 := fun z => by unfold ftk; rw [if_neg (by omega), if_neg (by omega), if_neg h41]
      refine ⟨fun h0 => c_slen hu20 htl (by omega) (by omega) ⟨_, rfl, rfl, hsI, by constructor <;> omega, fun _ => ?_, fun z => by have := hS.nil; omega⟩, fun hneg => ?_⟩
      · rw [a4]
        refine ⟨fun _ => ?_, fun z => absurd z h41⟩
        have h532 : ∀ w : Int, (w = 4 ∨ w = 9) → im_i32 w := fun w hw => by constructor <;> omega
        refine c_inputBegins (I := I) hr hbr hC1 a4 (by constructor <;> omega) (by omega) (fun h28 => ⟨_, rfl, rfl, ?_⟩) (fun h28 h40 => ⟨_, rfl, rfl, ?_⟩) (fun h28 h40 M2 B2 C2 => ⟨_, rfl, rfl, ?_⟩)
        · rw [if_pos h28, ftk4 h0] at hKf
          have hK4 := hKf 4 p rfl M1 hF1 ⟨I, hC1⟩ a5
          exact ⟨fun _ => ⟨fun _ => ⟨by decide, fun z => absurd z (by decide), fun _ => hK4⟩, fun _ => ⟨by decide, fun z => absurd z (by decide), fun _ => hK4⟩⟩, fun _ => ⟨by decide, fun z => absurd z (by decide), fun _ => hK4⟩⟩
        · rw [if_neg (Decidable.not_not.mpr h28), if_pos h40] at hKf
          have hK4 := hKf 9 p rfl M1 hF1 ⟨I, hC1⟩ a5
          exact ⟨fun _ => ⟨fun _ => ⟨by decide, fun z => absurd z (by decide), fun _ => hK4⟩, fun _ => ⟨by decide, fun z => absurd z (by decide), fun _ => hK4⟩⟩, fun _ => ⟨by decide, fun z => absurd z (by decide), fun _ => hK4⟩⟩
        · rw [if_neg (Decidable.not_not.mpr h28), if_neg h40] at hKf hKs
          have e24 : M2 2 4 = ty := by rw [B2 2 (by omega)]; exact a4
          have e23 : M2 2 3 = q := by rw [B2 2 (by omega)]; exact a3
          have hF2 := hF1.bf hbr B2
          have h1 : 1 ≤ (ipB I ty).1 := by
            obtain ⟨k, hk, _⟩ := hC
            show 1 ≤ I.1 + 1
            omega
          have go : ∀ w : UInt32, SHP w 0 (shI ty) → im_T g d 103 21 [some (.ref 2), none, none, some (.ref br), some (.float w), some (vI 0), some (vI (T + 1)), none] [] e M2 K := fun w hw =>
            ih q (T + 1) 0 w (shI ty) (ipB I ty) M2 (by omega) (by omega) (by omega) (by omega) (by omega) hw (fun _ => h1) hF2 C2 e23 hKf hKs
          rw [e24]
          refine ⟨fun h => ⟨fun h' => ⟨by decide, fun _ => go 17 ?_, fun z => absurd rfl z⟩, fun h' => ⟨by decide, fun _ => go 19 ?_, fun z => absurd rfl z⟩⟩, fun h => ⟨by decide, fun _ => go 18 ?_, fun z => absurd rfl z⟩⟩
          · have : shI ty = [] := (if_neg h).trans (if_neg h')
            rw [this]; exact SHP_17
          · rw [h']; exact SHP_19
          · rw [h]; exact SHP_18
      · rw [if_pos (by omega)] at hKf
        have : ftk ty = -ty := by
          have : ty = -1 ∨ ty = -2 := by omega
          rcases this with rfl | rfl <;> rfl
        rw [this] at hKf
        exact hKf _ _ rfl M1 hF1 ⟨I, hC1⟩ a5
    | cons x sh =>
      have e1 : inp t n (f + 1) a (x :: sh) I = if (tk t n a).2.2.1 = (if x = 110 then 34 else 36) then inp t n f (tk t n a).2.1 sh (ipP I x (if x = 110 then (tk t n a).2.2.2.2 else (tk t n a).2.2.2.1)) else .inl (ftk (tk t n a).2.2.1, (tk t n a).1) := rfl
      rw [e1] at hKf hKs
      generalize (tk t n a).1 = p at hk hKf hKs
      generalize (tk t n a).2.1 = q at hk hKf hKs
      generalize (tk t n a).2.2.1 = ty at hk hKf hKs
      generalize (tk t n a).2.2.2.1 = nm at hk hKf hKs
      generalize (tk t n a).2.2.2.2 = v at hk hKf hKs
      clear e1
      refine c_adv (t := t) (n := n) (a := a) (p := p) (q := q) (ty := ty) (nm := nm) (v := v) hsh hnb ((hF.2 1 (by decide)).trans hb) h22 h3 hnn (by rw [hMb]; exact ht) (fun i i0 i1 => by rw [hM3]; exact hkw i i0 i1) ha0 hk (by omega) (fun M1 hA => ⟨rfl, rfl, ?_⟩)
      have hF1 := hF.ad hA
      have hC1 : CIr M1 br I := by
        obtain ⟨k, hk, hc⟩ := hC
        exact ⟨k, hk, crw_congr hc (fun x x1 x2 => hA.1 x (by omega) (by omega) (by omega))⟩
      obtain ⟨a1, a2, a3, a4, a5, a6, a7, a8⟩ := id hA
      rw [a4]
      obtain ⟨⟨j, hj, hjl, hjx⟩, hS', hx⟩ := hS.cons
      have hch : ((tx u).getD j 0).toInt = x := by
        have h1 : ((tx u).map Int32.toInt)[j]? = some x := hjx
        rw [List.getElem?_map, List.getElem?_eq_getElem (by omega)] at h1
        simp only [Option.map_some, Option.some.injEq] at h1
        rw [List.getD_eq_getElem?_getD, List.getElem?_eq_getElem (by omega)]
        exact h1
      have h1 : 1 ≤ I.1 := hI1 (List.cons_ne_nil _ _)
      refine ⟨fun h0 => c_slen hu20 htl (by omega) (by omega) ⟨_, rfl, rfl, hsI, by constructor <;> omega, fun z => by omega, fun _ => ?_⟩, fun hneg => ?_⟩
      · rw [hj]
        refine c_char (n := (shl u).length) (i := j) hu20 htl (by omega) hjl (by rw [hch]; constructor <;> omega) (by omega) ⟨_, rfl, rfl, ?_⟩
        rw [hch]
        refine c_inputPart (I := I) (ty := ty) (nm := nm) (v := v) hr hbr hC1 h1 a4 hx (fun z => a7 (Or.inr (Or.inr z))) a8 (by omega) (fun hne => ⟨_, rfl, rfl, ?_⟩) (fun heq M2 B2 C2 => ⟨_, rfl, rfl, by decide, fun _ => ?_, fun z => absurd rfl z⟩)
        · rw [if_neg hne] at hKf
          have : ftk ty = if ty = 41 then 3 else 4 := by unfold ftk; rw [if_neg (by omega), if_neg (by omega)]
          rw [this] at hKf
          have hK4 := hKf _ p rfl M1 hF1 ⟨I, hC1⟩ a5
          refine ⟨by split <;> decide, fun z => ?_, fun _ => hK4⟩
          split at z <;> omega
        · rw [if_pos heq] at hKf hKs
          have h41 : ty ≠ 41 := by rw [heq]; split <;> decide
          obtain ⟨q1, q2, q3, q4, q5, -⟩ := tkn_q hk h41
          have e23 : M2 2 3 = q := by rw [B2 2 (by omega)]; exact a3
          rw [hj] at hS'
          refine ih q (T + 1) (j + 1) u sh _ M2 (by omega) (by omega) (by omega) (by omega) (by omega) hS' (fun _ => ?_) (hF1.bf hbr B2) C2 e23 hKf hKs
          have : ∀ w, (ipP I x w).1 = I.1 := fun w => by unfold ipP; split <;> (try split) <;> (try split) <;> rfl
          rw [this]; exact h1
      · have hne : ty ≠ (if x = 110 then 34 else 36) := by split <;> omega
        rw [if_neg hne] at hKf
        have h41 : ty ≠ 41 := by omega
        obtain ⟨q1, q2, q3, q4, q5, -⟩ := tkn_q hk h41
        have : ftk ty = -ty := by
          have : ty = -1 ∨ ty = -2 := by omega
          rcases this with rfl | rfl <;> rfl
        rw [this] at hKf
        exact hKf _ _ rfl M1 hF1 ⟨I, hC1⟩ a5
theorem c_inputsText {I0 : Ip} (hsh : (im_sh0 ++ e)[b]? = some (0, nb, [])) (hnb : nb ≤ 2147483647) (hnn : n ≤ nb) (hn0 : 0 ≤ n) (hn1 : n ≤ 16384) (ht : txt (M b) t n) (hkw : ∀ i, 0 ≤ i → i < 34 → M 3 i = kwv i) (hr : rwN e br 40) (hbr : 6 < br) (hbb : b < br ∨ br + 86 ≤ b) (hc : CIr M br I0) (hd : 6 ≤ d)
    (hKf : ∀ c p, inpT t n I0 = .inl (c, p) → ∀ M', (∀ x, x ≠ 2 → x ≠ 5 → x ≠ 6 → (x < br ∨ br + 86 ≤ x) → M' x = M x) → (∀ k, k < 1 ∨ 6 < k → M' 2 k = M 2 k) → (∃ I', CIr M' br I') → M' 2 5 = p → K (.inl (some (vI c))) e M')
    (hKs : ∀ I', inpT t n I0 = .inr I' → ∀ M', (∀ x, x ≠ 2 → x ≠ 5 → x ≠ 6 → (x < br ∨ br + 86 ≤ x) → M' x = M x) → (∀ k, k < 1 ∨ 6 < k → M' 2 k = M 2 k) → CIr M' br I' → K (.inl (some (vI 0))) e M') :
    im_T g d 103 0 [some (.ref 2), some (.ref b), some (vI n), some (.ref br), none, none, none, none] [] e M K := by
  have hbn := bt_ne hsh
  refine k_Reader_inputsText_0 hsh hnb hr.1 (by omega) (k_Reader_open_0 hsh hnb ⟨by constructor <;> omega, by constructor <;> omega, rfl, rfl, ?_⟩)
  rw [Int.min_eq_left hnn]
  generalize hM1 : im_u (im_u (im_u (im_u M 2 1 (b : Nat)) 2 2 n) 2 3 0) br 5 0 = M1
  have e1 : ∀ x, x ≠ 2 → x ≠ br → M1 x = M x := fun x x1 x2 => by rw [← hM1, im_u_ne _ _ _ x2, im_u_ne _ _ _ x1, im_u_ne _ _ _ x1, im_u_ne _ _ _ x1]
  have e2 : ∀ k, k < 1 ∨ 3 < k → M1 2 k = M 2 k := fun k hk => by rw [← hM1, im_rdn _ _ _ _ (by omega), im_rdk _ _ _ (by omega), im_rdk _ _ _ (by omega), im_rdk _ _ _ (by omega)]
  have v1 : M1 2 1 = b := by rw [← hM1, im_rdn _ _ _ _ (by omega), im_rdk _ _ _ (by decide), im_rdk _ _ _ (by decide), im_rds]
  have v2 : M1 2 2 = n := by rw [← hM1, im_rdn _ _ _ _ (by omega), im_rdk _ _ _ (by decide), im_rds]
  have v3 : M1 2 3 = 0 := by rw [← hM1, im_rdn _ _ _ _ (by omega), im_rds]
  have v5 : M1 br 5 = 0 := by rw [← hM1, im_rds]
  clear hM1
  have hC1 : CIr M1 br (0, I0.2) := by
    obtain ⟨k, hk, c1, c2, c3, c4, c5⟩ := hc
    exact ⟨0, rfl, v5, by omega, fun i hi => by rw [e1 _ (by omega) (by omega)]; exact c3 i hi, fun i hi => by omega, fun i hi => cn_congr (c5 i hi) (e1 _ (by omega) (by omega)) (e1 _ (by omega) (by omega))⟩
  refine l_inT (M0 := M1) (t := t) hsh hnb v1 v2 hnn hn0 hn1 (by rw [e1 b hbn.1 (by omega)]; exact ht) (fun i i0 i1 => by rw [e1 3 (by decide) (by omega)]; exact hkw i i0 i1) hr hbr hbb hd (n.toNat + 2) 0 0 0 17 [] (0, I0.2) M1 (by omega) (by omega) hn0 (by omega) (by omega) SHP_17 (fun z => absurd rfl z) ⟨fun _ _ _ _ _ => rfl, fun _ _ => rfl⟩ hC1 v3 (fun c p hp M' hf hI hpl => ?_) (fun I' hI M' hf hc' => ?_)
  · exact hKf c p hp M' (fun x a b' c d => (hf.1 x a b' c d).trans (e1 x a (by omega))) (fun k hk => (hf.2 k (by omega)).trans (e2 k (by omega))) hI hpl
  · exact hKs I' hI M' (fun x a b' c d => (hf.1 x a b' c d).trans (e1 x a (by omega))) (fun k hk => (hf.2 k (by omega)).trans (e2 k (by omega))) hc'
/-- the class reads a number -/
noncomputable def nuT (t : Int → Int) (n : Int) : Sum (Int × Int) Int := if (tk t n 0).2.2.1 ≠ 34 then .inl (ftk (tk t n 0).2.2.1, (tk t n 0).1) else if (tk t n (tk t n 0).2.1).2.2.1 ≠ 41 then .inl (fte (tk t n (tk t n 0).2.1).2.2.1, (tk t n (tk t n 0).2.1).1) else .inr (tk t n 0).2.2.2.2
theorem c_numberText (hsh : (im_sh0 ++ e)[b]? = some (0, nb, [])) (hnb : nb ≤ 2147483647) (hnn : n ≤ nb) (hn0 : 0 ≤ n) (hn1 : n ≤ 16384) (ht : txt (M b) t n) (hkw : ∀ i, 0 ≤ i → i < 34 → M 3 i = kwv i) (hd : 6 ≤ d)
    (hKf : ∀ c p, nuT t n = .inl (c, p) → 0 < c → ∀ M', (∀ x, x ≠ 2 → x ≠ 5 → x ≠ 6 → M' x = M x) → (∀ k, k < 1 ∨ 6 < k → M' 2 k = M 2 k) → M' 2 5 = p → K (.inl (some (vI c))) e M')
    (hKs : ∀ v, nuT t n = .inr v → ∀ M', (∀ x, x ≠ 2 → x ≠ 5 → x ≠ 6 → M' x = M x) → (∀ k, k < 1 ∨ 6 < k → M' 2 k = M 2 k) → cn M' 5 v → K (.inl (some (vI 0))) e M') :
    im_T g d 96 0 [some (.ref 2), some (.ref b), some (vI n)] [] e M K := by
  have hbn := bt_ne hsh
  have hk := tk_ok (t := t) hn0
  refine k_Reader_numberText_0 hsh hnb (by omega) (k_Reader_open_0 hsh hnb ⟨by constructor <;> omega, by constructor <;> omega, rfl, rfl, ?_⟩)
  rw [Int.min_eq_left hnn]
  generalize hM1 : im_u (im_u (im_u M 2 1 (b : Nat)) 2 2 n) 2 3 0 = M1
  have e1 : ∀ x, x ≠ 2 → M1 x = M x := fun x x1 => by rw [← hM1, im_u_ne _ _ _ x1, im_u_ne _ _ _ x1, im_u_ne _ _ _ x1]
  have e2 : ∀ k, k < 1 ∨ 3 < k → M1 2 k = M 2 k := fun k hk => by rw [← hM1, im_rdk _ _ _ (by omega), im_rdk _ _ _ (by omega), im_rdk _ _ _ (by omega)]
  have v1 : M1 2 1 = b := by rw [← hM1, im_rdk _ _ _ (by decide), im_rdk _ _ _ (by decide), im_rds]
  have v2 : M1 2 2 = n := by rw [← hM1, im_rdk _ _ _ (by decide), im_rds]
  have v3 : M1 2 3 = 0 := by rw [← hM1, im_rds]
  clear hM1
  unfold nuT at hKf hKs
  generalize (tk t n 0).1 = p at hk hKf hKs
  generalize (tk t n 0).2.1 = q at hk hKf hKs
  generalize (tk t n 0).2.2.1 = ty at hk hKf hKs
  generalize (tk t n 0).2.2.2.1 = nm at hk
  generalize (tk t n 0).2.2.2.2 = v at hk hKf hKs
  refine c_adv (t := t) (n := n) (a := 0) (p := p) (q := q) (ty := ty) (nm := nm) (v := v) hsh hnb v1 v2 v3 hnn (by rw [e1 b hbn.1]; exact ht) (fun i i0 i1 => by rw [e1 3 (by decide)]; exact hkw i i0 i1) (Int.le_refl _) hk (by omega) (fun M2 hA => ⟨rfl, rfl, ?_⟩)
  obtain ⟨a1, a2, a3, a4, a5, a6, a7, a8⟩ := id hA
  have g1 : ∀ x, x ≠ 2 → x ≠ 5 → x ≠ 6 → M2 x = M x := fun x a b c => (a1 x a b c).trans (e1 x a)
  have g2 : ∀ k, k < 1 ∨ 6 < k → M2 2 k = M 2 k := fun k hk => (a2 k (by omega) (by omega) (by omega) (by omega)).trans (e2 k (by omega))
  rw [a4]
  by_cases h34 : ty = 34
  · rw [if_neg (Decidable.not_not.mpr h34)] at hKf hKs
    obtain ⟨q1, q2, q3, -⟩ := tkn_q hk (by omega)
    have hk2 := tk_ok (t := t) q3
    generalize (tk t n q).1 = p2 at hk2 hKf
    generalize (tk t n q).2.1 = q2 at hk2
    generalize (tk t n q).2.2.1 = ty2 at hk2 hKf hKs
    generalize (tk t n q).2.2.2.1 = nm2 at hk2
    generalize (tk t n q).2.2.2.2 = vv2 at hk2
    refine ⟨⟨fun _ _ => ?_, fun z => by omega⟩, fun x hx => by omega⟩
    refine c_faultBehind (t := t) (n := n) (a := q) hsh hnb ((a2 1 (by decide) (by decide) (by decide) (by decide)).trans v1) ((a2 2 (by decide) (by decide) (by decide) (by decide)).trans v2) a3 hnn (by rw [g1 b hbn.1 hbn.2.2.1 hbn.2.2.2]; exact ht) (fun i i0 i1 => by rw [g1 3 (by decide) (by decide) (by decide)]; exact hkw i i0 i1) (by omega) hk2 (by omega) (fun M3 hB => ⟨_, rfl, rfl, ?_⟩)
    obtain ⟨b1, b2, b3, b4, b5, b6, b7, b8⟩ := id hB
    have i1 : ∀ x, x ≠ 2 → x ≠ 5 → x ≠ 6 → M3 x = M x := fun x a b c => (b1 x a b c).trans (g1 x a b c)
    have i2 : ∀ k, k < 1 ∨ 6 < k → M3 2 k = M 2 k := fun k hk => (b2 k (by omega) (by omega) (by omega) (by omega)).trans (g2 k hk)
    by_cases h41 : ty2 = 41
    · rw [if_neg (Decidable.not_not.mpr h41)] at hKs
      rw [if_neg (by omega), if_pos h41]
      obtain ⟨c1, c2⟩ := b6 (by omega)
      exact hKs v rfl M3 i1 i2 (cn_congr (a8 h34) c1 c2)
    · rw [if_pos h41] at hKf
      have hr2 := (tkn_q hk2 h41).2.2.2.1
      have hf : (if ty2 < 0 then -ty2 else if ty2 = 41 then 0 else 9) = fte ty2 := by
        unfold fte
        by_cases hn : ty2 < 0
        · have : ty2 = -1 ∨ ty2 = -2 := by omega
          rcases this with rfl | rfl <;> rfl
        · rw [if_neg hn, if_neg h41, if_neg (by omega), if_neg (by omega)]
      rw [hf]
      exact hKf _ _ rfl (by unfold fte; (repeat' split) <;> decide) M3 i1 i2 b5
  · rw [if_pos h34] at hKf
    have hK1 := hKf _ _ rfl (ftk_pos ty).1 M2 g1 g2 a5
    refine ⟨⟨fun _ z => absurd z h34, fun hneg => ?_⟩, fun x hx => ?_⟩
    · have hr2 := (tkn_q hk (by omega)).2.2.2.1
      have : ftk ty = -ty := by
        have : ty = -1 ∨ ty = -2 := by omega
        rcases this with rfl | rfl <;> rfl
      rw [this] at hK1; exact hK1
    · have : ftk ty = x := by unfold ftk; rw [if_neg (by omega), if_neg (by omega)]; split <;> omega
      rw [this] at hK1; exact hK1
end CINP2
