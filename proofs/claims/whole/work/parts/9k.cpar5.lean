theorem PI_mk {M0 M : im_M} {lo dg m lw : Int} {st : List en} {R : Rw} (h1 : FR lo dg M0 M) (h2 : M 23 7 = m - lo) (h3 : 0 ≤ M 23 5) (h4 : stC M (cmp st)) (h5 : ∀ i, lo ≤ i → i < m → rowC M R (dg + M 23 5) i) (h6 : cn M 26 lw) (h7 : topC M R (dg + M 23 5) lw st) : PI M0 M lo dg (st, R, m, lw) := ⟨h1, h2, h3, h4, h5, h6, h7⟩
section CPAR5
variable {g : im_g} {d : Nat} {e : im_E} {M M0 : im_M} {K : im_K} {lo dg ty nm v : Int} {x : en} {r : List en} {R : Rw} {m lw : Int} {L : Nat}
theorem c_deepIn {ow : Int} (hR : ow = -1 ∨ (0 ≤ ow ∧ ow < 5000 ∧ M 16 ow = R 1 ow)) (hK : K (.inl (some (vI (deepOf R ow)))) e M) : im_T g d 55 0 [some (.ref 23), some (vI ow)] [] e M K := by
  refine k_Parser_deepIn_0 ⟨?_, fun z => ?_, fun w hw => ?_⟩
  · rcases hR with z | z
    · rw [z]; decide
    · constructor <;> omega
  · rcases hR with w | w
    · exact absurd w z
    · constructor <;> omega
  · have : w = deepOf R ow := by
      unfold deepOf
      rcases hR with z | z
      · rw [if_pos z]; omega
      · rw [if_neg (by omega)]; omega
    rw [this]; exact hK
theorem c_tooMuch {ow : Int} (hR : ow = -1 ∨ (0 ≤ ow ∧ ow < 5000 ∧ M 16 ow = R 1 ow ∧ 0 ≤ R 1 ow ∧ R 1 ow ≤ 100)) (h13 : M 13 8 = lo) (h7 : M 23 7 = m - lo) (h0 : 0 ≤ lo) (h1 : lo ≤ m) (h2 : m ≤ 5000) (hd : 1 ≤ d) (hK1 : much R lo m ow → K (.inl (some (vI 1))) e M) (hK0 : ¬ much R lo m ow → K (.inl (some (vI 0))) e M) : im_T g d 54 0 [some (.ref 23), some (vI ow)] [] e M K := by
  have hdp : 0 ≤ deepOf R ow ∧ deepOf R ow ≤ 101 := by
    unfold deepOf
    rcases hR with z | z
    · rw [if_pos z]; decide
    · rw [if_neg (by omega)]; omega
  refine k_Parser_isTooMuch_0 hd (c_deepIn (R := R) ?_ ⟨_, rfl, rfl, by constructor <;> omega, ?_⟩)
  · rcases hR with z | ⟨a, b, c, _⟩
    · exact Or.inl z
    · exact Or.inr ⟨a, b, c⟩
  rw [h13, h7]
  refine ⟨fun z1 z2 => ⟨by constructor <;> omega, fun z3 => hK0 (fun q => ?_)⟩, fun z => hK1 ?_⟩
  · rcases q with q | q | q <;> omega
  · rcases z with q | ⟨_, q⟩ | ⟨_, _, q⟩
    · exact Or.inl q
    · exact Or.inr (Or.inl q)
    · exact Or.inr (Or.inr (by omega))
def anP (M M' : im_M) (m ty dp wh : Int) : Prop := (∀ x, x ≠ 23 → x ≠ 14 → (x < 16 ∨ 21 < x) → M' x = M x) ∧ (∀ (x : Nat) (i : Int), 14 ≤ x → x ≤ 21 → i ≠ m → M' x i = M x i) ∧ (∀ k, k ≠ 7 → M' 23 k = M 23 k) ∧ M' 23 7 = M 23 7 + 1 ∧ M' 14 m = ty ∧ M' 16 m = dp ∧ M' 17 m = wh ∧ M' 18 m = 0 ∧ M' 19 m = 0 ∧ M' 20 m = 0 ∧ M' 21 m = 0
theorem c_addNode {ow : Int} (hR : ow = -1 ∨ (lo ≤ ow ∧ ow < m ∧ M 16 ow = R 1 ow ∧ M 17 ow = R 2 ow ∧ 0 ≤ R 1 ow ∧ R 1 ow ≤ 100)) (h13 : M 13 8 = lo) (h7 : M 23 7 = m - lo) (h0 : 0 ≤ lo) (h1 : lo ≤ m) (h2 : m < 5000) (hty : im_i32 ty) (hwh : 0 ≤ whenOf R ow ∧ whenOf R ow ≤ 1000) (hd : 1 ≤ d) (hK : ∀ M', anP M M' m ty (deepOf R ow) (whenOf R ow + if ty = 3 then 1 else 0) → K (.inl (some (vI m))) e M') : im_T g d 56 0 [some (.ref 23), some (vI ty), some (vI ow), none] [] e M K := by
  have hdp : 0 ≤ deepOf R ow ∧ deepOf R ow ≤ 101 := by
    unfold deepOf
    rcases hR with z | z
    · rw [if_pos z]; decide
    · rw [if_neg (by omega)]; omega
  have hm : lo + (m - lo) = m := by omega
  refine k_Parser_addNode_0 hd ?_
  rw [h13, h7, hm]
  refine ⟨by constructor <;> omega, by constructor <;> omega, hty, c_deepIn (R := R) ?_ ⟨_, rfl, rfl, by constructor <;> omega, ?_, fun z => ?_, fun w hw u hu => ⟨?_, hK _ ?_⟩⟩⟩
  · rcases hR with z | ⟨a, b, c, _⟩
    · exact Or.inl z
    · refine Or.inr ⟨by omega, by omega, ?_⟩
      rw [im_rdn _ _ _ _ (by decide), im_rdn _ _ _ _ (by decide)]; exact c
  · rcases hR with z | z
    · rw [z]; decide
    · constructor <;> omega
  · rcases hR with w | w
    · exact absurd w z
    · constructor <;> omega
  · have e17 : im_u (im_u M 23 7 (m - lo + 1)) 14 m ty 17 ow = M 17 ow := by rw [im_rdn _ _ _ _ (by decide), im_rdn _ _ _ _ (by decide)]
    rw [e17] at hw
    have hwe : w = whenOf R ow := by
      unfold whenOf
      rcases hR with z | z
      · rw [if_pos z]; omega
      · rw [if_neg (by omega)]; omega
    constructor <;> omega
  · have e17 : im_u (im_u M 23 7 (m - lo + 1)) 14 m ty 17 ow = M 17 ow := by rw [im_rdn _ _ _ _ (by decide), im_rdn _ _ _ _ (by decide)]
    rw [e17] at hw
    have hwe : w = whenOf R ow := by
      unfold whenOf
      rcases hR with z | z
      · rw [if_pos z]; omega
      · rw [if_neg (by omega)]; omega
    have hue : u = if ty = 3 then 1 else 0 := by split <;> omega
    subst hwe; subst hue
    have hu : ∀ (Q : im_M) (a : Nat) (w : Int) (f : Nat) (i : Int), (f ≠ a ∨ i ≠ m) → im_u Q a m w f i = Q f i := fun Q a w f i hh => by
      by_cases ha : f = a
      · subst ha; exact im_rdk _ _ _ (by omega)
      · exact im_rdn _ _ _ _ ha
    refine ⟨fun y y1 y2 y3 => ?_, fun y i y1 y2 hi => ?_, fun k hk => ?_, ?_, ?_, ?_, ?_, ?_, ?_, ?_, ?_⟩
    · rw [im_u_ne _ _ _ (by omega), im_u_ne _ _ _ (by omega), im_u_ne _ _ _ (by omega), im_u_ne _ _ _ (by omega), im_u_ne _ _ _ (by omega), im_u_ne _ _ _ (by omega), im_u_ne _ _ _ y2, im_u_ne _ _ _ y1]
    · rw [hu _ _ _ _ _ (Or.inr hi), hu _ _ _ _ _ (Or.inr hi), hu _ _ _ _ _ (Or.inr hi), hu _ _ _ _ _ (Or.inr hi), hu _ _ _ _ _ (Or.inr hi), hu _ _ _ _ _ (Or.inr hi), hu _ _ _ _ _ (Or.inr hi), im_rdn _ _ _ _ (by omega)]
    · rw [im_rdn _ _ _ _ (by decide), im_rdn _ _ _ _ (by decide), im_rdn _ _ _ _ (by decide), im_rdn _ _ _ _ (by decide), im_rdn _ _ _ _ (by decide), im_rdn _ _ _ _ (by decide), im_rdn _ _ _ _ (by decide), im_rdk _ _ _ hk]
    · rw [im_rdn _ _ _ _ (by decide), im_rdn _ _ _ _ (by decide), im_rdn _ _ _ _ (by decide), im_rdn _ _ _ _ (by decide), im_rdn _ _ _ _ (by decide), im_rdn _ _ _ _ (by decide), im_rdn _ _ _ _ (by decide), im_rds, h7]
    · rw [im_rdn _ _ _ _ (by decide), im_rdn _ _ _ _ (by decide), im_rdn _ _ _ _ (by decide), im_rdn _ _ _ _ (by decide), im_rdn _ _ _ _ (by decide), im_rdn _ _ _ _ (by decide), im_rds]
    · rw [im_rdn _ _ _ _ (by decide), im_rdn _ _ _ _ (by decide), im_rdn _ _ _ _ (by decide), im_rdn _ _ _ _ (by decide), im_rdn _ _ _ _ (by decide), im_rds]
    · rw [im_rdn _ _ _ _ (by decide), im_rdn _ _ _ _ (by decide), im_rdn _ _ _ _ (by decide), im_rdn _ _ _ _ (by decide), im_rds]
    · rw [im_rdn _ _ _ _ (by decide), im_rdn _ _ _ _ (by decide), im_rdn _ _ _ _ (by decide), im_rds]
    · rw [im_rdn _ _ _ _ (by decide), im_rdn _ _ _ _ (by decide), im_rds]
    · rw [im_rdn _ _ _ _ (by decide), im_rds]
    · rw [im_rds]
theorem c_storeNumber {E : Int} (hE : M 13 10 + M 23 5 = E) (h10 : 0 ≤ M 13 10) (h5 : 0 ≤ M 23 5) (hrm : E + 34 < 32836) (hv : cn M 5 v) (hd : 1 ≤ d) (hK : ∀ M' p', (∀ x, x ≠ 22 → x ≠ 23 → M' x = M x) → (∀ k, k ≠ 5 → M' 23 k = M 23 k) → M' 23 5 = M 23 5 + (p' - E) → (∀ i, i < E → M' 22 i = M 22 i) → dgs M' E v p' → K (.inl none) e M') : im_T g d 57 0 [some (.ref 23)] [] e M K := by
  refine k_Parser_storeNumber_0 hd ?_
  rw [hE]
  refine c_store im_num5 hv (by omega) hrm (fun M' p' h1 h2 h3 => ⟨_, rfl, rfl, ?_, hK _ p' (fun y y1 y2 => ?_) (fun k hk => ?_) ?_ (fun i hi => ?_) ?_⟩)
  · obtain ⟨k, a, b, c, _⟩ := h3
    constructor <;> omega
  · rw [im_u_ne _ _ _ y2]; exact h1 y y1
  · rw [im_rdk _ _ _ hk, h1 23 (by decide)]
  · rw [im_rds]
  · rw [im_rdn _ _ _ _ (by decide)]; exact h2 i (Or.inl hi)
  · exact dgs_congr h3 (fun i _ _ => im_rdn _ _ _ _ (by decide))
theorem FR.an {lo dg : Int} {M M1 M' : im_M} {m ty dp wh : Int} (h : FR lo dg M M1) (ha : anP M1 M' m ty dp wh) (hm : lo ≤ m) : FR lo dg M M' := by
  obtain ⟨a1, a2, a3, _⟩ := ha
  refine ⟨fun y b c d f => (a1 y (by omega) (by omega) (by omega)).trans (h.1 y b c d f), fun k b => ?_, fun y i b c d => (a2 y i b c (by omega)).trans (h.2.2.1 y i b c d), fun i b => ?_, fun k b c d => (a3 k d).trans (h.2.2.2.2.1 k b c d), h.2.2.2.2.2.e (a1 26 (by decide) (by decide) (by decide)) (a1 27 (by decide) (by decide) (by decide))⟩
  · rw [a1 2 (by decide) (by decide) (by decide)]; exact h.2.1 k b
  · rw [a1 22 (by decide) (by decide) (by decide)]; exact h.2.2.2.1 i b
theorem c_meetAction (h : MH M0 M lo dg ty nm v x r R m lw L) (hx : x.1 = 97) (hd : 6 ≤ d) (hKf : KF e K M0 M lo dg ty nm v (x :: r, R, m, lw)) (hKs : KS e K M0 M lo dg ty nm v (x :: r, R, m, lw) L) : im_T g d 62 0 [some (.ref 23), some (vI x.2.1)] [] e M K := by
  have hl := h.len
  obtain ⟨o1, o2, o3, o4, o5⟩ := h.ow (by omega) (by omega)
  obtain ⟨hI, hw, h29, h98, h13, h10, hdg, hrm, h4, hty, hnm, hv⟩ := id h
  obtain ⟨p1, p2, p3, p4, p5, p6, p7⟩ := id hI
  have h23 : M 23 4 = ((cmp (x :: r)).length : Int) := p4.1
  have hst : stp lo ty nm v (x :: r, R, m, lw) = (if 28 ≤ ty ∧ ty ≤ 30 then .inr (shE ty x.2.1 ++ r, im_u R 0 x.2.1 ty, m, lw) else .inl 4) := by
    rw [stp_cons, if_neg (by omega), if_neg (by omega), if_pos hx]
  have hrow : rowC M R (dg + M 23 5) x.2.1 := p5 x.2.1 o1 o2
  have hk := o3.2.1 hx
  have hcl : (cmp (x :: r)).length = (cmp r).length + 1 := by rw [cmp_ne (by omega)]; rfl
  refine k_Parser_meetAction_0 (by omega) ?_
  rw [h4]
  refine ⟨fun z1 z2 => ⟨by constructor <;> omega, by constructor <;> omega, ?_⟩, fun z => hKf 4 (by rw [hst, if_neg (by omega)]) M p1 rfl⟩
  have p4' : stC M (cmp (x :: r)) := p4
  rw [cmp_ne (by omega)] at p4'
  have q4 := stC_pop p4'
  generalize hM1 : im_u (im_u M 23 4 (M 23 4 - 1)) 14 x.2.1 ty = M1
  have s4 : stC M1 (cmp r) := by
    rw [← hM1]
    exact ⟨by rw [im_rdn _ _ _ _ (by decide)]; exact q4.1, stk_congr _ q4.2 (fun i _ _ => ⟨im_rdn _ _ _ _ (by decide), im_rdn _ _ _ _ (by decide)⟩)⟩
  have hne : ∀ y, y ≠ 23 → y ≠ 14 → M1 y = M y := fun y y1 y2 => by rw [← hM1, im_u_ne _ _ _ y2, im_u_ne _ _ _ y1]
  have h14 : M1 14 x.2.1 = ty := by rw [← hM1, im_rds]
  have h14' : ∀ i, i ≠ x.2.1 → M1 14 i = M 14 i := fun i hi => by rw [← hM1, im_rdk _ _ _ hi, im_rdn _ _ _ _ (by decide)]
  have h23k : ∀ k, k ≠ 4 → M1 23 k = M 23 k := fun k hk => by rw [← hM1, im_rdn _ _ _ _ (by decide), im_rdk _ _ _ hk]
  have hfr : FR lo dg M0 M1 := by rw [← hM1]; exact (p1.p (Or.inl rfl) _).r (by decide) (by decide) o1 _
  refine c_pushShape s4 (by omega) (by omega) (by omega) h14 (by omega) (by omega) (by omega) (fun M2 hF2 hs2 => ⟨rfl, rfl, hKs _ (by rw [hst, if_pos ⟨z1, z2⟩]) M2 ?_ (fun k => ?_) ?_⟩)
  · have e5 : M2 23 5 = M 23 5 := (hF2.2 5 (by decide)).trans (h23k 5 (by decide))
    refine PI_mk (hfr.trans (FR.sf hF2)) ?_ (by rw [e5]; exact p3) ?_ (fun i i0 i1 => ?_) ?_ ?_
    · rw [hF2.2 7 (by decide), h23k 7 (by decide)]; exact p2
    · show stC M2 (cmp (shE ty x.2.1 ++ r)); rw [cmp_shE]; exact hs2
    · rw [e5]
      by_cases hi : i = x.2.1
      · subst hi
        obtain ⟨a1, a2, a3, a4, a5, a6, a7, a8, a9⟩ := hrow
        have hM2 : ∀ y, y ≠ 23 → y ≠ 14 → y ≠ 24 → y ≠ 25 → M2 y = M y := fun y y1 y2 y3 y4 => (hF2.1 y y1 y3 y4).trans (hne y y1 y2)
        refine ⟨?_, ?_, ?_, ?_, ?_, ?_, fun z => ?_, fun z => ?_, fun z z' => ?_⟩
        · rw [hF2.1 14 (by decide) (by decide) (by decide), h14]; exact (im_rds _ _ _ _).symm
        · rw [hM2 16 (by decide) (by decide) (by decide) (by decide), a2]; exact (im_rdn _ _ _ _ (by decide)).symm
        · rw [hM2 17 (by decide) (by decide) (by decide) (by decide), a3]; exact (im_rdn _ _ _ _ (by decide)).symm
        · rw [hM2 19 (by decide) (by decide) (by decide) (by decide), a4]; exact (im_rdn _ _ _ _ (by decide)).symm
        · rw [hM2 20 (by decide) (by decide) (by decide) (by decide), a5]; exact (im_rdn _ _ _ _ (by decide)).symm
        · rw [hM2 21 (by decide) (by decide) (by decide) (by decide), a6]; exact (im_rdn _ _ _ _ (by decide)).symm
        · have z : im_u R 0 x.2.1 ty 0 x.2.1 = 1 ∨ im_u R 0 x.2.1 ty 0 x.2.1 = 3 := z
          rw [im_rds] at z; omega
        · have z : im_u R 0 x.2.1 ty 0 x.2.1 = 34 := z
          rw [im_rds] at z; omega
        · have z' : 0 < im_u R 0 x.2.1 ty 6 x.2.1 := z'
          rw [im_rdn _ _ _ _ (by decide)] at z'; omega
      · refine rowC_congr (p5 i i0 i1) (fun y y1 y2 => ?_) (fun j _ => ?_) (fun f _ => ?_) (Int.le_refl _) (fun z => (h29 i i0 i1 z).2)
        · rw [hF2.1 y (by omega) (by omega) (by omega)]
          by_cases hy : y = 14
          · subst hy; exact h14' i hi
          · rw [hne y (by omega) hy]
        · rw [hF2.1 22 (by decide) (by decide) (by decide), hne 22 (by decide) (by decide)]
        · show im_u R 0 x.2.1 ty f i = R f i
          by_cases hf : f = 0
          · subst hf; exact im_rdk _ _ _ hi
          · exact im_rdn _ _ _ _ hf
    · exact cn_congr p6 (by rw [hF2.1 26 (by decide) (by decide) (by decide), hne 26 (by decide) (by decide)]) (by rw [hF2.1 27 (by decide) (by decide) (by decide), hne 27 (by decide) (by decide)])
    · exact top_shE (h.top0 (by omega) (by omega) _ _ _ _ (fun _ _ _ => im_rdn _ _ _ _ (by decide)))
  · rw [hF2.1 2 (by decide) (by decide) (by decide), hne 2 (by decide) (by decide)]
  · rw [hF2.2 5 (by decide), h23k 5 (by decide)]; split <;> omega
end CPAR5
