/-! THE CLASS looks for the case of an input -/
abbrev nmd (R : Rw) (n t a b c : Int) : Prop := R 0 n = t ∧ (t = 30 ∨ (R 4 n = a ∧ R 5 n = b ∧ (t = 29 ∨ R 6 n = c)))
/-- whether a number stands between bounds -/
def btw (R : Rw) (n v : Int) : Nat → Prop
  | 0 => False
  | k + 1 => btw R n v k ∨ (R (8 + k) n ≤ v ∧ v ≤ R (12 + k) n)
noncomputable def tkn' (R : Rw) (Γ : Env) (n t v : Int) : Option Bool :=
  if t = 29 then some (@decide (btw R n v (R 6 n).toNat) (Classical.propDecidable _))
  else (ev R Γ 101 (n + 1)).bind (fun x => some (if t = 28 then decide (x = v) else decide (x = 1)))
/-- the cases from c on -/
noncomputable def appC (R : Rw) (giv : Bk) (st en lk : Int) (s : TS) (t a b c v : Int) : Nat → Int → Sum Int TS
  | 0, _ => .inl (-5)
  | f + 1, n => if n = -1 then .inl (-5) else if nmd R n t a b c then (match tkn' R (s.env giv st en) n t v with
      | none => .inl (-8)
      | some true => takeO lk (s.sNd (R 17 n)) t a b c v
      | some false => appC R giv st en lk s t a b c v f (R 19 n)) else appC R giv st en lk s t a b c v f (R 19 n)
noncomputable def appO (R : Rw) (giv : Bk) (st en lk : Int) (s : TS) (t a b c v : Int) : Sum Int TS := if R 0 s.nd = 3 then appC R giv st en lk s t a b c v 9 (R 16 s.nd) else .inl (-5)
theorem kids_k {R : Rw} {m n : Int} (h : TR R m n) (hk : R 0 n = 28 ∨ R 0 n = 29 ∨ R 0 n = 30) :
    ((R 0 n ≠ 29 → R 16 n = n + 1 ∧ n + 1 < m ∧ R 1 (n + 1) = R 1 n + 1 ∧ nx R (n + 1) (R 17 n) ∧ (R 0 n = 28 → vkd (R 0 (n + 1))) ∧ (R 0 n = 30 → okd (R 0 (n + 1)))) ∧ (R 0 n = 29 → R 17 n = n + 1)) ∧ n < R 17 n ∧ R 17 n < m ∧ R 1 (R 17 n) = R 1 n + 1 ∧ bgn 99 (R 0 (R 17 n)) := by
  obtain ⟨_, cs, q0, q, _, h2, h3⟩ := h
  have hq0 := h2 (by omega)
  subst hq0
  by_cases h29 : R 0 q0 = 29
  · rw [h29] at h3 ⊢
    obtain ⟨a1, a2, a3, a4, a5⟩ := h3
    have e : R 17 q0 = q0 + 1 := nxt_0 a1
    exact ⟨⟨fun z => absurd rfl z, fun _ => e⟩, by omega, a4, a3, a2⟩
  · have one : ∀ {s : Int}, lks R m q0 q0 [(s, 1), (99, 2)] q → (R 16 q0 = q0 + 1 ∧ q0 + 1 < m ∧ R 1 (q0 + 1) = R 1 q0 + 1 ∧ bgn s (R 0 (q0 + 1))) ∧ nx R (q0 + 1) (R 17 q0) ∧ q0 < R 17 q0 ∧ R 17 q0 < m ∧ R 1 (R 17 q0) = R 1 q0 + 1 ∧ bgn 99 (R 0 (R 17 q0)) := fun {s} hh => by
      obtain ⟨a1, a2, a3, a4, a5⟩ := hh
      have e : R 16 q0 = q0 + 1 := nxt_0 a1
      have a2 : bgn s (R 0 (R 16 q0)) := a2
      have a3 : R 1 (R 16 q0) = R 1 q0 + 1 := a3
      have a4 : R 16 q0 < m := a4
      have a5 : lks R m q0 (R 16 q0) [(99, 2)] q := a5
      rw [e] at a2 a3 a4 a5
      obtain ⟨b1, b2, b3, b4, _⟩ := a5
      have b1 : nxt R q0 (q0 + 1) (R 17 q0) := b1
      exact ⟨⟨e, a4, a3, a2⟩, nxt_1 b1 (by omega), (nxt_lt b1).1, b4, b3, b2⟩
    rcases hk with hk | hk | hk
    · rw [hk] at h3 ⊢
      obtain ⟨⟨c1, c2, c3, c4⟩, c5, c6⟩ := one h3
      exact ⟨⟨fun _ => ⟨c1, c2, c3, c5, fun _ => bgn_v c4, fun z => by omega⟩, fun z => by omega⟩, c6⟩
    · exact absurd hk h29
    · rw [hk] at h3 ⊢
      obtain ⟨⟨c1, c2, c3, c4⟩, c5, c6⟩ := one h3
      exact ⟨⟨fun _ => ⟨c1, c2, c3, c5, fun z => by omega, fun _ => bgn_o c4⟩, fun z => by omega⟩, c6⟩
section CAPPLY
variable {g : im_g} {d : Nat} {e : im_E} {M : im_M} {K : im_K} {R : Rw} {m E : Int} {giv : Bk} {st en lk fl : Int} {s : TS} {bs bp np br nr : Nat} {i t a b c v : Int}
theorem c_isNamed {n : Int} (hC : CP M R m E) (hm : m ≤ 5000) (n0 : 0 ≤ n) (n1 : n < m) (hI : IN M e bs br nr i t a b c v) (hK1 : nmd R n t a b c → K (.inl (some (vI 1))) e M) (hK0 : ¬ nmd R n t a b c → K (.inl (some (vI 0))) e M) : im_T g d 143 0 [some (.ref 931), some (vI n), some (.ref br), some (vI i), none, none] [] e M K := by
  obtain ⟨h1, ⟨h2, h2'⟩, h3, ⟨h4, h5, h6, h7⟩, h8, h9⟩ := hI
  obtain ⟨r1, r2, r3, r4, r5, r6, -⟩ := (hC.2 n n0 n1).1
  clear h3
  refine k_Machine_isNamed_0 h1.1 ?_
  rw [h4, h5, h6, h7, r1, r4, r5, r6]
  unfold nmd at hK1 hK0
  refine ⟨⟨h2, h2'⟩, by constructor <;> omega, ⟨fun e0 => fun e1 e2 => ⟨fun a1 a2 a3 => hK0 (by omega), fun z => hK1 (by omega)⟩, fun z => hK0 (by omega)⟩, fun z => ⟨fun z1 => hK1 (by omega), fun z1 => hK0 (by omega)⟩⟩
/-- numbers laid one behind the other -/
theorem dsq_at {M : im_M} : ∀ (L : List Int) {p e : Int} (L2 : List Int), dsq M p (L ++ L2) e → ∃ q, dsq M p L q ∧ dsq M q L2 e := by
  intro L
  induction L with
  | nil => intro p e L2 h; exact ⟨p, rfl, h⟩
  | cons v vs ih =>
    intro p e L2 h
    obtain ⟨p', h1, h2⟩ := h
    obtain ⟨q, h3, h4⟩ := ih L2 h2
    exact ⟨q, ⟨p', h1, h3⟩, h4⟩
theorem bl_at {R : Rw} {n : Int} : ∀ (k j : Nat), j < k → ∃ L, bl R n k = bl R n j ++ (R (8 + j) n :: R (12 + j) n :: L) := by
  intro k
  induction k with
  | zero => intro j h; omega
  | succ k ih =>
    intro j h
    have e : bl R n (k + 1) = bl R n k ++ [R (8 + k) n, R (12 + k) n] := rfl
    by_cases hj : j < k
    · obtain ⟨L, hL⟩ := ih j hj
      exact ⟨L ++ [R (8 + k) n, R (12 + k) n], by rw [e, hL, List.append_assoc]; rfl⟩
    · have : j = k := by omega
      subst this
      exact ⟨[], e⟩
theorem dsq_det {M : im_M} : ∀ (L : List Int) {p e e' : Int}, dsq M p L e → dsq M p L e' → e = e' := by
  intro L
  induction L with
  | nil => intro p e e' h h'; exact h.symm.trans h'
  | cons v vs ih =>
    intro p e e' h h'
    obtain ⟨p1, h1, h2⟩ := h
    obtain ⟨p2, h3, h4⟩ := h'
    have : p1 = p2 := by
      obtain ⟨k, a1, a2, a3, a4, a5, a6, _⟩ := h1
      obtain ⟨k', b1, b2, b3, b4, b5, b6, _⟩ := h3
      omega
    subst this
    exact ih h2 h4
theorem l_isBounded {n : Int} {q : Nat} {e1 : Int} (hq : im_num e q) (hqo : q + 1 < 931 ∨ 1793 ≤ q) {M0 : im_M} (hC0 : CP M0 R m E) (hm : m ≤ 5000) (n0 : 0 ≤ n) (n1 : n < m) (hk : R 0 n = 29) (h6 : 1 ≤ R 6 n ∧ R 6 n ≤ 4) (hv0 : cn M0 q v) (hds : dsq M0 (M0 18 n) (bl R n (R 6 n).toNat) e1) (hd : 3 ≤ d)
    (hK1 : btw R n v (R 6 n).toNat → ∀ M', WD 0 M0 M' → (∀ k, M' 931 k = M0 931 k) → K (.inl (some (vI 1))) e M') (hK0 : ¬ btw R n v (R 6 n).toNat → ∀ M', WD 0 M0 M' → (∀ k, M' 931 k = M0 931 k) → K (.inl (some (vI 0))) e M') :
    ∀ (j k : Nat) (p : Int) (M : im_M), (k : Int) + j = R 6 n → WD 0 M0 M → (∀ k, M 931 k = M0 931 k) → dsq M0 (M0 18 n) (bl R n k) p → ¬ btw R n v k → im_T g d 144 13 [some (.ref 931), some (vI n), some (.ref q), some (vI p), some (vI k)] [] e M K := by
  have r6 : M0 21 n = R 6 n := (hC0.2 n n0 n1).1.2.2.2.2.2.1
  intro j
  induction j with
  | zero =>
    intro k p M hkj W hF hp hb
    have e21 : M 21 n = R 6 n := by rw [W.1 21 (by decide) (by decide) (by decide) (by decide)]; exact r6
    refine k_Machine_isBounded_13 hq (by omega) ?_
    rw [e21]
    have hkk : (R 6 n).toNat = k := by omega
    rw [hkk] at hK0
    exact ⟨by constructor <;> omega, by constructor <;> omega, fun _ => hK0 hb M W hF, fun z => by omega⟩
  | succ j ih =>
    intro k p M hkj W hF hp hb
    have e21 : M 21 n = R 6 n := by rw [W.1 21 (by decide) (by decide) (by decide) (by decide)]; exact r6
    have e22 : M 22 = M0 22 := W.1 22 (by decide) (by decide) (by decide) (by decide)
    obtain ⟨L, hL⟩ := bl_at (R := R) (n := n) (R 6 n).toNat k (by omega)
    rw [hL] at hds
    obtain ⟨p', hp1, hp2⟩ := dsq_at _ _ hds
    have : p' = p := dsq_det _ hp1 hp
    subst this
    obtain ⟨pa, da, hp3⟩ := hp2
    obtain ⟨pb, db, hp4⟩ := hp3
    have hvq : cn M q v := cn_congr hv0 (W.1 _ (by omega) (by omega) (by omega) (by omega)) (W.1 _ (by omega) (by omega) (by omega) (by omega))
    obtain ⟨c0, g0, gn0, gr0⟩ := W.2.2.1.at (e := e) (i := 0) (by decide)
    have g0 : M 932 0 = c0 := g0
    refine k_Machine_isBounded_13 hq (by omega) ?_
    rw [e21]
    refine ⟨by constructor <;> omega, by constructor <;> omega, fun z => by omega, fun _ => ⟨c0, g0, gn0, c_load gn0 (dgs_congr da (fun x _ _ => by rw [e22])) (by omega) (fun M1 f1 z1 => ⟨_, rfl, rfl, ?_⟩)⟩⟩
    have W1 : WD 0 M M1 := WD.num W.2.2.1 (by decide) g0 f1.r z1
    obtain ⟨c1, g1, gn1, gr1⟩ := W1.2.2.1.at (e := e) (i := 1) (by decide)
    have g1 : M1 932 1 = c1 := g1
    have g10 : M1 932 0 = c0 := by rw [f1 932 (by omega) (by omega)]; exact g0
    have hne := W1.2.2.1.ne (i := 0) (j := 1) (by decide) (by decide) (by decide) g10 g1
    have e22' : M1 22 = M0 22 := (f1 22 (by omega) (by omega)).trans e22
    refine ⟨c1, g1, gn1, c_load gn1 (dgs_congr db (fun x _ _ => by rw [e22'])) (by omega) (fun M2 f2 z2 => ⟨_, rfl, rfl, ?_⟩)⟩
    have W2 : WD 0 M1 M2 := (WD.num (δ := 1) W1.2.2.1 (by decide) g1 f2.r z2).mono (by omega)
    have W02 := (W.trans W1 (Nat.le_refl _)).trans W2 (Nat.le_refl _)
    have hF2 : ∀ k, M2 931 k = M0 931 k := fun k => by rw [f2 931 (by omega) (by omega), f1 931 (by omega) (by omega)]; exact hF k
    have z12 : cn M2 c0 (R (8 + k) n) := cn_congr z1 (f2 _ hne.1 (by omega)) (f2 _ (by omega) (by omega))
    have hv2 : cn M2 q v := cn_congr (cn_congr hvq (f1 _ (by omega) (by omega)) (f1 _ (by omega) (by omega))) (f2 _ (by omega) (by omega)) (f2 _ (by omega) (by omega))
    have g20 : M2 932 0 = c0 := by rw [f2 932 (by omega) (by omega)]; exact g10
    have g21 : M2 932 1 = c1 := by rw [f2 932 (by omega) (by omega)]; exact g1
    have hnext : ¬ (R (8 + k) n ≤ v ∧ v ≤ R (12 + k) n) → im_T g d 144 13 [some (.ref 931), some (vI n), some (.ref q), some (vI pb), some (vI ((k : Int) + 1))] [] e M2 K := fun hnb => by
      refine ih (k + 1) pb M2 (by omega) W02 hF2 ?_ (fun z => ?_)
      · show dsq M0 (M0 18 n) (bl R n k ++ [R (8 + k) n, R (12 + k) n]) pb
        have := dsq_snoc _ (dsq_snoc _ hp da) db
        rw [List.append_assoc] at this
        exact this
      · rcases z with z | z
        · exact hb z
        · exact hnb z
    have hc3 : ∀ x y : Int, (cmpI x y ≤ 0 ↔ x ≤ y) ∧ im_i32 (cmpI x y) := fun x y => by unfold cmpI; (repeat' split) <;> exact ⟨by omega, by decide⟩
    refine ⟨c0, g20, gn0, c_compare gn0 hq z12 hv2 (by omega) ⟨_, rfl, rfl, (hc3 _ _).2, fun z => hnext (fun w => by have := (hc3 (R (8 + k) n) v).1.mpr w.1; omega), fun z => ⟨c1, g21, gn1, c_compare gn1 hq z2 hv2 (by omega) ⟨_, rfl, rfl, (hc3 _ _).2, fun z' => hnext (fun w => ?_), fun z' => ?_⟩⟩⟩⟩
    · unfold cmpI at z'; rw [if_neg (by omega)] at z'; (repeat' split at z') <;> omega
    · have hle1 : R (8 + k) n ≤ v := (hc3 _ _).1.mp z
      have hle2 : v ≤ R (12 + k) n := by
        apply Decidable.byContradiction
        intro hn
        unfold cmpI at z'; rw [if_pos (by omega)] at z'; omega
      have hmono : ∀ (x y : Nat), btw R n v x → x ≤ y → btw R n v y := by
        intro x y h hxy
        induction y with
        | zero => have : x = 0 := by omega
                  rw [this] at h; exact h
        | succ y ih2 =>
          by_cases hxe : x = y + 1
          · rw [hxe] at h; exact h
          · exact Or.inl (ih2 (by omega))
      exact hK1 (hmono (k + 1) _ (Or.inr ⟨hle1, hle2⟩) (by omega)) M2 W02 hF2
end CAPPLY
