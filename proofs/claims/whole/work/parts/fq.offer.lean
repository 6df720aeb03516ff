/-! A LEVEL of the reference offers its next try -/
/-- a level is taken -/
def TKL (M : im_M) (R : Rw) (m : Int) (giv : Bk) (l : Lv) (T : Int) : Prop := RP M R m ∧ RE M (l.env giv) T ∧ (M 6952 6 ≤ T ∧ 0 ≤ T ∧ T ≤ M 6952 7) ∧ (M 6952 102 = 1 ∧ KN M R m (l.env giv) ∧ (M 6952 8 = 0 ∨ M 6952 8 = 1)) ∧ (0 ≤ M 6952 116 ∧ M 6952 116 ≤ 60) ∧ M 6952 36 ≤ 20400 ∧ (M 6952 83 = l.nd ∧ M 6952 84 = l.ls)
/-- what an offer leaves as it was -/
def OF (j : Nat) (M M' : im_M) : Prop := (∀ x, x ≠ 6952 → (x < 6955 ∨ 6958 < x) → (x < 6979 ∨ 6983 < x) → (x < 7034 ∨ 7041 < x) → (x < 7071 ∨ 7073 < x) → M' x = M x) ∧ (∀ x, 7071 ≤ x → x ≤ 7073 → ∀ q, q ≠ (j : Int) → M' x q = M x q) ∧ (∀ k, k ≠ 7 → k ≠ 8 → k ≠ 46 → k ≠ 122 → k ≠ 124 → k ≠ 174 → M' 6952 k = M 6952 k) ∧ (∀ i, i < M 6952 7 → M' 6955 i = M 6955 i) ∧ M 6952 7 ≤ M' 6952 7
theorem OF.rf (j : Nat) (M : im_M) : OF j M M := ⟨fun _ _ _ _ _ _ => rfl, fun _ _ _ _ _ => rfl, fun _ _ _ _ _ _ _ => rfl, fun _ _ => rfl, Int.le_refl _⟩
theorem OF.trans {j : Nat} {M M1 M2 : im_M} (h : OF j M M1) (h' : OF j M1 M2) : OF j M M2 := ⟨fun x a b c d f => (h'.1 x a b c d f).trans (h.1 x a b c d f), fun x a b q c => (h'.2.1 x a b q c).trans (h.2.1 x a b q c), fun k a b c d f i => (h'.2.2.1 k a b c d f i).trans (h.2.2.1 k a b c d f i), fun i a => (h'.2.2.2.1 i (by have := h.2.2.2.2; omega)).trans (h.2.2.2.1 i a), by have := h.2.2.2.2; have := h'.2.2.2.2; omega⟩
theorem WX.of {j : Nat} {M M' : im_M} (h : WX M M') : OF j M M' := ⟨fun x a b c d f => h.1 x a b d, fun x a b q c => by rw [h.1 x (by omega) (by omega) (by omega)], fun k a b c d f i => h.2.1 k a b d f, h.2.2.1, h.2.2.2⟩
theorem OF.cur {j : Nat} (M : im_M) {x : Nat} (v : Int) (hx : 7071 ≤ x ∧ x ≤ 7073) : OF j M (im_u M x j v) := ⟨fun y a b c d f => im_u_ne _ _ _ (by omega), fun y a b q c => by
  by_cases z : y = x
  · rw [z, im_rdk _ _ _ c]
  · rw [im_u_ne _ _ _ z], fun k a b c d f i => by rw [im_u_ne _ _ _ (by omega)], fun i _ => by rw [im_u_ne _ _ _ (by omega)], by rw [im_u_ne _ _ _ (by omega)]; exact Int.le_refl _⟩
theorem TKL.of {j : Nat} {M M' : im_M} {R : Rw} {m : Int} {giv : Bk} {l : Lv} {T : Int} (h : TKL M R m giv l T) (hF : OF j M M') (hk : KN M' R m (l.env giv)) (h8 : M' 6952 8 = 0 ∨ M' 6952 8 = 1) : TKL M' R m giv l T := by
  obtain ⟨c1, c2, ⟨c3, c4, c5⟩, ⟨c6, _, _⟩, c7, c8, c9, c10⟩ := h
  obtain ⟨f1, f2, f3, f4, f5⟩ := hF
  refine ⟨RP_congr c1 (f3 6 (by decide) (by decide) (by decide) (by decide) (by decide) (by decide)) (f3 36 (by decide) (by decide) (by decide) (by decide) (by decide) (by decide)) (fun x a b => f1 x (by omega) (by omega) (by omega) (by omega) (by omega)) (fun i hi => f4 i (by omega)), RE_congr c2 (fun k a b => f3 k (by omega) (by omega) (by omega) (by omega) (by omega) (by omega)) (fun x a b => f1 x (by omega) (by omega) (by omega) (by omega) (by omega)) (fun i hi => f4 i (by omega)) (Int.le_refl _), ⟨?_, c4, by omega⟩, ⟨?_, hk, h8⟩, ?_, ?_, ?_, ?_⟩
  · rw [f3 6 (by decide) (by decide) (by decide) (by decide) (by decide) (by decide)]; exact c3
  · rw [f3 102 (by decide) (by decide) (by decide) (by decide) (by decide) (by decide)]; exact c6
  · rw [f3 116 (by decide) (by decide) (by decide) (by decide) (by decide) (by decide)]; exact c7
  · rw [f3 36 (by decide) (by decide) (by decide) (by decide) (by decide) (by decide)]; exact c8
  · rw [f3 83 (by decide) (by decide) (by decide) (by decide) (by decide) (by decide)]; exact c9
  · rw [f3 84 (by decide) (by decide) (by decide) (by decide) (by decide) (by decide)]; exact c10
/-- where a level's offers stand -/
def rCu (M : im_M) (R : Rw) (m : Int) (giv : Bk) (j : Nat) (l : Lv) (L : List Pe) : Prop := (M 7071 j = 0 ∧ L = [(-1, 0, 0, 0, 0, l.ls)]) ∨ (M 7071 j = 3 ∧ L = []) ∨ (M 7071 j = 1 ∧ R 0 l.nd = 3 ∧ ∃ (cs : List Int) (q0 pp : Int) (p : Nat), chc R m l.nd pp (M 7072 j) cs q0 ∧ l.nd ≤ pp ∧ (∀ q, l.nd < q → q ≤ pp → R 1 l.nd < R 1 q) ∧ cs.length ≤ 8 ∧ M 7073 j = p ∧ (∀ c cs', cs = c :: cs' → (R 0 c = 29 → (p : Int) < 2 * R 6 c) ∧ (R 0 c ≠ 29 → p = 0)) ∧ L = ofP R (l.env giv) l.ls (tmo R giv l.nd) p cs)
theorem rCu.cg {M M' : im_M} {R : Rw} {m : Int} {giv : Bk} {j : Nat} {l : Lv} {L : List Pe} (h : rCu M R m giv j l L) (hs : ∀ x, 7071 ≤ x → x ≤ 7073 → M' x j = M x j) : rCu M' R m giv j l L := by
  unfold rCu
  rw [hs 7071 (by decide) (by decide), hs 7072 (by decide) (by decide), hs 7073 (by decide) (by decide)]
  exact h
/-- the next try stands ready -/
def rRd (M : im_M) (p : Pe) : Prop := M 6952 46 = (if p.1 = -1 then (0 : Nat) else (1 : Nat)) ∧ M 6952 174 = p.2.2.2.2.2 ∧ (p.1 ≠ -1 → IR M 0 p.1 p.2.1 p.2.2.1 p.2.2.2.1 p.2.2.2.2.1 (M 6952 7))
section OFFER
variable {g : im_g} {d : Nat} {e : im_E} {M : im_M} {K : im_K} {R : Rw} {m : Int} {giv : Bk} {l : Lv} {T : Int}
theorem c_timeE {n : Int} {Γ : Env} (h1 : RP M R m) (h2 : RE M Γ T) (hg : Γ.2.2.2.1 = giv) (hT' : T ≤ M 6952 7) (h70 : 0 ≤ M 6952 7) (hm : m ≤ 5000) (n0 : 0 ≤ n) (n1 : n < m) (hk : R 0 n = 3) (hT : R 5 n ≠ 0 → 0 ≤ hld giv (R 5 n) 0 ∧ hld giv (R 5 n) 0 ≤ 1000000000000000) (h7 : M 6952 7 + 22 ≤ 1100000) (hd : 3 ≤ d)
    (hK : ∀ M', WX M M' → M' 6952 7 = M 6952 7 → M' 6952 8 = M 6952 8 → (∀ x, 7034 ≤ x → M' x = M x) → K (.inl (some (vL (tmo R giv n)))) e M') : im_T g d 406 0 [some (.ref 6952), some (vI n), none, none, none] [] e M K := by
  obtain ⟨_, _, _, _, _, q6, _⟩ := h1 n n0 n1
  obtain ⟨q6a, q6b⟩ := q6 hk
  subst hg
  unfold tmo at hK
  by_cases h5 : R 5 n = 0
  · obtain ⟨q1, q2⟩ := q6b h5
    have q2 := q2 (fun x hx => by cases hx)
    rw [if_pos h5] at hK
    refine b_timeOf_0 (by omega) ⟨by constructor <;> omega, fun z => absurd q1 z, fun _ => ?_⟩
    rw [q2]
    exact hK M (WX.rf M) rfl rfl (fun _ _ => rfl)
  · obtain ⟨q1, q2⟩ := q6a h5
    rw [if_neg h5] at hK
    obtain ⟨t1, t2⟩ := hT h5
    have hat : asT (hld Γ.2.2.2.1 (R 5 n) 0) = hld Γ.2.2.2.1 (R 5 n) 0 := by unfold asT; rw [if_pos ⟨t1, t2⟩]
    rw [hat] at hK
    refine im_rng (j := n) sf_6961 n0 (by show n < 5100; omega) (fun hr1 => ?_)
    have hr1 : im_i64 (M 6961 n) := hr1
    refine b_timeOf_0 (by omega) ⟨by constructor <;> omega, fun _ => ?_, fun z => by omega⟩
    rw [q2] at hr1 ⊢
    refine c_givenOf (B := M 6952 7) h2 hT' (Int.le_refl _) h70 h7 hr1 (by omega) (fun M1 r hv => ⟨_, rfl, rfl, ?_⟩)
    obtain ⟨v1, v2, v3, v4, ⟨k, v5, v6, v7, v8⟩, _⟩ := hv
    have v5 : rn (M1 6955) r k (hld Γ.2.2.2.1 (R 5 n) 0) := v5
    refine c_toLong v5 v6 (by omega) (fun t ht => ⟨_, rfl, rfl, ?_⟩)
    rw [ht.2.1 ⟨t1, t2⟩]
    have hX : WX M (im_u M1 6952 7 (M 6952 7)) := ⟨fun x a b c => (im_u_ne _ _ _ a).trans (v1.1 x (fun z => by cases z) (by omega) a), fun k a b _ _ => (im_rdk _ _ _ a).trans (v1.2.1 k (by simp [a, b])), fun i hi => (im_rdn _ _ _ _ (by decide)).trans (v1.2.2 i hi), by rw [im_rds]; exact Int.le_refl _⟩
    exact hK _ hX (im_rds _ _ _ _) (by rw [im_rdk _ _ _ (by decide)]; exact v2) (fun x hx => (im_u_ne _ _ _ (by omega)).trans (v1.1 x (fun z => by cases z) (by omega) (by omega)))
/-- an input is put down -/
theorem c_inputR {c r : Int} {j : Nat} {p : Pe} (c0 : 0 ≤ c) (c1 : c < m) (hm : m ≤ 5000) (hp : RP M R m) (hr : im_i32 r) (hk : R 0 c = 28 ∨ R 0 c = 29 ∨ R 0 c = 30) (e1 : p.1 = R 0 c) (e2 : R 0 c ≠ 30 → p.2.1 = R 4 c ∧ p.2.2.1 = R 5 c ∧ rnp M 0 (M 6952 7) r p.2.2.2.2.1) (e3 : R 0 c = 28 → p.2.2.2.1 = R 6 c) (e4 : M 6952 174 = p.2.2.2.2.2)
    (hK : ∀ M', OF j M M' → M' 6952 7 = M 6952 7 → M' 6952 8 = M 6952 8 → (∀ x, 7034 ≤ x → M' x = M x) → rRd M' p → K (.inl none) e M') : im_T g d 435 0 [some (.ref 6952), some (vI c), some (vI r)] [] e M K := by
  obtain ⟨q1, q2, q3, _⟩ := hp c c0 c1
  have hr0 : M 6960 c = R 0 c - 20 := by
    rw [q1]
    unfold kR
    rw [if_neg (by omega), if_neg (by omega), if_neg (by omega), if_neg (by omega), if_neg (by omega), if_pos (by omega)]
  refine b_input_0 ⟨⟨c0, by omega⟩, hr, ?_⟩
  generalize hF : im_u (im_u (im_u (im_u (im_u (im_u M 6952 46 1) 6979 0 (M 6960 c)) 6980 0 (M 6961 c)) 6981 0 (M 6962 c)) 6982 0 (M 6963 c)) 6983 0 r = F
  have fx : ∀ x, x ≠ 6952 → (x < 6979 ∨ 6983 < x) → F x = M x := fun x a b => by rw [← hF, im_u_ne _ _ _ (by omega), im_u_ne _ _ _ (by omega), im_u_ne _ _ _ (by omega), im_u_ne _ _ _ (by omega), im_u_ne _ _ _ (by omega), im_u_ne _ _ _ a]
  have fk : ∀ k, k ≠ 46 → F 6952 k = M 6952 k := fun k a => by rw [← hF, im_rdn _ _ _ _ (by decide), im_rdn _ _ _ _ (by decide), im_rdn _ _ _ _ (by decide), im_rdn _ _ _ _ (by decide), im_rdn _ _ _ _ (by decide), im_rdk _ _ _ a]
  have f46 : F 6952 46 = 1 := by rw [← hF, im_rdn _ _ _ _ (by decide), im_rdn _ _ _ _ (by decide), im_rdn _ _ _ _ (by decide), im_rdn _ _ _ _ (by decide), im_rdn _ _ _ _ (by decide), im_rds]
  have f79 : F 6979 0 = M 6960 c := by rw [← hF, im_rdn _ _ _ _ (by decide), im_rdn _ _ _ _ (by decide), im_rdn _ _ _ _ (by decide), im_rdn _ _ _ _ (by decide), im_rds]
  have f80 : F 6980 0 = M 6961 c := by rw [← hF, im_rdn _ _ _ _ (by decide), im_rdn _ _ _ _ (by decide), im_rdn _ _ _ _ (by decide), im_rds]
  have f81 : F 6981 0 = M 6962 c := by rw [← hF, im_rdn _ _ _ _ (by decide), im_rdn _ _ _ _ (by decide), im_rds]
  have f82 : F 6982 0 = M 6963 c := by rw [← hF, im_rdn _ _ _ _ (by decide), im_rds]
  have f83 : F 6983 0 = r := by rw [← hF, im_rds]
  clear hF
  refine hK F ⟨fun x a b c d f => fx x a c, fun x a b q c => by rw [fx x (by omega) (by omega)], fun k a b c d f i => fk k c, fun i _ => by rw [fx 6955 (by decide) (by decide)], by rw [fk 7 (by decide)]; exact Int.le_refl _⟩ (fk 7 (by decide)) (fk 8 (by decide)) (fun x hx => fx x (by omega) (by omega)) ⟨?_, by rw [fk 174 (by decide)]; exact e4, fun _ => ⟨by decide, by omega, by rw [f79, hr0, e1], fun z => ?_, fun z => ?_⟩⟩
  · rw [f46, if_neg (by omega)]; rfl
  · obtain ⟨y1, y2, y3⟩ := e2 (by omega)
    obtain ⟨w1, w2⟩ := q2 (by omega)
    rw [f80, f81, f83, w1, w2, fk 7 (by decide)]
    exact ⟨y1.symm, y2.symm, rnp_congr y3 (fun i _ => by rw [fx 6955 (by decide) (by decide)]) (Int.le_refl _)⟩
  · rw [f82, (q3 (by omega)).1]
    exact (e3 (by omega)).symm
end OFFER
