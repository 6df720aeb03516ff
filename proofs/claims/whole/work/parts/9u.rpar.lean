/-! the reference's parser keeps step with the abstract machine: what is pure -/
theorem ifS {α : Type} {P : Prop} [Decidable P] {a b c : α} {G : Prop} (h : (if P then a else b) = c) (ha : P → a = c → G) (hb : ¬ P → b = c → G) : G := by
  by_cases hp : P
  · rw [if_pos hp] at h; exact ha hp h
  · rw [if_neg hp] at h; exact hb hp h
theorem inlX {α : Type} {a : Int} {S : α} {G : Prop} (h : (Sum.inl a : Sum Int α) = .inr S) : G := by cases h
theorem inrX {α : Type} {a S : α} {G : Prop} (h : (Sum.inr a : Sum Int α) = .inr S) (hG : a = S → G) : G := by cases h; exact hG rfl
/-- the branches of a step -/
theorem stp_ind {lo ty nm v : Int} {x : en} {r : List en} {R : Rw} {m lw : Int} {S' : pS} {G : Prop} (h : stp lo ty nm v (x :: r, R, m, lw) = .inr S')
    (h0 : (x.1 = 99 ∨ x.1 = 118 ∨ x.1 = 111) → ty = 37 → (x :: (41, 0, 0, 0) :: r, R, m, lw) = S' → G)
    (h1 : (x.1 = 99 ∨ x.1 = 118 ∨ x.1 = 111) → ty ≠ 37 → bgn x.1 ty → ¬ much R lo m x.2.1 → (shE ty m ++ r, nodR R m ty nm v x.2.1 x.2.2.1, m + 1, lw) = S' → G)
    (h2 : x.1 = 107 → ty = 40 → (r, R, m, lw) = S' → G)
    (h3 : x.1 = 107 → ty = 31 → ¬ much R lo m x.2.1 → R 3 x.2.1 < 8 → ((97, m, 0, 1) :: x :: r, caseR R m x.2.1, m + 1, lw) = S' → G)
    (h4 : x.1 = 97 → 28 ≤ ty ∧ ty ≤ 30 → (shE ty x.2.1 ++ r, im_u R 0 x.2.1 ty, m, lw) = S' → G)
    (h5 : x.1 = 116 → ty = 35 → (r, im_u R 5 x.2.1 nm, m, lw) = S' → G)
    (h6 : x.1 = 116 → ty = 34 → asT v ≠ -1 → (r, im_u R 4 x.2.1 (asT v), m, lw) = S' → G)
    (h7 : x.1 = 98 → ty = 40 → 0 < R 6 x.2.1 → (r, R, m, lw) = S' → G)
    (h8 : x.1 = 98 → ty = 34 → R 6 x.2.1 < 4 → ((104, x.2.1, 0, 3) :: x :: r, im_u R (8 + (R 6 x.2.1).toNat) x.2.1 v, m, v) = S' → G)
    (h9 : x.1 = 104 → ty = 34 → ¬ v < lw → (r, im_u (im_u R (12 + (R 6 x.2.1).toNat) x.2.1 v) 6 x.2.1 (R 6 x.2.1 + 1), m, lw) = S' → G)
    (h10 : x.1 = 41 → ty = 38 → (r, R, m, lw) = S' → G)
    (h11 : x.1 = 100 → ty = 32 ∨ ty = 33 → (r, im_u R 3 x.2.1 (if ty = 33 then 1 else 0), m, lw) = S' → G)
    (h12 : x.1 = 91 → ty = 39 → (r, R, m, lw) = S' → G)
    (h13 : x.1 ≠ 99 → x.1 ≠ 118 → x.1 ≠ 111 → x.1 ≠ 107 → x.1 ≠ 97 → x.1 ≠ 116 → x.1 ≠ 98 → x.1 ≠ 104 → x.1 ≠ 41 → x.1 ≠ 100 → x.1 ≠ 91 → ty = 36 → (r, im_u R (if x.1 = 49 then 4 else if x.1 = 50 then 5 else 6) x.2.1 nm, m, lw) = S' → G) : G := by
  refine ifS h (fun c h => ifS h (fun c1 h => inrX h (h0 c c1)) (fun c1 h => ifS h (fun _ h => inlX h) (fun c2 h => ifS h (fun _ h => inlX h) (fun c3 h => inrX h (h1 c c1 (Decidable.of_not_not c2) c3))))) (fun n0 h => ?_)
  refine ifS h (fun c h => ifS h (fun c1 h => inrX h (h2 c c1)) (fun c1 h => ifS h (fun _ h => inlX h) (fun c2 h => ifS h (fun _ h => inlX h) (fun c3 h => ifS h (fun _ h => inlX h) (fun c4 h => inrX h (h3 c (by omega) c3 (by omega))))))) (fun n1 h => ?_)
  refine ifS h (fun c h => ifS h (fun c1 h => inrX h (h4 c c1)) (fun c1 h => inlX h)) (fun n2 h => ?_)
  refine ifS h (fun c h => ifS h (fun c1 h => inrX h (h5 c c1)) (fun c1 h => ifS h (fun _ h => inlX h) (fun c2 h => ifS h (fun _ h => inlX h) (fun c3 h => inrX h (h6 c (by omega) c3))))) (fun n3 h => ?_)
  refine ifS h (fun c h => ifS h (fun c1 h => inrX h (h7 c c1.1 c1.2)) (fun c1 h => ifS h (fun _ h => inlX h) (fun c2 h => ifS h (fun _ h => inlX h) (fun c3 h => inrX h (h8 c (by omega) (by omega)))))) (fun n4 h => ?_)
  refine ifS h (fun c h => ifS h (fun _ h => inlX h) (fun c1 h => ifS h (fun _ h => inlX h) (fun c2 h => inrX h (h9 c (by omega) c2)))) (fun n5 h => ?_)
  refine ifS h (fun c h => ifS h (fun c1 h => inrX h (h10 c c1)) (fun c1 h => inlX h)) (fun n6 h => ?_)
  refine ifS h (fun c h => ifS h (fun c1 h => inrX h (h11 c c1)) (fun c1 h => inlX h)) (fun n7 h => ?_)
  refine ifS h (fun c h => ifS h (fun c1 h => inrX h (h12 c c1)) (fun c1 h => inlX h)) (fun n8 h => ?_)
  exact ifS h (fun c h => inrX h (h13 (by omega) (by omega) (by omega) n1 n2 n3 n4 n5 n6 n7 n8 c)) (fun c1 h => inlX h)
/-- over a choice's bounds stand but its names and its sign -/
def u98 : List en → Prop
  | [] => True
  | x :: r => u98 r ∧ ((∃ y ∈ r, y.1 = 98) → x.1 = 49 ∨ x.1 = 50 ∨ x.1 = 91 ∨ x.1 = 104)
theorem u98_no : ∀ (L : List en), (∀ y ∈ L, y.1 ≠ 98) → u98 L := by
  intro L
  induction L with
  | nil => intro _; trivial
  | cons x r ih => intro h; exact ⟨ih (fun y hy => h y (List.mem_cons_of_mem _ hy)), fun ⟨y, hy, h98⟩ => absurd h98 (h y (List.mem_cons_of_mem _ hy))⟩
def nq : List en → Int
  | [] => 0
  | x :: r => nq r + if x.1 = 41 then 1 else 0
theorem nq_nn : ∀ (L : List en), 0 ≤ nq L := by
  intro L
  induction L with
  | nil => exact Int.le_refl _
  | cons x r ih => show 0 ≤ nq r + _; split <;> omega
theorem nq_app : ∀ (l r : List en), (∀ x ∈ l, x.1 ≠ 41) → nq (l ++ r) = nq r := by
  intro l r
  induction l with
  | nil => intro _; rfl
  | cons x l ih =>
    intro h
    show nq (l ++ r) + _ = _
    rw [ih (fun y hy => h y (List.mem_cons_of_mem _ hy)), if_neg (h x List.mem_cons_self)]
    omega
def rtS (lo : Int) (S : pS) : Prop := (∃ r, S.1 = (99, -1, 0, 1) :: r ∧ (∀ y ∈ r, y.1 = 41) ∧ S.2.2.1 = lo) ∨ (lo < S.2.2.1 ∧ ∀ x ∈ S.1, x.1 ≠ 41 → x.2.1 ≠ -1)
def Q2 (lo : Int) (S : pS) : Prop := u98 S.1 ∧ rtS lo S
theorem shE_mem {k n : Int} {x : en} (h : x ∈ shE k n) : x.2.1 = n ∧ ∃ y ∈ shp k, x.1 = y.1 := by
  obtain ⟨y, hy, rfl⟩ := List.mem_map.mp h
  exact ⟨rfl, y, hy, rfl⟩
theorem shp_98 (k : Int) : ∀ x ∈ shp k, x.1 ≠ 98 ∨ k = 29 := by
  refine shp_ind (P := fun k l => ∀ x ∈ l, x.1 ≠ 98 ∨ k = 29) k (fun _ => ?_) (fun _ => ?_) (fun _ => ?_) (fun _ => ?_) (fun _ => ?_) (fun _ => ?_) (fun _ => ?_) (fun _ => ?_) (fun _ => ?_) (fun _ => ?_) (fun _ => ?_) (fun _ => ?_) (fun _ => ?_) (fun _ => ?_) (fun h _ _ => Or.inr h) (fun _ x hx => by cases hx) <;> (intro x hx; simp only [List.mem_cons, List.not_mem_nil, or_false] at hx; refine Or.inl ?_; (repeat' (rcases hx with rfl | hx)) <;> first | (subst hx; decide) | decide)
theorem nq_stp {lo ty nm v : Int} {x : en} {r : List en} {R : Rw} {m lw : Int} {S' : pS} (h : stp lo ty nm v (x :: r, R, m, lw) = .inr S') : nq S'.1 ≤ nq (x :: r) + 1 := by
  have hx : nq (x :: r) = nq r + if x.1 = 41 then 1 else 0 := rfl
  have hx0 : nq r ≤ nq (x :: r) := by rw [hx]; split <;> omega
  have hsh : ∀ k n : Int, k ≠ 31 → nq (shE k n ++ r) = nq r := fun k n hk => nq_app _ _ (fun y hy => by
    obtain ⟨_, z, hz, e⟩ := shE_mem hy
    rw [e]
    exact shp_41 k z hz)
  refine stp_ind h (fun _ _ e => ?_) (fun _ _ hb _ e => ?_) (fun _ _ e => ?_) (fun _ _ _ _ e => ?_) (fun _ hb e => ?_) (fun _ _ e => ?_) (fun _ _ _ e => ?_) (fun _ _ _ e => ?_) (fun _ _ _ e => ?_) (fun _ _ _ e => ?_) (fun _ _ e => ?_) (fun _ _ e => ?_) (fun _ _ e => ?_) (fun _ _ _ _ _ _ _ _ _ _ _ _ e => ?_) <;> subst e <;> dsimp only
  · show nq r + _ + _ ≤ _; rw [hx]; rw [if_pos (show ((41, 0, 0, 0) : en).1 = 41 from rfl)]; omega
  · rw [hsh ty m (by intro z; subst z; unfold bgn at hb; omega)]; omega
  · omega
  · show nq (x :: r) + _ ≤ _; rw [if_neg (show ((97, m, 0, 1) : en).1 ≠ 41 from by show (97 : Int) ≠ 41; decide)]; omega
  · rw [hsh ty x.2.1 (by omega)]; omega
  · omega
  · omega
  · omega
  · show nq (x :: r) + _ ≤ _; rw [if_neg (show ((104, x.2.1, 0, 3) : en).1 ≠ 41 from by show (104 : Int) ≠ 41; decide)]; omega
  · omega
  · omega
  · omega
  · omega
  · omega
theorem Q2_stp {lo ty nm v : Int} {x : en} {r : List en} {R : Rw} {m lw : Int} {S' : pS} (h : stp lo ty nm v (x :: r, R, m, lw) = .inr S') (hw : wfS lo (x :: r, R, m, lw)) (hq : Q2 lo (x :: r, R, m, lw)) : Q2 lo S' := by
  obtain ⟨⟨hu, hx98⟩, hrt⟩ := hq
  have hlo : 0 ≤ lo := hw.1
  have hlm : lo ≤ m := hw.2.1
  have hno : (x.1 ≠ 49 ∧ x.1 ≠ 50 ∧ x.1 ≠ 91 ∧ x.1 ≠ 104) → ∀ y ∈ r, y.1 ≠ 98 := fun hc y hy h98 => by
    have := hx98 ⟨y, hy, h98⟩
    omega
  have hpop : x.1 ≠ 99 → ∀ R' lw', rtS lo (r, R', m, lw') := fun hx R' lw' => by
    rcases hrt with ⟨r', e, _⟩ | ⟨a, b⟩
    · dsimp only at e
      rw [(List.cons.inj e).1] at hx
      exact absurd rfl hx
    · exact Or.inr ⟨a, fun y hy => b y (List.mem_cons_of_mem _ hy)⟩
  have hr1 : ∀ y ∈ r, y.1 ≠ 41 → y.2.1 ≠ -1 := by
    rcases hrt with ⟨r', e, h1, _⟩ | ⟨a, b⟩
    · dsimp only at e
      rw [(List.cons.inj e).2]
      exact fun y hy h41 => absurd (h1 y hy) h41
    · exact fun y hy => b y (List.mem_cons_of_mem _ hy)
  refine stp_ind h (fun hx hty e => ?_) (fun hx _ hb _ e => ?_) (fun hx _ e => ?_) (fun hx _ _ _ e => ?_) (fun hx hb e => ?_) (fun hx _ e => ?_) (fun hx _ _ e => ?_) (fun hx _ _ e => ?_) (fun hx _ _ e => ?_) (fun hx _ _ e => ?_) (fun hx _ e => ?_) (fun hx _ e => ?_) (fun hx _ e => ?_) (fun hx _ _ _ _ _ _ _ _ _ _ _ e => ?_) <;> subst e
  · have hn := hno (by omega)
    refine ⟨u98_no _ (fun y hy => ?_), ?_⟩
    · rcases List.mem_cons.mp hy with z | hy
      · rw [z]; omega
      · rcases List.mem_cons.mp hy with z | hy
        · rw [z]; decide
        · exact hn y hy
    · rcases hrt with ⟨r', e, h1, h2⟩ | ⟨a, b⟩
      · dsimp only at e
        obtain ⟨e1, e2⟩ := List.cons.inj e
        refine Or.inl ⟨(41, 0, 0, 0) :: r, by rw [e1], fun y hy => ?_, h2⟩
        rcases List.mem_cons.mp hy with z | hy
        · rw [z]
        · exact h1 y (e2 ▸ hy)
      · refine Or.inr ⟨a, fun y hy h41 => ?_⟩
        rcases List.mem_cons.mp hy with z | hy
        · exact b y (by rw [z]; exact List.mem_cons_self) h41
        · rcases List.mem_cons.mp hy with z | hy
          · rw [z] at h41; exact absurd rfl h41
          · exact b y (List.mem_cons_of_mem _ hy) h41
  · have hn := hno (by omega)
    refine ⟨u98_no _ (fun y hy => ?_), Or.inr ⟨by show lo < m + 1; omega, fun y hy h41 => ?_⟩⟩
    · rcases List.mem_append.mp hy with hy | hy
      · obtain ⟨_, z, hz, e⟩ := shE_mem hy
        rw [e]
        rcases shp_98 ty z hz with w | w
        · exact w
        · subst w; unfold bgn at hb; omega
      · exact hn y hy
    · rcases List.mem_append.mp hy with hy | hy
      · rw [(shE_mem hy).1]; omega
      · exact hr1 y hy h41
  · exact ⟨hu, hpop (by omega) _ _⟩
  · have hn := hno (by omega)
    refine ⟨u98_no _ (fun y hy => ?_), Or.inr ⟨by show lo < m + 1; omega, fun y hy h41 => ?_⟩⟩
    · rcases List.mem_cons.mp hy with z | hy
      · rw [z]; show (97 : Int) ≠ 98; decide
      · rcases List.mem_cons.mp hy with z | hy
        · rw [z]; omega
        · exact hn y hy
    · rcases List.mem_cons.mp hy with z | hy
      · rw [z]; show m ≠ -1; omega
      · rcases List.mem_cons.mp hy with z | hy
        · obtain ⟨_, _, w⟩ := hw.2.2.2.2.2.1 x List.mem_cons_self (by omega)
          rw [z]; omega
        · exact hr1 y hy h41
  · have hn := hno (by omega)
    obtain ⟨_, _, w⟩ := hw.2.2.2.2.2.1 x List.mem_cons_self (by omega)
    dsimp only at w
    refine ⟨?_, Or.inr ⟨by show lo < m; omega, fun y hy h41 => ?_⟩⟩
    · by_cases h29 : ty = 29
      · subst h29
        have hf : ∀ (l : List en), (∀ y ∈ l, y.1 ≠ 98) → u98 l := u98_no
        have h0 : u98 ((99, x.2.1, 2, 1) :: r) := u98_no _ (fun y hy => by
          rcases List.mem_cons.mp hy with z | hy
          · rw [z]; show (99 : Int) ≠ 98; decide
          · exact hn y hy)
        have h1 : u98 ((98, x.2.1, 0, 2) :: (99, x.2.1, 2, 1) :: r) := ⟨h0, fun ⟨y, hy, h98⟩ => by
          exfalso
          rcases List.mem_cons.mp hy with z | hy
          · rw [z] at h98; exact absurd (show (99 : Int) = 98 from h98) (by decide)
          · exact hn y hy h98⟩
        exact ⟨⟨⟨h1, fun _ => Or.inr (Or.inr (Or.inl rfl))⟩, fun _ => Or.inr (Or.inl rfl)⟩, fun _ => Or.inl rfl⟩
      · refine u98_no _ (fun y hy => ?_)
        rcases List.mem_append.mp hy with hy | hy
        · obtain ⟨_, z, hz, e⟩ := shE_mem hy
          rw [e]
          rcases shp_98 ty z hz with w | w
          · exact w
          · exact absurd w h29
        · exact hn y hy
    · rcases List.mem_append.mp hy with hy | hy
      · rw [(shE_mem hy).1]; omega
      · exact hr1 y hy h41
  · exact ⟨hu, hpop (by omega) _ _⟩
  · exact ⟨hu, hpop (by omega) _ _⟩
  · exact ⟨hu, hpop (by omega) _ _⟩
  · have hn := hno (by omega)
    obtain ⟨_, _, w⟩ := hw.2.2.2.2.2.1 x List.mem_cons_self (by omega)
    dsimp only at w
    refine ⟨⟨⟨hu, hx98⟩, fun _ => Or.inr (Or.inr (Or.inr rfl))⟩, Or.inr ⟨by show lo < m; omega, fun y hy h41 => ?_⟩⟩
    rcases List.mem_cons.mp hy with z | hy
    · rw [z]; show x.2.1 ≠ -1; omega
    · rcases List.mem_cons.mp hy with z | hy
      · rw [z]; omega
      · exact hr1 y hy h41
  · exact ⟨hu, hpop (by omega) _ _⟩
  · exact ⟨hu, hpop (by omega) _ _⟩
  · exact ⟨hu, hpop (by omega) _ _⟩
  · exact ⟨hu, hpop (by omega) _ _⟩
  · exact ⟨hu, hpop (by omega) _ _⟩
