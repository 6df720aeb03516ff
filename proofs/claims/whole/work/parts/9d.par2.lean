/-! the parser's abstract machine keeps these -/
def sgk (R : Rw) (x : en) : Prop := (x.1 = 107 → R 0 x.2.1 = 3) ∧ (x.1 = 97 → R 0 x.2.1 = 31 ∧ R 6 x.2.1 = 0) ∧ (x.1 = 98 ∨ x.1 = 104 → R 0 x.2.1 = 29 ∧ 0 ≤ R 6 x.2.1 ∧ R 6 x.2.1 ≤ 4) ∧ (x.1 = 104 → R 6 x.2.1 ≤ 3) ∧ (x.1 = 116 → R 0 x.2.1 = 3) ∧ (x.1 = 100 → R 0 x.2.1 = 1) ∧ (x.1 = 51 → R 0 x.2.1 = 1 ∨ R 0 x.2.1 = 28) ∧ (x.1 = 99 ∨ x.1 = 118 ∨ x.1 = 111 ∨ x.1 = 107 ∨ x.1 = 97 ∨ x.1 = 116 ∨ x.1 = 98 ∨ x.1 = 104 ∨ x.1 = 100 ∨ x.1 = 91 ∨ x.1 = 49 ∨ x.1 = 50 ∨ x.1 = 51) ∧ ((x.1 = 99 ∨ x.1 = 118 ∨ x.1 = 111) → 1 ≤ x.2.2.1 ∧ x.2.2.1 ≤ 3) ∧ ((x.1 = 49 ∨ x.1 = 50 ∨ x.1 = 51) → x.2.2.1 = x.1 - 48) ∧ (x.1 = 97 → x.2.2.2 = 1) ∧ (x.1 = 98 → x.2.2.2 = 2) ∧ (x.1 = 107 → x.2.2.2 = 3)
def ent (R : Rw) (lo m : Int) (x : en) : Prop := 1 ≤ x.2.2.2 ∧ x.2.2.2 ≤ 6 ∧ ((x.1 = 99 ∧ x.2.1 = -1) ∨ (lo ≤ x.2.1 ∧ x.2.1 < m ∧ sgk R x))
def hst : List en → Prop
  | [] => True
  | x :: r => (x.1 = 104 → ∃ y r', r = y :: r' ∧ y.1 = 98 ∧ y.2.1 = x.2.1) ∧ ∀ y ∈ r, y.1 ≠ 104
def wfS (lo : Int) (S : pS) : Prop := 0 ≤ lo ∧ lo ≤ S.2.2.1 ∧ S.2.2.1 ≤ lo + 1000 ∧ S.2.2.1 ≤ 5000 ∧ (∃ c, c ≤ 407 ∧ chn S.2.1 c S.1) ∧ (∀ x ∈ S.1, x.1 ≠ 41 → ent S.2.1 lo S.2.2.1 x) ∧ (∀ i, lo ≤ i → i < S.2.2.1 → 0 ≤ S.2.1 1 i ∧ S.2.1 1 i ≤ 100) ∧ hst S.1
theorem chn_lt {R : Rw} : ∀ (r : List en) {b : Int}, chn R b r → ∀ y ∈ r, y.1 ≠ 41 → phi R y < b := by
  intro r
  induction r with
  | nil => intro b _ y hy; cases hy
  | cons x r ih =>
    intro b h y hy h41
    rcases h with ⟨h1, h2⟩ | ⟨h1, h2, h3, h4, h5⟩
    · rcases List.mem_cons.mp hy with z | z
      · rw [z] at h41; exact absurd h1 h41
      · exact ih h2 y z h41
    · rcases List.mem_cons.mp hy with z | z
      · rw [z]; exact h2
      · have := ih h5 y z h41; omega
/-- by the kinds of nodes -/
theorem shp_ind {P : Int → List (Int × Int × Int) → Prop} (k : Int)
    (h0 : k = 1 → P k [(49, 1, 6), (100, 0, 5), (50, 2, 4), (51, 3, 3), (118, 1, 2), (99, 2, 1)])
    (h1 : k = 2 → P k [(111, 1, 3), (99, 2, 2), (99, 3, 1)])
    (h2 : k = 3 → P k [(91, 0, 4), (107, 0, 3), (116, 0, 2), (99, 2, 1)])
    (h3 : k = 4 → P k [(49, 1, 3), (118, 1, 2), (99, 2, 1)])
    (h4 : k = 5 ∨ k = 30 → P k [(111, 1, 2), (99, 2, 1)])
    (h5 : k = 6 ∨ k = 12 ∨ k = 20 → P k [(49, 1, 2), (50, 2, 1)])
    (h6 : k = 7 → P k [(118, 1, 1)])
    (h7 : k = 15 → P k [(49, 1, 1)])
    (h8 : k = 16 → P k [(111, 1, 3), (118, 2, 2), (118, 3, 1)])
    (h9 : k = 17 ∨ k = 18 → P k [(111, 1, 2), (111, 2, 1)])
    (h10 : k = 19 → P k [(111, 1, 1)])
    (h11 : (8 ≤ k ∧ k ≤ 11) ∨ (21 ≤ k ∧ k ≤ 25) → P k [(118, 1, 2), (118, 2, 1)])
    (h12 : k = 31 → P k [(97, 0, 1)])
    (h13 : k = 28 → P k [(49, 1, 5), (50, 2, 4), (51, 3, 3), (118, 1, 2), (99, 2, 1)])
    (h14 : k = 29 → P k [(49, 1, 5), (50, 2, 4), (91, 0, 3), (98, 0, 2), (99, 2, 1)])
    (hn : (k < 1 ∨ 31 < k ∨ k = 13 ∨ k = 14 ∨ k = 26 ∨ k = 27) → P k []) : P k (shp k) := by
  unfold shp
  by_cases c0 : k = 1
  · rw [if_pos c0]; exact h0 c0
  rw [if_neg c0]
  by_cases c1 : k = 2
  · rw [if_pos c1]; exact h1 c1
  rw [if_neg c1]
  by_cases c2 : k = 3
  · rw [if_pos c2]; exact h2 c2
  rw [if_neg c2]
  by_cases c3 : k = 4
  · rw [if_pos c3]; exact h3 c3
  rw [if_neg c3]
  by_cases c4 : k = 5 ∨ k = 30
  · rw [if_pos c4]; exact h4 c4
  rw [if_neg c4]
  by_cases c5 : k = 6 ∨ k = 12 ∨ k = 20
  · rw [if_pos c5]; exact h5 c5
  rw [if_neg c5]
  by_cases c6 : k = 7
  · rw [if_pos c6]; exact h6 c6
  rw [if_neg c6]
  by_cases c7 : k = 15
  · rw [if_pos c7]; exact h7 c7
  rw [if_neg c7]
  by_cases c8 : k = 16
  · rw [if_pos c8]; exact h8 c8
  rw [if_neg c8]
  by_cases c9 : k = 17 ∨ k = 18
  · rw [if_pos c9]; exact h9 c9
  rw [if_neg c9]
  by_cases c10 : k = 19
  · rw [if_pos c10]; exact h10 c10
  rw [if_neg c10]
  by_cases c11 : (8 ≤ k ∧ k ≤ 11) ∨ (21 ≤ k ∧ k ≤ 25)
  · rw [if_pos c11]; exact h11 c11
  rw [if_neg c11]
  by_cases c12 : k = 31
  · rw [if_pos c12]; exact h12 c12
  rw [if_neg c12]
  by_cases c13 : k = 28
  · rw [if_pos c13]; exact h13 c13
  rw [if_neg c13]
  by_cases c14 : k = 29
  · rw [if_pos c14]; exact h14 c14
  rw [if_neg c14]
  exact hn (by omega)
/-- a new node's signs -/
theorem shE_ok {R : Rw} {ty m : Int} (h0 : R 0 m = ty) (h6 : R 6 m = 0) : ∀ x ∈ shE ty m, x.2.1 = m ∧ 1 ≤ x.2.2.2 ∧ x.2.2.2 ≤ 6 ∧ x.1 ≠ 41 ∧ x.1 ≠ 104 ∧ sgk R x := by
  have key : ∀ y ∈ shp ty, 1 ≤ y.2.2 ∧ y.2.2 ≤ 6 ∧ y.1 ≠ 41 ∧ y.1 ≠ 104 ∧ sgk R (y.1, m, y.2.1, y.2.2) := by
    refine shp_ind (P := fun k l => k = ty → ∀ y ∈ l, 1 ≤ y.2.2 ∧ y.2.2 ≤ 6 ∧ y.1 ≠ 41 ∧ y.1 ≠ 104 ∧ sgk R (y.1, m, y.2.1, y.2.2)) ty
      (fun hk _ y hy => ?_)
      (fun hk _ y hy => ?_)
      (fun hk _ y hy => ?_)
      (fun hk _ y hy => ?_)
      (fun hk _ y hy => ?_)
      (fun hk _ y hy => ?_)
      (fun hk _ y hy => ?_)
      (fun hk _ y hy => ?_)
      (fun hk _ y hy => ?_)
      (fun hk _ y hy => ?_)
      (fun hk _ y hy => ?_)
      (fun hk _ y hy => ?_)
      (fun hk _ y hy => ?_)
      (fun hk _ y hy => ?_)
      (fun hk _ y hy => ?_)
      (fun hk _ y hy => absurd hy (fun z => by cases z)) rfl
    · simp only [List.mem_cons, List.not_mem_nil, or_false] at hy
      rcases hy with rfl | rfl | rfl | rfl | rfl | rfl <;> (refine ⟨by decide, by decide, by decide, by decide, ?_, ?_, ?_, ?_, ?_, ?_, ?_, ?_, ?_, ?_, ?_, ?_, ?_⟩ <;> dsimp only <;> first | decide | (intro h; first | exact absurd h (by decide) | omega | (constructor <;> omega) | (refine ⟨by omega, by omega, by omega⟩)))
    · simp only [List.mem_cons, List.not_mem_nil, or_false] at hy
      rcases hy with rfl | rfl | rfl <;> (refine ⟨by decide, by decide, by decide, by decide, ?_, ?_, ?_, ?_, ?_, ?_, ?_, ?_, ?_, ?_, ?_, ?_, ?_⟩ <;> dsimp only <;> first | decide | (intro h; first | exact absurd h (by decide) | omega | (constructor <;> omega) | (refine ⟨by omega, by omega, by omega⟩)))
    · simp only [List.mem_cons, List.not_mem_nil, or_false] at hy
      rcases hy with rfl | rfl | rfl | rfl <;> (refine ⟨by decide, by decide, by decide, by decide, ?_, ?_, ?_, ?_, ?_, ?_, ?_, ?_, ?_, ?_, ?_, ?_, ?_⟩ <;> dsimp only <;> first | decide | (intro h; first | exact absurd h (by decide) | omega | (constructor <;> omega) | (refine ⟨by omega, by omega, by omega⟩)))
    · simp only [List.mem_cons, List.not_mem_nil, or_false] at hy
      rcases hy with rfl | rfl | rfl <;> (refine ⟨by decide, by decide, by decide, by decide, ?_, ?_, ?_, ?_, ?_, ?_, ?_, ?_, ?_, ?_, ?_, ?_, ?_⟩ <;> dsimp only <;> first | decide | (intro h; first | exact absurd h (by decide) | omega | (constructor <;> omega) | (refine ⟨by omega, by omega, by omega⟩)))
    · simp only [List.mem_cons, List.not_mem_nil, or_false] at hy
      rcases hy with rfl | rfl <;> (refine ⟨by decide, by decide, by decide, by decide, ?_, ?_, ?_, ?_, ?_, ?_, ?_, ?_, ?_, ?_, ?_, ?_, ?_⟩ <;> dsimp only <;> first | decide | (intro h; first | exact absurd h (by decide) | omega | (constructor <;> omega) | (refine ⟨by omega, by omega, by omega⟩)))
    · simp only [List.mem_cons, List.not_mem_nil, or_false] at hy
      rcases hy with rfl | rfl <;> (refine ⟨by decide, by decide, by decide, by decide, ?_, ?_, ?_, ?_, ?_, ?_, ?_, ?_, ?_, ?_, ?_, ?_, ?_⟩ <;> dsimp only <;> first | decide | (intro h; first | exact absurd h (by decide) | omega | (constructor <;> omega) | (refine ⟨by omega, by omega, by omega⟩)))
    · simp only [List.mem_cons, List.not_mem_nil, or_false] at hy
      rcases hy with rfl <;> (refine ⟨by decide, by decide, by decide, by decide, ?_, ?_, ?_, ?_, ?_, ?_, ?_, ?_, ?_, ?_, ?_, ?_, ?_⟩ <;> dsimp only <;> first | decide | (intro h; first | exact absurd h (by decide) | omega | (constructor <;> omega) | (refine ⟨by omega, by omega, by omega⟩)))
    · simp only [List.mem_cons, List.not_mem_nil, or_false] at hy
      rcases hy with rfl <;> (refine ⟨by decide, by decide, by decide, by decide, ?_, ?_, ?_, ?_, ?_, ?_, ?_, ?_, ?_, ?_, ?_, ?_, ?_⟩ <;> dsimp only <;> first | decide | (intro h; first | exact absurd h (by decide) | omega | (constructor <;> omega) | (refine ⟨by omega, by omega, by omega⟩)))
    · simp only [List.mem_cons, List.not_mem_nil, or_false] at hy
      rcases hy with rfl | rfl | rfl <;> (refine ⟨by decide, by decide, by decide, by decide, ?_, ?_, ?_, ?_, ?_, ?_, ?_, ?_, ?_, ?_, ?_, ?_, ?_⟩ <;> dsimp only <;> first | decide | (intro h; first | exact absurd h (by decide) | omega | (constructor <;> omega) | (refine ⟨by omega, by omega, by omega⟩)))
    · simp only [List.mem_cons, List.not_mem_nil, or_false] at hy
      rcases hy with rfl | rfl <;> (refine ⟨by decide, by decide, by decide, by decide, ?_, ?_, ?_, ?_, ?_, ?_, ?_, ?_, ?_, ?_, ?_, ?_, ?_⟩ <;> dsimp only <;> first | decide | (intro h; first | exact absurd h (by decide) | omega | (constructor <;> omega) | (refine ⟨by omega, by omega, by omega⟩)))
    · simp only [List.mem_cons, List.not_mem_nil, or_false] at hy
      rcases hy with rfl <;> (refine ⟨by decide, by decide, by decide, by decide, ?_, ?_, ?_, ?_, ?_, ?_, ?_, ?_, ?_, ?_, ?_, ?_, ?_⟩ <;> dsimp only <;> first | decide | (intro h; first | exact absurd h (by decide) | omega | (constructor <;> omega) | (refine ⟨by omega, by omega, by omega⟩)))
    · simp only [List.mem_cons, List.not_mem_nil, or_false] at hy
      rcases hy with rfl | rfl <;> (refine ⟨by decide, by decide, by decide, by decide, ?_, ?_, ?_, ?_, ?_, ?_, ?_, ?_, ?_, ?_, ?_, ?_, ?_⟩ <;> dsimp only <;> first | decide | (intro h; first | exact absurd h (by decide) | omega | (constructor <;> omega) | (refine ⟨by omega, by omega, by omega⟩)))
    · simp only [List.mem_cons, List.not_mem_nil, or_false] at hy
      rcases hy with rfl <;> (refine ⟨by decide, by decide, by decide, by decide, ?_, ?_, ?_, ?_, ?_, ?_, ?_, ?_, ?_, ?_, ?_, ?_, ?_⟩ <;> dsimp only <;> first | decide | (intro h; first | exact absurd h (by decide) | omega | (constructor <;> omega) | (refine ⟨by omega, by omega, by omega⟩)))
    · simp only [List.mem_cons, List.not_mem_nil, or_false] at hy
      rcases hy with rfl | rfl | rfl | rfl | rfl <;> (refine ⟨by decide, by decide, by decide, by decide, ?_, ?_, ?_, ?_, ?_, ?_, ?_, ?_, ?_, ?_, ?_, ?_, ?_⟩ <;> dsimp only <;> first | decide | (intro h; first | exact absurd h (by decide) | omega | (constructor <;> omega) | (refine ⟨by omega, by omega, by omega⟩)))
    · simp only [List.mem_cons, List.not_mem_nil, or_false] at hy
      rcases hy with rfl | rfl | rfl | rfl | rfl <;> (refine ⟨by decide, by decide, by decide, by decide, ?_, ?_, ?_, ?_, ?_, ?_, ?_, ?_, ?_, ?_, ?_, ?_, ?_⟩ <;> dsimp only <;> first | decide | (intro h; first | exact absurd h (by decide) | omega | (constructor <;> omega) | (refine ⟨by omega, by omega, by omega⟩)))
  intro x hx
  unfold shE at hx
  obtain ⟨y, hy, rfl⟩ := List.mem_map.mp hx
  exact ⟨rfl, key y hy⟩
/-- the new signs stand above the old ones -/
theorem chn_new {R : Rw} {ty m D c : Int} {r : List en} (hD : R 1 m = D) (hm : m ≠ -1) (hD0 : 0 ≤ D) (h : chn R c r) (hc : c ≤ 4 * D + 1) : chn R (4 * D + 7) (shE ty m ++ r) := by
  have hp : ∀ s sl rm : Int, phi R (s, m, sl, rm) = 4 * D + rm := fun s sl rm => by
    unfold phi dpt
    dsimp only
    rw [if_neg hm, hD]
  have one : ∀ (s sl rm b : Int) (l : List en), s ≠ 41 → rm < b → 1 ≤ rm → ((s = 99 ∨ s = 118 ∨ s = 111 ∨ s = 107) → rm ≤ 3) → chn R (4 * D + rm) l → chn R (4 * D + b) ((s, m, sl, rm) :: l) := by
    intro s sl rm b l h1 h2 h3 h4 h5
    refine Or.inr ⟨h1, by rw [hp]; omega, by rw [hp]; omega, h4, by rw [hp]; exact h5⟩
  have hr : chn R (4 * D + 1) r := chn_mono r h hc
  have key : ∀ k l, l = shp k → chn R (4 * D + 7) (l.map (fun x => ((x.1, m, x.2.1, x.2.2) : en)) ++ r) := by
    intro k l hl
    rw [hl]
    refine shp_ind (P := fun _ l => chn R (4 * D + 7) (l.map (fun x => ((x.1, m, x.2.1, x.2.2) : en)) ++ r)) k
      (fun _ => ?_)
      (fun _ => ?_)
      (fun _ => ?_)
      (fun _ => ?_)
      (fun _ => ?_)
      (fun _ => ?_)
      (fun _ => ?_)
      (fun _ => ?_)
      (fun _ => ?_)
      (fun _ => ?_)
      (fun _ => ?_)
      (fun _ => ?_)
      (fun _ => ?_)
      (fun _ => ?_)
      (fun _ => ?_)
      (fun _ => chn_mono r hr (by omega))
    · refine one 49 1 6 7 _ (by decide) (by decide) (by decide) (by decide) ?_
      refine one 100 0 5 6 _ (by decide) (by decide) (by decide) (by decide) ?_
      refine one 50 2 4 5 _ (by decide) (by decide) (by decide) (by decide) ?_
      refine one 51 3 3 4 _ (by decide) (by decide) (by decide) (by decide) ?_
      refine one 118 1 2 3 _ (by decide) (by decide) (by decide) (by decide) ?_
      refine one 99 2 1 2 _ (by decide) (by decide) (by decide) (by decide) ?_
      exact chn_mono r hr (by omega)
    · refine one 111 1 3 7 _ (by decide) (by decide) (by decide) (by decide) ?_
      refine one 99 2 2 3 _ (by decide) (by decide) (by decide) (by decide) ?_
      refine one 99 3 1 2 _ (by decide) (by decide) (by decide) (by decide) ?_
      exact chn_mono r hr (by omega)
    · refine one 91 0 4 7 _ (by decide) (by decide) (by decide) (by decide) ?_
      refine one 107 0 3 4 _ (by decide) (by decide) (by decide) (by decide) ?_
      refine one 116 0 2 3 _ (by decide) (by decide) (by decide) (by decide) ?_
      refine one 99 2 1 2 _ (by decide) (by decide) (by decide) (by decide) ?_
      exact chn_mono r hr (by omega)
    · refine one 49 1 3 7 _ (by decide) (by decide) (by decide) (by decide) ?_
      refine one 118 1 2 3 _ (by decide) (by decide) (by decide) (by decide) ?_
      refine one 99 2 1 2 _ (by decide) (by decide) (by decide) (by decide) ?_
      exact chn_mono r hr (by omega)
    · refine one 111 1 2 7 _ (by decide) (by decide) (by decide) (by decide) ?_
      refine one 99 2 1 2 _ (by decide) (by decide) (by decide) (by decide) ?_
      exact chn_mono r hr (by omega)
    · refine one 49 1 2 7 _ (by decide) (by decide) (by decide) (by decide) ?_
      refine one 50 2 1 2 _ (by decide) (by decide) (by decide) (by decide) ?_
      exact chn_mono r hr (by omega)
    · refine one 118 1 1 7 _ (by decide) (by decide) (by decide) (by decide) ?_
      exact chn_mono r hr (by omega)
    · refine one 49 1 1 7 _ (by decide) (by decide) (by decide) (by decide) ?_
      exact chn_mono r hr (by omega)
    · refine one 111 1 3 7 _ (by decide) (by decide) (by decide) (by decide) ?_
      refine one 118 2 2 3 _ (by decide) (by decide) (by decide) (by decide) ?_
      refine one 118 3 1 2 _ (by decide) (by decide) (by decide) (by decide) ?_
      exact chn_mono r hr (by omega)
    · refine one 111 1 2 7 _ (by decide) (by decide) (by decide) (by decide) ?_
      refine one 111 2 1 2 _ (by decide) (by decide) (by decide) (by decide) ?_
      exact chn_mono r hr (by omega)
    · refine one 111 1 1 7 _ (by decide) (by decide) (by decide) (by decide) ?_
      exact chn_mono r hr (by omega)
    · refine one 118 1 2 7 _ (by decide) (by decide) (by decide) (by decide) ?_
      refine one 118 2 1 2 _ (by decide) (by decide) (by decide) (by decide) ?_
      exact chn_mono r hr (by omega)
    · refine one 97 0 1 7 _ (by decide) (by decide) (by decide) (by decide) ?_
      exact chn_mono r hr (by omega)
    · refine one 49 1 5 7 _ (by decide) (by decide) (by decide) (by decide) ?_
      refine one 50 2 4 5 _ (by decide) (by decide) (by decide) (by decide) ?_
      refine one 51 3 3 4 _ (by decide) (by decide) (by decide) (by decide) ?_
      refine one 118 1 2 3 _ (by decide) (by decide) (by decide) (by decide) ?_
      refine one 99 2 1 2 _ (by decide) (by decide) (by decide) (by decide) ?_
      exact chn_mono r hr (by omega)
    · refine one 49 1 5 7 _ (by decide) (by decide) (by decide) (by decide) ?_
      refine one 50 2 4 5 _ (by decide) (by decide) (by decide) (by decide) ?_
      refine one 91 0 3 4 _ (by decide) (by decide) (by decide) (by decide) ?_
      refine one 98 0 2 3 _ (by decide) (by decide) (by decide) (by decide) ?_
      refine one 99 2 1 2 _ (by decide) (by decide) (by decide) (by decide) ?_
      exact chn_mono r hr (by omega)
  exact key ty _ rfl
