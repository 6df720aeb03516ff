/-! TOTAL on the class -/
def suN (f : Nat → Int) : Nat → Int
  | 0 => 0
  | n + 1 => suN f n + f n
theorem suN_mono {f : Nat → Int} {n k : Nat} (h : ∀ i, i < n → 0 ≤ f i) (hk : k ≤ n) : suN f k ≤ suN f n ∧ 0 ≤ suN f k := by
  induction n with
  | zero => have : k = 0 := by omega
            subst this; exact ⟨Int.le_refl _, Int.le_refl _⟩
  | succ n ih =>
    by_cases c : k = n + 1
    · subst c
      have := ih (fun i hi => h i (by omega))
      refine ⟨Int.le_refl _, ?_⟩
      show 0 ≤ suN f n + f n
      have h1 := h n (by omega)
      by_cases c0 : n = 0
      · subst c0; show 0 ≤ (0 : Int) + f 0; omega
      · have h2 : 0 ≤ suN f n := by
          clear ih this
          have key : ∀ m, m ≤ n → 0 ≤ suN f m := by
            intro m
            induction m with
            | zero => intro _; exact Int.le_refl _
            | succ m ihm => intro hm; have a := ihm (by omega); have b := h m (by omega); show 0 ≤ suN f m + f m; omega
          exact key n (Nat.le_refl _)
        omega
    · have := ih (fun i hi => h i (by omega)) (by omega)
      refine ⟨?_, this.2⟩
      show suN f k ≤ suN f n + f n
      have h1 := h n (by omega)
      omega
theorem suN_congr {f f' : Nat → Int} {n : Nat} (h : ∀ i, i < n → f i = f' i) : suN f n = suN f' n := by
  induction n with
  | zero => rfl
  | succ n ih => show suN f n + f n = suN f' n + f' n; rw [ih (fun i hi => h i (by omega)), h n (by omega)]
theorem suN_add {f f' : Nat → Int} {n : Nat} : suN (fun i => f i + f' i) n = suN f n + suN f' n := by
  induction n with
  | zero => rfl
  | succ n ih => show suN (fun i => f i + f' i) n + (f n + f' n) = (suN f n + f n) + (suN f' n + f' n); rw [ih]; omega
theorem suN_zero {n : Nat} : suN (fun _ => 0) n = 0 := by
  induction n with
  | zero => rfl
  | succ n ih => show suN (fun _ => 0) n + 0 = 0; rw [ih]; rfl
theorem suN_swap (h : Nat → Nat → Int) (n m : Nat) : suN (fun i => suN (fun j => h i j) m) n = suN (fun j => suN (fun i => h i j) n) m := by
  induction n with
  | zero => exact (suN_zero (n := m)).symm
  | succ n ih =>
    show suN (fun i => suN (fun j => h i j) m) n + suN (fun j => h n j) m = suN (fun j => suN (fun i => h i j) n + h n j) m
    rw [ih, suN_add]
theorem suN_one {p : Nat → Prop} [DecidablePred p] {c : Int} {n i0 : Nat} (h0 : i0 < n) (hp : p i0) (hu : ∀ i, i < n → p i → i = i0) : suN (fun i => if p i then c else 0) n = c := by
  induction n with
  | zero => omega
  | succ n ih =>
    show suN (fun i => if p i then c else 0) n + (if p n then c else 0) = c
    by_cases cn : n = i0
    · subst cn
      rw [if_pos hp]
      have : suN (fun i => if p i then c else 0) n = suN (fun _ => 0) n := suN_congr (fun i hi => by
        show (if p i then c else 0) = 0
        rw [if_neg (fun z => by have := hu i (by omega) z; omega)])
      rw [this, suN_zero, Int.zero_add]
    · rw [if_neg (fun z => cn (hu n (by omega) z)), Int.add_zero]
      exact ih (by omega) (fun i hi => hu i (by omega))
/-- a sum over places that are only another order -/
theorem suN_perm {g' : Nat → Int} {σ : Nat → Nat} {n : Nat} (hσ : ∀ i, i < n → σ i < n) (hs : ∀ j, j < n → ∃ i, i < n ∧ σ i = j) (hi : ∀ i i', i < n → i' < n → σ i = σ i' → i = i') : suN (fun i => g' (σ i)) n = suN g' n := by
  have e1 : suN (fun i => g' (σ i)) n = suN (fun i => suN (fun j => if j = σ i then g' (σ i) else 0) n) n := suN_congr (fun i hi' => (suN_one (p := fun j => j = σ i) (hσ i hi') rfl (fun _ _ z => z)).symm)
  rw [e1, suN_swap]
  refine suN_congr (fun j hj => ?_)
  obtain ⟨i0, i1, i2⟩ := hs j hj
  have e2 : suN (fun i => if j = σ i then g' (σ i) else 0) n = suN (fun i => if j = σ i then g' j else 0) n := suN_congr (fun i _ => by
    show (if j = σ i then g' (σ i) else 0) = (if j = σ i then g' j else 0)
    by_cases c : j = σ i
    · rw [if_pos c, if_pos c, c]
    · rw [if_neg c, if_neg c])
  rw [e2]
  exact suN_one (p := fun i => j = σ i) i1 i2.symm (fun i hi' z => hi i i0 hi' i1 (by rw [← z, i2]))
def tkF (β : Bk) (tk' : Int) (i : Nat) : Int := if β.2.2.1 i = tk' then β.2.2.2 i else 0
def tkS (β : Bk) (tk' : Int) : Int := suN (tkF β tk') β.1
def inF (In : Int → Ins) (tk' : Int) (i : Nat) : Int := if (In i).1 = 0 then 0 else tkS (In i).2.2.2.1 tk'
def inS (In : Int → Ins) (tk' : Int) (k : Nat) : Int := suN (inF In tk') k
noncomputable def toS (w : Wd) (tk' q : Int) : Int := if q = 3 then hld w.gMi tk' 0 else (if q = 1 then 0 else tkS w.gWa tk') + (if q = 0 then 0 else inS w.gIn tk' 16)
/-- all that there is of a token is small, and nothing is below 0 -/
def smT (w : Wd) (tk' : Int) : Prop := posb w.gWa ∧ (∀ i : Nat, i < 16 → (w.gIn i).1 ≠ 0 → posb (w.gIn i).2.2.2.1) ∧ tkS w.gWa tk' + inS w.gIn tk' 16 < LIM
theorem tkF_pos {β : Bk} (h : posb β) (tk' : Int) (i : Nat) (hi : i < β.1) : 0 ≤ tkF β tk' i := by
  unfold tkF
  split
  · have := h i (by omega) (by omega); omega
  · exact Int.le_refl _
theorem tkS_pos {β : Bk} (h : posb β) (tk' : Int) : 0 ≤ tkS β tk' := (suN_mono (tkF_pos h tk') (Nat.le_refl _)).2
theorem inF_pos {w : Wd} {tk' : Int} (h : smT w tk') (i : Nat) (hi : i < 16) : 0 ≤ inF w.gIn tk' i := by
  unfold inF
  split
  · exact Int.le_refl _
  · rename_i z; exact tkS_pos (h.2.1 i hi z) _
section TOTALC
variable {g : im_g} {d : Nat} {e : im_E} {M : im_M} {K : im_K} {w : Wd}
theorem l_addAll {a n : Nat} {β : Bk} {v tk' : Int} {M0 : im_M} (hN : bkN e a n) (hc : cb M0 a n β) (ha : a + 6 + 2 * n ≤ 2070 ∨ 2072 ≤ a) (htk : im_i64 tk') (hp : posb β) (v0 : 0 ≤ v) (hl : v + tkS β tk' < LIM) (hd : 2 ≤ d) (hn7 : n ≤ 128)
    (hK : ∀ M', NF 2070 M0 M' → cn M' 2070 (v + tkS β tk') → K (.inl none) e M') :
    ∀ (j k : Nat) (M : im_M), k + j = β.1 → NF 2070 M0 M → cn M 2070 (v + suN (tkF β tk') k) → im_T g d 233 3 [some (.ref a), some (vL tk'), none, some (.ref 2070), some (vI k)] [] e M K := by
  obtain ⟨π, ⟨h4, hkn, hπ, _, hAB⟩, hV, _⟩ := id hc
  intro j
  induction j with
  | zero =>
    intro k M hk hF hv
    have : k = β.1 := by omega
    subst this
    refine k_Book_addAll_3 hN.1 nm_2070 (by omega) ⟨by constructor <;> omega, fun _ => hK M hF hv, fun z => ?_⟩
    rw [hF a (by omega) (by omega), h4] at z; omega
  | succ j ih =>
    intro k M hk hF hv
    obtain ⟨b1, b2⟩ := hπ k (by omega)
    have b3 := (hAB k (by omega)).2
    have b4 := hV k (by omega)
    have mono := suN_mono (tkF_pos hp tk') (show k + 1 ≤ β.1 by omega)
    have mono0 := suN_mono (tkF_pos hp tk') (show k ≤ β.1 by omega)
    have es : suN (tkF β tk') (k + 1) = suN (tkF β tk') k + tkF β tk' k := rfl
    have eT : tkS β tk' = suN (tkF β tk') β.1 := rfl
    refine k_Book_addAll_3 hN.1 nm_2070 (by omega) ⟨by constructor <;> omega, fun z => ?_, fun _ => ⟨⟨by omega, by omega⟩, htk, ?_⟩⟩
    · rw [hF a (by omega) (by omega), h4] at z; omega
    rw [hF (a + 4) (by omega) (by omega), hF (a + 5) (by omega) (by omega), b3, b2]
    refine ⟨fun hne => ?_, fun heq => ⟨_, rfl, hN.2 _ b1, ?_⟩⟩
    · have e0 : tkF β tk' k = 0 := by unfold tkF; rw [if_neg hne]
      have := ih (k + 1) M (by omega) hF (by rw [es, e0, Int.add_zero]; exact hv)
      exact this
    · have e0 : tkF β tk' k = β.2.2.2 k := by unfold tkF; rw [if_pos heq]
      have hpk := hp k (by omega) (by omega)
      have hL0 := LIM_pos
      refine c_grow nm_2070 (hN.2 _ b1) (by omega) hv (cn_congr b4 (hF _ (by omega) (by omega)) (hF _ (by omega) (by omega))) (by omega) (by omega) (by omega) (fun _ M' F' c' => ⟨_, rfl, rfl, ?_⟩) (fun hns => ?_)
      · refine ih (k + 1) M' (by omega) (fun x p q => (F' x p q).trans (hF x p q)) ?_
        rw [es, e0, ← Int.add_assoc]; exact c'
      · exfalso
        apply hns
        constructor
        · omega
        · omega
theorem c_addAll {a n : Nat} {β : Bk} {v tk' : Int} (hN : bkN e a n) (hc : cb M a n β) (ha : a + 6 + 2 * n ≤ 2070 ∨ 2072 ≤ a) (htk : im_i64 tk') (hp : posb β) (v0 : 0 ≤ v) (hl : v + tkS β tk' < LIM) (hv : cn M 2070 v) (hd : 2 ≤ d) (hn7 : n ≤ 128)
    (hK : ∀ M', NF 2070 M M' → cn M' 2070 (v + tkS β tk') → K (.inl none) e M') : im_T g d 233 0 [some (.ref a), some (vL tk'), none, some (.ref 2070), none] [] e M K :=
  k_Book_addAll_0 hN.1 nm_2070 (l_addAll (M0 := M) hN hc ha htk hp v0 hl hd hn7 hK β.1 0 M (by omega) (fun _ _ _ => rfl) (by show cn M 2070 (v + 0); rw [Int.add_zero]; exact hv))
theorem l_total {tk' q v : Int} {M0 : im_M} (h : CW M0 e w 0) (hT : smT w tk') (hb : ∀ i : Nat, i < 16 → (w.gIn i).1 = 0 ∨ (w.gIn i).1 = 1) (htk : im_i64 tk') (hq : 0 ≤ q ∧ q ≤ 2) (hq0 : q ≠ 0) (v0 : 0 ≤ v ∧ v ≤ tkS w.gWa tk') (hd : 4 ≤ d)
    (hK : ∀ M', (∀ x, 6952 ≤ x → M' x = M0 x) → CW M' e (ouW w (nuL (v + inS w.gIn tk' 16))) 0 → K (.inl (some (vI ((nuL (v + inS w.gIn tk' 16)).length : Int)))) e M') :
    ∀ (j i : Nat) (M : im_M), i + j = 16 → NF 2070 M0 M → cn M 2070 (v + inS w.gIn tk' i) → im_T g d 232 78 [some (.ref 0), some (vL tk'), none, some (vI q), some (vI i)] [] e M K := by
  intro j
  induction j with
  | zero =>
    intro i M hi hF hv
    have : i = 16 := by omega
    subst this
    have W : CW M e w 0 := h.sm (fun x hx => hF x (by omega) (by omega)) ⟨_, hv⟩
    refine k_P_total_78 (by omega) ⟨by decide, fun z => absurd z (by decide), fun _ => c_tell W nm_2070 (by decide) hv (by omega) (fun M' f W' => ⟨_, rfl, rfl, hK M' (fun x hx => (f x hx).trans (hF x (by omega) (by omega))) W'⟩)⟩
  | succ j ih =>
    intro i M hi hF hv
    obtain ⟨a1, ⟨a2, _, _⟩, c1, _⟩ := h.2.1.2.2 i (by omega)
    have e29 : M 29 i = ((2072 + 305 * i : Nat) : Int) := by rw [hF 29 (by decide) (by decide)]; exact a1
    have eb : M (2072 + 305 * i) 6 = (w.gIn i).1 := by rw [hF _ (by omega) (by omega)]; exact a2
    have es : inS w.gIn tk' (i + 1) = inS w.gIn tk' i + inF w.gIn tk' i := rfl
    have mono := suN_mono (inF_pos hT) (show i + 1 ≤ 16 by omega)
    have mono0 := suN_mono (inF_pos hT) (show i ≤ 16 by omega)
    have e1 : inS w.gIn tk' 16 = suN (inF w.gIn tk') 16 := rfl
    have e2 : inS w.gIn tk' i = suN (inF w.gIn tk') i := rfl
    have e3 : inS w.gIn tk' (i + 1) = suN (inF w.gIn tk') (i + 1) := rfl
    refine k_P_total_78 (by omega) ⟨by constructor <;> omega, fun _ => ⟨by constructor <;> omega, fun _ => ⟨⟨by omega, by omega⟩, 2072 + 305 * i, e29, (st_inst i (by omega)).1, ?_⟩⟩, fun z => by omega⟩
    rw [eb]
    refine ⟨fun h0 => ?_, fun h1 => ⟨2072 + 305 * i, e29, (st_inst i (by omega)).1, ?_⟩⟩
    · have e0 : inF w.gIn tk' i = 0 := by unfold inF; rw [if_pos h0]
      exact ih (i + 1) M (by omega) hF (by rw [es, e0, Int.add_zero]; exact hv)
    · have e0 : inF w.gIn tk' i = tkS (w.gIn i).2.2.2.1 tk' := by unfold inF; rw [if_neg h1]
      have hlim := hT.2.2
      refine c_addAll (st_inst i (by omega)).2.1 (cb_congr c1 (fun x p q => hF x (by omega) (by omega))) (by omega) htk (hT.2.1 i (by omega) h1) (by omega) (by omega) hv (by omega) (by decide) (fun M' F' c' => ⟨rfl, rfl, ?_⟩)
      refine ih (i + 1) M' (by omega) (fun x p q => (F' x p q).trans (hF x p q)) ?_
      rw [es, e0, ← Int.add_assoc]; exact c'
theorem c_P_total {tk' q : Int} (h : CW M e w 0) (hT : smT w tk') (hb : ∀ i : Nat, i < 16 → (w.gIn i).1 = 0 ∨ (w.gIn i).1 = 1) (htk : im_i64 tk') (hq : im_i32 q) (hd : 5 ≤ d) (hd0 : w.gJr.2.2.2.2 ≠ 0 → K (.inr xS) (e ++ [im_ex]) M) (hKa : w.gJr.2.2.2.2 = 0 → ¬ (nmV tk' ∧ 0 ≤ q ∧ q ≤ 3) → K (.inr xA) (e ++ [im_ex]) M)
    (hK : w.gJr.2.2.2.2 = 0 → nmV tk' ∧ 0 ≤ q ∧ q ≤ 3 → ∀ M', (∀ x, 6952 ≤ x → M' x = M x) → CW M' e (ouW w (nuL (toS w tk' q))) 0 → K (.inl (some (vI ((nuL (toS w tk' q)).length : Int)))) e M') : im_T g d 232 0 [some (.ref 0), some (vL tk'), none, some (vI q), none] [] e M K := by
  obtain ⟨⟨_, _, _, t4⟩, _, ⟨_, b2, b3⟩, _⟩ := id h
  refine k_P_total_0 (by omega) (c_needPower h hd0 (fun hz => ⟨rfl, c_isName htk t4 (by omega) (fun hN => ⟨_, rfl, rfl, by decide, fun _ => ⟨hq, fun q0 q3 => c_needArg (by decide) (fun _ => ⟨rfl, ?_⟩) (fun z => absurd z (by decide))⟩, fun hor => c_needArg (by decide) (fun z => absurd rfl z) (fun _ => hKa hz (fun z => by have := z.2; omega))⟩) (fun hN => ⟨_, rfl, rfl, by decide, fun z => absurd rfl z, fun _ => c_needArg (by decide) (fun z => absurd rfl z) (fun _ => hKa hz (fun z => hN z.1))⟩)⟩))
  have hK := hK hz ⟨hN, q0, q3⟩
  unfold toS at hK
  have tw0 := tkS_pos hT.1 tk'
  have i16 := (suN_mono (inF_pos hT) (Nat.le_refl 16)).2
  have e16 : inS w.gIn tk' 16 = suN (inF w.gIn tk') 16 := rfl
  have hlim := hT.2.2
  refine ⟨fun h3 => c_clear nm_2070 (fun M1 f1 c1 => ⟨rfl, rfl, fun h1 => ?_, fun h1 => ?_⟩), fun h3 => ?_⟩
  · rw [if_neg h3, if_pos h1, if_neg (by omega), Int.zero_add] at hK
    have F1 : NF 2070 M M1 := fun x p q => f1 x p
    refine l_total (M0 := M) (v := 0) h hT hb htk ⟨q0, by omega⟩ (by omega) ⟨Int.le_refl _, tw0⟩ (by omega) (fun M' f W => ?_) 16 0 M1 rfl F1 (by show cn M1 2070 (0 + 0); exact c1)
    rw [Int.zero_add] at W ⊢
    exact hK M' f W
  · rw [if_neg h3, if_neg h1] at hK
    have F1 : NF 2070 M M1 := fun x p q => f1 x p
    refine c_addAll bk_76 (cb_congr b2 (fun x p q => F1 x (by omega) (by omega))) (by decide) htk hT.1 (Int.le_refl _) (by omega) c1 (by omega) (by decide) (fun M2 F2 c2 => ⟨rfl, rfl, ?_⟩)
    rw [Int.zero_add] at c2
    have F12 : NF 2070 M M2 := fun x p q => (F2 x p q).trans (F1 x p q)
    by_cases c0 : q = 0
    · rw [if_pos c0, Int.add_zero] at hK
      have W : CW M2 e w 0 := h.sm (fun x hx => F12 x (by omega) (by omega)) ⟨_, c2⟩
      exact k_P_total_78 (by omega) ⟨by decide, fun _ => ⟨hq, fun z => absurd c0 z⟩, fun _ => c_tell W nm_2070 (by decide) c2 (by omega) (fun M' f W' => ⟨_, rfl, rfl, hK M' (fun x hx => (f x hx).trans (F12 x (by omega) (by omega))) W'⟩)⟩
    · rw [if_neg c0] at hK
      exact l_total (M0 := M) (v := tkS w.gWa tk') h hT hb htk ⟨q0, by omega⟩ c0 ⟨tw0, Int.le_refl _⟩ (by omega) hK 16 0 M2 rfl F12 (by show cn M2 2070 (tkS w.gWa tk' + 0); rw [Int.add_zero]; exact c2)
  · rw [if_pos h3] at hK
    exact c_heldB (p := 0) bk_202 b3 htk (by decide) (by omega) (fun c c1 c2 c3 c4 => ⟨_, rfl, rfl, c1, c_tell h c1 (by omega) c4 (by omega) (fun M' f W => ⟨_, rfl, rfl, hK M' f W⟩)⟩)
end TOTALC
