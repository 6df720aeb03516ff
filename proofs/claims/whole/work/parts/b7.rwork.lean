/-! THE REFERENCE works values and observations out: its pile -/
theorem sm_tdiv {v : Int} (w : Int) (h : sm v) : sm (v.tdiv w) := by
  have h1 := Int.natAbs_tdiv v w
  have h2 : v.natAbs / w.natAbs ≤ v.natAbs := Nat.div_le_self _ _
  unfold sm at *
  generalize LIM = L at *
  have h3 : (v.tdiv w).natAbs ≤ v.natAbs := by rw [h1]; exact h2
  omega
def EF (p q : Int) (M M' : im_M) : Prop := (∀ x, x ≠ 6952 → (x < 6955 ∨ 6958 < x) → (x < 7034 ∨ 7036 < x) → M' x = M x) ∧ (∀ k, k ≠ 7 → k ≠ 8 → k ≠ 122 → k ≠ 124 → M' 6952 k = M 6952 k) ∧ (∀ i, i < M 6952 7 → M' 6955 i = M 6955 i) ∧ (∀ i, i < p → M' 7034 i = M 7034 i ∧ M' 7035 i = M 7035 i) ∧ (∀ i, i < q → M' 7036 i = M 7036 i) ∧ M 6952 7 ≤ M' 6952 7
theorem EF.rf (p q : Int) (M : im_M) : EF p q M M := ⟨fun _ _ _ _ => rfl, fun _ _ _ _ _ => rfl, fun _ _ => rfl, fun _ _ => ⟨rfl, rfl⟩, fun _ _ => rfl, Int.le_refl _⟩
theorem EF.trans {p q p' q' : Int} {M M1 M2 : im_M} (h : EF p q M M1) (h' : EF p' q' M1 M2) (hp : p ≤ p') (hq : q ≤ q') : EF p q M M2 :=
  ⟨fun x a b c => (h'.1 x a b c).trans (h.1 x a b c), fun k a b c d => (h'.2.1 k a b c d).trans (h.2.1 k a b c d), fun i a => (h'.2.2.1 i (by have := h.2.2.2.2.2; omega)).trans (h.2.2.1 i a), fun i a => ⟨(h'.2.2.2.1 i (by omega)).1.trans (h.2.2.2.1 i a).1, (h'.2.2.2.1 i (by omega)).2.trans (h.2.2.2.1 i a).2⟩, fun i a => (h'.2.2.2.2.1 i (by omega)).trans (h.2.2.2.2.1 i a), by have := h.2.2.2.2.2; have := h'.2.2.2.2.2; omega⟩
theorem EF.mono {p q p' q' : Int} {M M1 : im_M} (h : EF p' q' M M1) (hp : p ≤ p') (hq : q ≤ q') : EF p q M M1 := ⟨h.1, h.2.1, h.2.2.1, fun i a => h.2.2.2.1 i (by omega), fun i a => h.2.2.2.2.1 i (by omega), h.2.2.2.2.2⟩
theorem EF.rp {p q : Int} {M M' : im_M} {R : Rw} {m : Int} (h : EF p q M M') (hP : RP M R m) (h6 : M 6952 6 ≤ M 6952 7) : RP M' R m := RP_congr hP (h.2.1 6 (by decide) (by decide) (by decide) (by decide)) (h.2.1 36 (by decide) (by decide) (by decide) (by decide)) (fun x a b => h.1 x (by omega) (by omega) (by omega)) (fun i a => h.2.2.1 i (by omega))
theorem EF.re {p q : Int} {M M' : im_M} {Γ : Env} {T : Int} (h : EF p q M M') (hE : RE M Γ T) (hT : T ≤ M 6952 7) : RE M' Γ T := RE_congr hE (fun k a b => h.2.1 k (by omega) (by omega) (by omega) (by omega)) (fun x a b => h.1 x (by omega) (by omega) (by omega)) (fun i a => h.2.2.1 i (by omega)) (Int.le_refl _)
/-- numbers' methods -/
theorem EF.rf2 {p q : Int} {S : List Nat} {M M' : im_M} (h : RF S [7, 8] (M 6952 7) M M') (hS : ∀ a ∈ S, 6955 ≤ a ∧ a ≤ 6958) (h7 : M 6952 7 ≤ M' 6952 7) : EF p q M M' :=
  ⟨fun x a b _ => h.1 x (fun z => by have := hS x z; omega) (by omega) a, fun k a b _ _ => h.2.1 k (by simp [a, b]), h.2.2, fun i _ => by
    have hn : ∀ x : Nat, 7034 ≤ x → M' x = M x := fun x hx => h.1 x (fun z => by have := hS x z; omega) (by omega) (by omega)
    rw [hn 7034 (by decide), hn 7035 (by decide)]; exact ⟨rfl, rfl⟩, fun i _ => by
    have hn : ∀ x : Nat, 7034 ≤ x → M' x = M x := fun x hx => h.1 x (fun z => by have := hS x z; omega) (by omega) (by omega)
    rw [hn 7036 (by decide)], h7⟩
theorem EF.u122 {p q : Int} {M M1 : im_M} (h : EF p q M M1) (k v : Int) (hk : k = 122 ∨ k = 124) : EF p q M (im_u M1 6952 k v) :=
  ⟨fun x a b c => (im_u_ne _ _ _ a).trans (h.1 x a b c), fun j a b c d => (im_rdk _ _ _ (by omega)).trans (h.2.1 j a b c d), fun i a => (im_rdn _ _ _ _ (by decide)).trans (h.2.2.1 i a), fun i a => ⟨(im_rdn _ _ _ _ (by decide)).trans (h.2.2.2.1 i a).1, (im_rdn _ _ _ _ (by decide)).trans (h.2.2.2.1 i a).2⟩, fun i a => (im_rdn _ _ _ _ (by decide)).trans (h.2.2.2.2.1 i a), by rw [im_rdk _ _ _ (by omega)]; exact h.2.2.2.2.2⟩
theorem EF.pl {p q : Int} {M M1 : im_M} (h : EF p q M M1) {x : Nat} (hx : x = 7034 ∨ x = 7035) {i : Int} (hi : p ≤ i) (v : Int) : EF p q M (im_u M1 x i v) :=
  ⟨fun y a b c => (im_u_ne _ _ _ (by omega)).trans (h.1 y a b c), fun j a b c d => (im_rdn _ _ _ _ (by omega)).trans (h.2.1 j a b c d), fun i a => (im_rdn _ _ _ _ (by omega)).trans (h.2.2.1 i a), fun j a => by
    have hu : ∀ y : Nat, im_u M1 x i v y j = M1 y j := fun y => by
      by_cases hy : y = x
      · subst hy; exact im_rdk _ _ _ (by omega)
      · exact im_rdn _ _ _ _ hy
    rw [hu, hu]; exact h.2.2.2.1 j a, fun j a => (im_rdn _ _ _ _ (by omega)).trans (h.2.2.2.2.1 j a), by rw [im_rdn _ _ _ _ (by omega)]; exact h.2.2.2.2.2⟩
theorem EF.rsl {p q : Int} {M M1 : im_M} (h : EF p q M M1) {i : Int} (hi : q ≤ i) (v : Int) : EF p q M (im_u M1 7036 i v) :=
  ⟨fun y a b c => (im_u_ne _ _ _ (by omega)).trans (h.1 y a b c), fun j a b c d => (im_rdn _ _ _ _ (by omega)).trans (h.2.1 j a b c d), fun i a => (im_rdn _ _ _ _ (by omega)).trans (h.2.2.1 i a), fun j a => ⟨(im_rdn _ _ _ _ (by decide)).trans (h.2.2.2.1 j a).1, (im_rdn _ _ _ _ (by decide)).trans (h.2.2.2.1 j a).2⟩, fun j a => (im_rdk _ _ _ (by omega)).trans (h.2.2.2.2.1 j a), by rw [im_rdn _ _ _ _ (by omega)]; exact h.2.2.2.2.2⟩
section RWORK
variable {g : im_g} {d : Nat} {e : im_E} {M : im_M} {K : im_K} {R : Rw} {m T : Int} {Γ : Env} {n p q n9 mk : Int}
theorem c_joinV {k a r1 r2 w1 w2 : Int} (hk : 8 ≤ k ∧ k ≤ 11) (h1 : rnp M 0 (M 6952 7) r1 w1) (h2 : rnp M 0 (M 6952 7) r2 w2) (h7 : M 6952 7 + 650 ≤ 1100000) (h8 : M 6952 8 = 0) (hd : 5 ≤ d)
    (hK : ∀ M' r, RF [6956, 6957, 6958] [7, 8] (M 6952 7) M M' → M 6952 7 ≤ M' 6952 7 → M' 6952 7 ≤ M 6952 7 + 620 → (∀ w, opv k w1 w2 = some w → M' 6952 8 = 0 ∧ rnp M' 0 (M' 6952 7) r w) → (opv k w1 w2 = none → M' 6952 8 = 1) → im_i32 r → M 6952 7 ≤ r → K (.inl (some (vI r))) e M') : im_T g d 394 0 [some (.ref 6952), some (vI (kR k a)), some (vI r1), some (vI r2)] [] e M K := by
  have hkr : kR k a = k + 16 := (kR_v (Or.inl ⟨by omega, by omega⟩)).2.2 (by omega) (by omega)
  obtain ⟨n1, a1, a2, a3, a4⟩ := h1
  obtain ⟨n2, b1, b2, b3, b4⟩ := h2
  have i7 : im_i32 (M 6952 7) := by constructor <;> omega
  have hmono : ∀ {M' : im_M}, RF [] [7, 8] (M 6952 7) M M' → RF [6956, 6957, 6958] [7, 8] (M 6952 7) M M' := fun h => h.mono (fun _ z => by cases z) (fun _ z => z) (Int.le_refl _)
  have fin : ∀ {M' : im_M} {n' : Nat} {w : Int}, rn (M' 6955) (M 6952 7) n' w → M' 6952 7 = M 6952 7 + 2 + n' → (M' 6952 8 = if M 6952 8 = 0 ∧ n' ≤ 300 then 0 else 1) → opv k w1 w2 = lim w → (∀ y, opv k w1 w2 = some y → M' 6952 8 = 0 ∧ rnp M' 0 (M' 6952 7) (M 6952 7) y) ∧ (opv k w1 w2 = none → M' 6952 8 = 1) := fun {M' n' w} hr ht h8' ho => by
    have hsm := rn_small hr
    rw [ho]
    unfold lim
    by_cases c : -LIM < w ∧ w < LIM
    · rw [if_pos c]
      have hn := hsm.mpr c
      rw [if_pos ⟨h8, hn⟩] at h8'
      refine ⟨fun y hy => ?_, fun z => by cases z⟩
      injection hy with hy
      subst hy
      exact ⟨h8', n', hr, by omega, by omega, hn⟩
    · rw [if_neg c]
      rw [if_neg (fun z => c (hsm.mp z.2))] at h8'
      exact ⟨fun y hy => (by cases hy), fun _ => h8'⟩
  refine b_joined_0 (by omega) ?_
  rw [hkr]
  refine ⟨by constructor <;> omega, fun z => ?_, fun z => ?_, fun z => ?_, fun z => ?_, fun z => by omega, fun z => by omega, fun z => by omega, fun z => by omega, fun z => by omega, fun z => by omega, fun z => by omega⟩
  · refine c_plus a1 b1 a2 b2 a3 b3 a4 b4 (Or.inl rfl) (by omega) (Or.inl h8) (by omega) (fun M' n' f1 f2 f3 f4 f5 => ⟨_, rfl, rfl, ?_⟩)
    rw [Int.one_mul] at f2
    obtain ⟨g1, g2⟩ := fin f2 f4 f5 (by rw [show k = 8 by omega]; rfl)
    exact hK M' _ (hmono f1) (by omega) (by omega) g1 g2 i7 (Int.le_refl _)
  · refine c_plus a1 b1 a2 b2 a3 b3 a4 b4 (Or.inr rfl) (by omega) (Or.inl h8) (by omega) (fun M' n' f1 f2 f3 f4 f5 => ⟨_, rfl, rfl, ?_⟩)
    rw [show w1 + -1 * w2 = w1 - w2 by omega] at f2
    obtain ⟨g1, g2⟩ := fin f2 f4 f5 (by rw [show k = 9 by omega]; rfl)
    exact hK M' _ (hmono f1) (by omega) (by omega) g1 g2 i7 (Int.le_refl _)
  · refine c_times a1 b1 a2 b2 a3 b3 a4 b4 (by omega) (by omega) (fun M' n' f1 f2 f3 f4 f5 => ⟨_, rfl, rfl, ?_⟩)
    obtain ⟨g1, g2⟩ := fin f2 f4 f5 (by rw [show k = 10 by omega]; rfl)
    exact hK M' _ f1 (by omega) (by omega) g1 g2 i7 (Int.le_refl _)
  · refine c_by a1 b1 a2 b2 a3 b3 a4 b4 (by omega) (Or.inl h8) (by omega) (fun M' n' f1 f2 f3 f4 f5 => ⟨_, rfl, rfl, ?_⟩)
    have hs : sm (w1.tdiv w2) := sm_tdiv w2 ((rn_small a1).mp a4)
    obtain ⟨g1, g2⟩ := fin f2 f4 f5 (by rw [show k = 11 by omega, lim_some hs]; rfl)
    exact hK M' _ f1 (by omega) (by omega) g1 g2 i7 (Int.le_refl _)
theorem c_joinO {k a r1 r2 w1 w2 : Int} (hk : 17 ≤ k ∧ k ≤ 18 ∨ 21 ≤ k ∧ k ≤ 25) (h17 : k ≤ 18 → (r1 = w1 ∧ r2 = w2) ∧ (w1 = 0 ∨ w1 = 1) ∧ (w2 = 0 ∨ w2 = 1)) (hv : 21 ≤ k → rnp M 0 (M 6952 7) r1 w1 ∧ rnp M 0 (M 6952 7) r2 w2) (h7 : M 6952 7 ≤ 1100000) (hd : 3 ≤ d)
    (hK : ∀ w, opv k w1 w2 = some w → (w = 0 ∨ w = 1) → K (.inl (some (vI w))) e M) : im_T g d 394 0 [some (.ref 6952), some (vI (kR k a)), some (vI r1), some (vI r2)] [] e M K := by
  have hkr : kR k a = k + 23 := kR_o ⟨by omega, by omega⟩
  have hso : 21 ≤ k → opv k w1 w2 = some (so k w1 w2) := fun h => by
    unfold opv
    rw [if_neg (by omega), if_neg (by omega), if_neg (by omega), if_neg (by omega), if_neg (by omega), if_neg (by omega)]
  have hord : 21 ≤ k → ∀ {K' : im_K}, (K' (.inl (some (vI (cmpI w1 w2)))) e M) → im_T g (d - 1) 302 0 [some (.ref 6952), some (vI r1), some (vI r2)] [] e M K' := fun h {K'} hk' => by
    obtain ⟨⟨n1, a1, a2, a3, a4⟩, ⟨n2, b1, b2, b3, b4⟩⟩ := hv h
    exact c_order a1 b1 a2 b2 (by omega) (by omega) (by omega) (by omega) (by omega) hk'
  have hc3 : (cmpI w1 w2 = -1 ∧ w1 < w2) ∨ (cmpI w1 w2 = 0 ∧ w1 = w2) ∨ (cmpI w1 w2 = 1 ∧ w2 < w1) := by unfold cmpI; (repeat' split) <;> omega
  have hci : im_i32 (cmpI w1 w2) := by constructor <;> omega
  have hfin : 21 ≤ k → ∀ w, w = so k w1 w2 → (w = 0 ∨ w = 1) → K (.inl (some (vI w))) e M := fun h w hw h01 => hK w (by rw [hw]; exact hso h) h01
  refine b_joined_0 (by omega) ?_
  rw [hkr]
  refine ⟨by constructor <;> omega, fun z => by omega, fun z => by omega, fun z => by omega, fun z => by omega, fun z => ?_, fun z => ?_, fun z => ?_, fun z => ?_, fun z => ?_, fun z => ?_, fun z => ?_⟩
  · have hk17 : k = 17 := by omega
    obtain ⟨⟨e1, e2⟩, h01, h02⟩ := h17 (by omega)
    rw [e1, e2]
    have ho : opv k w1 w2 = some (if w1 = 1 ∧ w2 = 1 then 1 else 0) := by rw [hk17]; rfl
    rcases h01 with z1 | z1 <;> rcases h02 with z2 | z2 <;> rw [z1, z2] at ho hK ⊢ <;> exact hK _ ho (by decide)
  · have hk18 : k = 18 := by omega
    obtain ⟨⟨e1, e2⟩, h01, h02⟩ := h17 (by omega)
    rw [e1, e2]
    have ho : opv k w1 w2 = some (if w1 = 1 ∨ w2 = 1 then 1 else 0) := by rw [hk18]; rfl
    refine ⟨by constructor <;> omega, fun w hw => ?_⟩
    by_cases c : w1 = 1 ∨ w2 = 1
    · rw [if_pos c] at ho
      have : w = 1 := by omega
      rw [this]; exact hK 1 ho (by decide)
    · rw [if_neg c] at ho
      have : w = 0 := by omega
      rw [this]; exact hK 0 ho (by decide)
  · refine hord (by omega) ⟨_, rfl, rfl, hci, fun w hw => hfin (by omega) w ?_ (by omega)⟩
    unfold so; rw [if_pos (by omega)]
    by_cases c : w2 ≤ w1
    · rw [if_pos c]; omega
    · rw [if_neg c]; omega
  · refine hord (by omega) ⟨_, rfl, rfl, hci, fun w hw => hfin (by omega) w ?_ (by omega)⟩
    unfold so; rw [if_neg (by omega), if_pos (by omega)]
    by_cases c : w2 < w1
    · rw [if_pos c]; omega
    · rw [if_neg c]; omega
  · refine hord (by omega) ⟨_, rfl, rfl, hci, fun w hw => hfin (by omega) w ?_ (by omega)⟩
    unfold so; rw [if_neg (by omega), if_neg (by omega), if_pos (by omega)]
    by_cases c : w1 ≤ w2
    · rw [if_pos c]; omega
    · rw [if_neg c]; omega
  · refine hord (by omega) ⟨_, rfl, rfl, hci, fun w hw => hfin (by omega) w ?_ (by omega)⟩
    unfold so; rw [if_neg (by omega), if_neg (by omega), if_neg (by omega), if_pos (by omega)]
    by_cases c : w1 < w2
    · rw [if_pos c]; omega
    · rw [if_neg c]; omega
  · refine hord (by omega) ⟨_, rfl, rfl, hci, fun w hw => hfin (by omega) w ?_ (by omega)⟩
    unfold so; rw [if_neg (by omega), if_neg (by omega), if_neg (by omega), if_neg (by omega)]
    by_cases c : w1 = w2
    · rw [if_pos c]; omega
    · rw [if_neg c]; omega
/-- the pile's top -/
def ES (M : im_M) (n p q s : Int) : Prop := M 6952 122 = p + 1 ∧ M 7034 p = n ∧ M 7035 p = s ∧ M 6952 124 = q ∧ M 6952 8 = 0
theorem w_leaf {B : Int} (hP : RP M R m) (hE : RE M Γ T) (hT : T ≤ B) (h6 : M 6952 6 ≤ B) (hB : B ≤ M 6952 7) (h0 : 0 ≤ M 6952 7) (h1 : M 6952 7 + 22 ≤ 1100000) (n0 : 0 ≤ n) (n1 : n < m) (hm : m ≤ 5000) (hk : vkd (R 0 n) ∨ okd (R 0 n)) (hl : lfk (R 0 n)) (hS : ES M n p q 0) (hp : 0 ≤ p ∧ p < 300) (hq : 0 ≤ q ∧ q < 300) (hd : 6 ≤ d)
    (hK : ∀ M', EF p q M M' → M' 6952 122 = p → M' 6952 124 = q + 1 → M' 6952 8 = 0 → M' 6952 7 ≤ M 6952 7 + 22 → (vkd (R 0 n) → rnp M' 0 (M' 6952 7) (M' 7036 q) (lfv R Γ n) ∧ (M' 7036 q < B → rnp M' 0 B (M' 7036 q) (lfv R Γ n))) → (okd (R 0 n) → M' 7036 q = lfv R Γ n) → im_T g d 379 66 [some (.ref 6952), some (vI n9), some (vI mk), none, none, none] [] e M' K) :
    im_T g d 379 66 [some (.ref 6952), some (vI n9), some (vI mk), none, none, none] [] e M K := by
  obtain ⟨s1, s2, s3, s4, s5⟩ := hS
  have hq1 := (hP n n0 n1).1
  refine b_work_66 (by omega) ⟨fun _ _ => b_workNext_0 (by omega) ?_, fun z => by omega⟩
  rw [s1, show p + 1 - 1 = p by omega, s2, hq1]
  refine ⟨by constructor <;> omega, by constructor <;> omega, c_risLeaf hk (fun _ => ⟨_, rfl, rfl, by decide, fun z => absurd z (by decide), fun _ => ?_⟩) (fun z => absurd hl z)⟩
  rw [s1, show p + 1 - 1 = p by omega]
  refine ⟨by constructor <;> omega, ?_⟩
  have hX : EF p q M (im_u M 6952 122 p) := (EF.rf p q M).u122 122 p (Or.inl rfl)
  have f7 : im_u M 6952 122 p 6952 7 = M 6952 7 := im_rdk _ _ _ (by decide)
  have f6 : im_u M 6952 122 p 6952 6 = M 6952 6 := im_rdk _ _ _ (by decide)
  have f8 : im_u M 6952 122 p 6952 8 = 0 := (im_rdk _ _ _ (by decide)).trans s5
  have f122 : im_u M 6952 122 p 6952 122 = p := im_rds _ _ _ _
  have f124 : im_u M 6952 122 p 6952 124 = q := (im_rdk _ _ _ (by decide)).trans s4
  have hP1 := hX.rp hP (by omega)
  have hE1 := hX.re hE (by omega)
  generalize im_u M 6952 122 p = M1 at hX f7 f6 f8 f122 f124 hP1 hE1 ⊢
  refine c_rleaf (B := B) hP1 hE1 (by omega) (by omega) (by omega) (by omega) (by omega) (Or.inl f8) n0 n1 hm hk hl (by omega) (fun hv M2 r h2 => ⟨_, rfl, rfl, ?_⟩) (fun ho => ⟨_, rfl, rfl, ?_⟩)
  · obtain ⟨v1, v2, v3, v4, v5, v6⟩ := h2
    have g124 : M2 6952 124 = q := (v1.2.1 124 (by decide)).trans f124
    have g122 : M2 6952 122 = p := (v1.2.1 122 (by decide)).trans f122
    have hr : im_i32 r := by
      obtain ⟨k, _, z1, z2, _⟩ := v5
      constructor <;> omega
    refine b_result_0 ?_
    rw [g124]
    have hX2 : EF p q M M2 := hX.trans (EF.rf2 v1 (fun _ z => by cases z) v3) (Int.le_refl _) (Int.le_refl _)
    refine ⟨by constructor <;> omega, hr, by constructor <;> omega, rfl, rfl, rfl, rfl, hK _ ((hX2.rsl (Int.le_refl _) r).u122 124 _ (Or.inr rfl)) ?_ ?_ ?_ ?_ (fun _ => ?_) (fun ho => by unfold vkd at hv; unfold okd at ho; omega)⟩
    · rw [im_rdk _ _ _ (by decide), im_rdn _ _ _ _ (by decide)]; exact g122
    · rw [im_rds]
    · rw [im_rdk _ _ _ (by decide), im_rdn _ _ _ _ (by decide), v2]; exact f8
    · rw [im_rdk _ _ _ (by decide), im_rdn _ _ _ _ (by decide)]; omega
    · rw [im_rdk _ _ _ (by decide), im_rdn _ _ _ _ (by decide), im_rdn _ _ _ _ (by decide), im_rds]
      exact ⟨rnp_congr v5 (fun i _ => by rw [im_rdn _ _ _ _ (by decide), im_rdn _ _ _ _ (by decide)]) (Int.le_refl _), fun z => rnp_congr (v6 z) (fun i _ => by rw [im_rdn _ _ _ _ (by decide), im_rdn _ _ _ _ (by decide)]) (Int.le_refl _)⟩
  · have h01 := lfv_01 (Γ := Γ) ho
    refine b_result_0 ?_
    rw [f124]
    refine ⟨by constructor <;> omega, by constructor <;> omega, by constructor <;> omega, rfl, rfl, rfl, rfl, hK _ ((hX.rsl (Int.le_refl _) _).u122 124 _ (Or.inr rfl)) ?_ ?_ ?_ ?_ (fun hv => by unfold vkd at hv; unfold okd at ho; omega) (fun _ => ?_)⟩
    · rw [im_rdk _ _ _ (by decide), im_rdn _ _ _ _ (by decide)]; exact f122
    · rw [im_rds]
    · rw [im_rdk _ _ _ (by decide), im_rdn _ _ _ _ (by decide)]; exact f8
    · rw [im_rdk _ _ _ (by decide), im_rdn _ _ _ _ (by decide)]; omega
    · rw [im_rdn _ _ _ _ (by decide), im_rds]
end RWORK
