/-- a thing that arithmetic needn't look at -/
def Wr (P : Prop) : Prop := P
theorem kR_ne {k a : Int} (hk : vkd k ∨ okd k) : (kR k a = 32 ↔ k = 16) ∧ (kR k a = 23 ↔ k = 7) ∧ (kR k a = 42 ↔ k = 19) := by
  rcases hk with h | h
  · have := kR_v (a := a) h
    unfold vkd at h; omega
  · have := kR_o (a := a) h
    unfold okd at h; omega
section RWORK2
variable {g : im_g} {d : Nat} {e : im_E} {M : im_M} {K : im_K} {R : Rw} {m T : Int} {Γ : Env} {n p q n9 mk : Int}
theorem c_pile {b c : Int} (h122 : M 6952 122 = b) (hb : 0 ≤ b ∧ b < 400) (hc : im_i32 c) (hK : ∀ M', (∀ x, x ≠ 6952 → x ≠ 7034 → x ≠ 7035 → M' x = M x) → (∀ k, k ≠ 122 → M' 6952 k = M 6952 k) → M' 6952 122 = b + 1 → M' 7034 b = c → M' 7035 b = 0 → (∀ i, i ≠ b → M' 7034 i = M 7034 i ∧ M' 7035 i = M 7035 i) → K (.inl none) e M') : im_T g d 381 0 [some (.ref 6952), some (vI c)] [] e M K := by
  refine b_pile_0 ?_
  rw [h122]
  refine ⟨hb, hc, by constructor <;> omega, hK _ (fun x a b c => ?_) (fun k a => ?_) (im_rds _ _ _ _) ?_ ?_ (fun i a => ⟨?_, ?_⟩)⟩
  · rw [im_u_ne _ _ _ a, im_u_ne _ _ _ c, im_u_ne _ _ _ b]
  · rw [im_rdk _ _ _ a, im_rdn _ _ _ _ (by decide), im_rdn _ _ _ _ (by decide)]
  · rw [im_rdn _ _ _ _ (by decide), im_rdn _ _ _ _ (by decide), im_rds]
  · rw [im_rdn _ _ _ _ (by decide), im_rds]
  · rw [im_rdn _ _ _ _ (by decide), im_rdn _ _ _ _ (by decide), im_rdk _ _ _ a]
  · rw [im_rdn _ _ _ _ (by decide), im_rdk _ _ _ a, im_rdn _ _ _ _ (by decide)]
theorem EF.pile {M1 M' : im_M} (hb : EF p q M M1) (z1 : ∀ x, x ≠ 6952 → x ≠ 7034 → x ≠ 7035 → M' x = M1 x) (z2 : ∀ k, k ≠ 122 → M' 6952 k = M1 6952 k) {b : Int} (hpb : p ≤ b) (z6 : ∀ i, i ≠ b → M' 7034 i = M1 7034 i ∧ M' 7035 i = M1 7035 i) : EF p q M M' :=
  hb.trans (p' := p) (q' := q) ⟨fun x a b c => z1 x a (by omega) (by omega), fun k _ _ a _ => z2 k a, fun i _ => by rw [z1 6955 (by decide) (by decide) (by decide)], fun i a => z6 i (by omega), fun i a => by rw [z1 7036 (by decide) (by decide) (by decide)], by rw [z2 7 (by decide)]; exact Int.le_refl _⟩ (Int.le_refl _) (Int.le_refl _)
/-- the next part is piled -/
theorem w_push {s c : Int} (hP : RP M R m) (n0 : 0 ≤ n) (n1 : n < m) (hm : m ≤ 5000) (hk : vkd (R 0 n) ∨ okd (R 0 n)) (hl : ¬ lfk (R 0 n)) (hS : ES M n p q s) (hs : s = 0 ∧ c = R 16 n ∨ s = 1 ∧ c = R 17 n ∧ R 0 n ≠ 16 ∧ R 0 n ≠ 7 ∧ R 0 n ≠ 19) (hc : 0 ≤ c ∧ c < m) (hp : 0 ≤ p ∧ p < 300) (hd : 6 ≤ d)
    (hK : ∀ M', EF p q M M' → M' 7034 p = n → M' 7035 p = s + 1 → ES M' c (p + 1) q 0 → M' 6952 7 = M 6952 7 → (∀ i, M' 7036 i = M 7036 i) → im_T g d 379 66 [some (.ref 6952), some (vI n9), some (vI mk), none, none, none] [] e M' K) :
    im_T g d 379 66 [some (.ref 6952), some (vI n9), some (vI mk), none, none, none] [] e M K := by
  obtain ⟨s1, s2, s3, s4, s5⟩ := hS
  obtain ⟨q1, _, _, ⟨q64, q65, q66, _⟩, _⟩ := hP n n0 n1
  have hs01 : 0 ≤ s ∧ s ≤ 1 := by rcases hs with z | z <;> omega
  replace hk : Wr (vkd (R 0 n) ∨ okd (R 0 n)) := hk
  replace hl : Wr (¬ lfk (R 0 n)) := hl
  replace hs : Wr (s = 0 ∧ c = R 16 n ∨ s = 1 ∧ c = R 17 n ∧ R 0 n ≠ 16 ∧ R 0 n ≠ 7 ∧ R 0 n ≠ 19) := hs
  have go : im_T g (d - 1 - 1) 381 0 [some (.ref 6952), some (vI c)] [] e (im_u M 7035 p (s + 1)) (im_r0 (fun e_ M75 => e = e_ ∧ im_r0 (fun e_ M22 => e = e_ ∧ im_T g d 379 66 [some (.ref 6952), some (vI n9), some (vI mk), none, none, none] [] e M22 K) (.inl none) e M75)) := by
    refine c_pile (b := p + 1) (by rw [im_rdn _ _ _ _ (by decide)]; exact s1) (by omega) (by constructor <;> omega) (fun M' z1 z2 z3 z4 z5 z6 => ⟨rfl, rfl, rfl, rfl, ?_⟩)
    have hX : EF p q M M' := EF.pile ((EF.rf p q M).pl (Or.inr rfl) (Int.le_refl _) _) z1 z2 (by omega) z6
    refine hK M' hX ?_ ?_ ⟨z3, z4, z5, ?_, ?_⟩ ?_ (fun i => ?_)
    · rw [(z6 p (by omega)).1, im_rdn _ _ _ _ (by decide)]; exact s2
    · rw [(z6 p (by omega)).2, im_rds]
    · rw [z2 124 (by decide), im_rdn _ _ _ _ (by decide)]; exact s4
    · rw [z2 8 (by decide), im_rdn _ _ _ _ (by decide)]; exact s5
    · rw [z2 7 (by decide), im_rdn _ _ _ _ (by decide)]
    · rw [z1 7036 (by decide) (by decide) (by decide), im_rdn _ _ _ _ (by decide)]
  refine b_work_66 (by omega) ⟨fun _ _ => b_workNext_0 (by omega) ?_, fun z => by omega⟩
  rw [s1, show p + 1 - 1 = p by omega, s2, q1, s3]
  refine ⟨by constructor <;> omega, by constructor <;> omega, c_risLeaf hk (fun z => absurd z hl) (fun _ => ⟨_, rfl, rfl, by decide, fun _ => ?_, fun z => absurd rfl z⟩)⟩
  rw [s1, show p + 1 - 1 = p by omega, s3, q64, q65]
  have hn : s ≠ 0 → s = 1 ∧ c = R 17 n ∧ kR (R 0 n) (R 3 n) ≠ 32 ∧ kR (R 0 n) (R 3 n) ≠ 23 ∧ kR (R 0 n) (R 3 n) ≠ 42 := fun z => by
    rcases hs with w | w
    · exact absurd w.1 z
    · exact ⟨w.1, w.2.1, fun v => w.2.2.1 ((kR_ne hk).1.mp v), fun v => w.2.2.2.1 ((kR_ne hk).2.1.mp v), fun v => w.2.2.2.2 ((kR_ne hk).2.2.mp v)⟩
  have h00 : s = 0 → c = R 16 n := fun z => by
    rcases hs with w | w
    · exact w.2
    · rw [z] at w; exact absurd w.1 (by decide)
  replace hn : Wr (s ≠ 0 → s = 1 ∧ c = R 17 n ∧ kR (R 0 n) (R 3 n) ≠ 32 ∧ kR (R 0 n) (R 3 n) ≠ 23 ∧ kR (R 0 n) (R 3 n) ≠ 42) := hn
  replace h00 : Wr (s = 0 → c = R 16 n) := h00
  refine ⟨by constructor <;> omega, by constructor <;> omega, ⟨fun hs0 => ⟨fun h32 h23 h42 => ⟨fun hs1 => absurd (hn hs0).1 hs1, fun hs1 => ?_⟩, fun h32 => absurd h32 (hn hs0).2.2.1⟩, fun hs0 => ?_⟩, fun z => ?_⟩
  · rw [← (hn hs0).2.1]; exact go
  · rw [← h00 hs0]; exact go
  · exfalso
    rcases z with z | z
    · exact (hn z.1).2.2.2.1 z.2.2
    · exact (hn z.1).2.2.2.2 z.2.2.2
/-- a condition is known: one of two parts -/
theorem w_cond {c : Int} (hP : RP M R m) (n0 : 0 ≤ n) (n1 : n < m) (hm : m ≤ 5000) (hk : R 0 n = 16) (hS : ES M n p (q + 1) 1) (hc : c = if M 7036 q = 1 then R 17 n else R 18 n) (hcr : 0 ≤ c ∧ c < m) (hp : 0 ≤ p ∧ p < 300) (hq : 0 ≤ q ∧ q < 300) (hd : 6 ≤ d)
    (hK : ∀ M', EF p q M M' → ES M' c p q 0 → M' 6952 7 = M 6952 7 → im_T g d 379 66 [some (.ref 6952), some (vI n9), some (vI mk), none, none, none] [] e M' K) :
    im_T g d 379 66 [some (.ref 6952), some (vI n9), some (vI mk), none, none, none] [] e M K := by
  obtain ⟨s1, s2, s3, s4, s5⟩ := hS
  obtain ⟨q1, _, _, ⟨q64, q65, q66, _⟩, _⟩ := hP n n0 n1
  have hkv : Wr (vkd (R 0 n) ∨ okd (R 0 n)) := Or.inl (by unfold vkd; omega)
  have hl : Wr (¬ lfk (R 0 n)) := by
    show ¬ lfk (R 0 n)
    rw [hk]; unfold lfk; omega
  have h32e : kR (R 0 n) (R 3 n) = 32 := (kR_ne hkv).1.mpr hk
  have hcw : Wr (∀ w, (¬ M 7036 q = 1) ∧ w = R 18 n ∨ (M 7036 q = 1) ∧ w = R 17 n → w = c) := fun w hw => by
    rw [hc]
    rcases hw with z | z
    · rw [if_neg z.1]; exact z.2
    · rw [if_pos z.1]; exact z.2
  clear hc
  refine b_work_66 (by omega) ⟨fun _ _ => b_workNext_0 (by omega) ?_, fun z => by omega⟩
  rw [s1, show p + 1 - 1 = p by omega, s2, q1, s3, h32e]
  refine ⟨by constructor <;> omega, by constructor <;> omega, ?_⟩
  rw [← h32e]
  refine c_risLeaf hkv (fun z => absurd z hl) (fun _ => ⟨_, rfl, rfl, by decide, fun _ => ?_, fun z => absurd rfl z⟩)
  rw [h32e, s1, show p + 1 - 1 = p by omega, s3, q65, q66, s4, show q + 1 - 1 = q by omega]
  refine ⟨by constructor <;> omega, by constructor <;> omega, ⟨fun hs0 => ⟨fun h32 => absurd rfl h32, fun h32 => ⟨by constructor <;> omega, by constructor <;> omega, by constructor <;> omega, fun w hw => ?_⟩⟩, fun hs0 => absurd hs0 (by decide)⟩, fun z => ?_⟩
  · rw [hcw w hw]
    refine c_pile (b := p) (im_rds _ _ _ _) (by omega) (by constructor <;> omega) (fun M' z1 z2 z3 z4 z5 z6 => ⟨rfl, rfl, rfl, rfl, ?_⟩)
    have hb : EF p q M (im_u (im_u (im_u M 7035 p (1 + 1)) 6952 124 q) 6952 122 p) := (((EF.rf p q M).pl (Or.inr rfl) (Int.le_refl _) _).u122 124 q (Or.inr rfl)).u122 122 p (Or.inl rfl)
    refine hK M' (EF.pile hb z1 z2 (Int.le_refl _) z6) ⟨z3, z4, z5, ?_, ?_⟩ ?_
    · rw [z2 124 (by decide), im_rdk _ _ _ (by decide), im_rds]
    · rw [z2 8 (by decide), im_rdk _ _ _ (by decide), im_rdk _ _ _ (by decide), im_rdn _ _ _ _ (by decide)]; exact s5
    · rw [z2 7 (by decide), im_rdk _ _ _ (by decide), im_rdk _ _ _ (by decide), im_rdn _ _ _ _ (by decide)]
  · exfalso
    rcases z with z | z
    · exact z.2.1 rfl
    · exact z.2.1 rfl
end RWORK2
