/-! the whole parse -/
theorem tkn_ex' (t : Int → Int) (n a : Int) : ∃ x : Int × Int × Int × Int × Int, a ≤ n → tkn t n a x.1 x.2.1 x.2.2.1 x.2.2.2.1 x.2.2.2.2 := by
  by_cases h : a ≤ n
  · obtain ⟨p, q, ty, nm, v, hh⟩ := tkn_ex t h
    exact ⟨(p, q, ty, nm, v), fun _ => hh⟩
  · exact ⟨(0, 0, 0, 0, 0), fun z => absurd z h⟩
noncomputable def tk (t : Int → Int) (n a : Int) : Int × Int × Int × Int × Int := Classical.choose (tkn_ex' t n a)
theorem tk_ok {t : Int → Int} {n a : Int} (h : a ≤ n) : tkn t n a (tk t n a).1 (tk t n a).2.1 (tk t n a).2.2.1 (tk t n a).2.2.2.1 (tk t n a).2.2.2.2 := Classical.choose_spec (tkn_ex' t n a) h
noncomputable def prs (t : Int → Int) (n lo : Int) : Nat → Int → pS → Sum (Int × Int) (pS × Int)
  | 0, _, _ => .inl (0, 0)
  | f + 1, a, S => if S.1 = [] then .inr (S, a) else
    if (tk t n a).2.2.1 < 0 then .inl (-(tk t n a).2.2.1, (tk t n a).1)
    else if (tk t n a).2.2.1 = 41 then .inl (3, (tk t n a).1)
    else match stp lo (tk t n a).2.2.1 (tk t n a).2.2.2.1 (tk t n a).2.2.2.2 S with
      | .inl c => .inl (c, (tk t n a).1)
      | .inr S' => prs t n lo f (tk t n a).2.1 S'
def bgS (lo w0 : Int) : pS := ([(99, -1, 0, 1)], fun _ _ => 0, lo, w0)
noncomputable def prsT (t : Int → Int) (n lo w0 : Int) : Sum (Int × Int) pS := match prs t n lo (n.toNat + 2) 0 (bgS lo w0) with
  | .inl f => .inl f
  | .inr (S, a) => if (tk t n a).2.2.1 < 0 then .inl (-(tk t n a).2.2.1, (tk t n a).1) else if (tk t n a).2.2.1 = 41 then .inr S else .inl (9, (tk t n a).1)
def QS (lo : Int) (S : pS) : Prop := wfS lo S ∧ c29 S.2.1 lo S.2.2.1 ∧ t98 S ∧ w2 S.2.1 lo S.2.2.1
theorem QS_stp {lo ty nm v : Int} {x : en} {r : List en} {R : Rw} {m lw : Int} {S' : pS} (h : stp lo ty nm v (x :: r, R, m, lw) = .inr S') (hq : QS lo (x :: r, R, m, lw)) : QS lo S' := ⟨wfS_stp h hq.1, c29_stp h hq.1 hq.2.1, t98_stp h hq.1 hq.2.2.1, w2_stp h hq.1 hq.2.2.2⟩
theorem QS_bg {lo w0 : Int} (h0 : 0 ≤ lo) (h1 : lo ≤ 5000) : QS lo (bgS lo w0) := by
  refine ⟨⟨h0, by show lo ≤ lo; omega, by show lo ≤ lo + 1000; omega, h1, ⟨407, by decide, Or.inr ⟨by decide, by show (4 * (-1) + 1 : Int) < 407; decide, by show (-3 : Int) ≤ 4 * (-1) + 1; decide, fun _ => by decide, trivial⟩⟩, fun x hx h41 => ?_, fun i i0 i1 => ?_, ⟨fun z => absurd (show (99 : Int) = 104 from z) (by decide), fun y hy => by cases hy⟩⟩, fun i i0 i1 => ?_, fun y hy h98 => ?_, fun i i0 i1 => ?_⟩
  · rcases List.mem_singleton.mp hx with rfl
    exact ⟨by decide, by decide, Or.inl ⟨rfl, rfl⟩⟩
  · have i1 : i < lo := i1
    omega
  · have i1 : i < lo := i1
    omega
  · rcases List.mem_singleton.mp hy with rfl
    exact absurd (show (99 : Int) = 98 from h98) (by decide)
  · have i1 : i < lo := i1
    omega
/-- what a token's number is at most -/
theorem wrd_nv {t : Int → Int} {p q nm v : Int} (hp : p < q) (h : wrd t p q 34 nm v) : -(10 ^ (q - p).toNat) < v ∧ v < 10 ^ (q - p).toNat := by
  have hp0 := bpow_pos (B := 10) (by decide) (q - p).toNat
  rcases h with ⟨hd, z, hz, hh⟩ | ⟨_, _, hh⟩ | ⟨_, _, _, r, hr, hh⟩
  · rcases hh with ⟨_, w⟩ | ⟨_, _, hv⟩
    · omega
    · have hz1 := hz.1
      have hz2 := hz.2.1
      have hs : p ≤ sgn t p := by unfold sgn; split <;> omega
      have hdk : dok 10 (tdg t q) 0 (q - z).toNat := fun i i0 i1 => by
        unfold tdg
        have := hd.2 (q - 1 - (0 + i)) (by omega) (by omega)
        omega
      have hb := dv_bd (B := 10) (by decide) hdk
      have hle := bpow_le (B := 10) (by decide) (n := (q - z).toNat) (m := (q - p).toNat) (by omega)
      unfold nval at hv
      split at hv
      · rw [Int.neg_mul, Int.one_mul] at hv; omega
      · rw [Int.one_mul] at hv; omega
  · omega
  · exfalso
    rcases hr with ⟨h1, _⟩ | ⟨h1, h2, _⟩ <;> omega
/-- a token's end, its type -/
theorem tkn_q {t : Int → Int} {n a p q ty nm v : Int} (h : tkn t n a p q ty nm v) (h41 : ty ≠ 41) : a ≤ p ∧ p < q ∧ q ≤ n ∧ -2 ≤ ty ∧ ty ≤ 40 ∧ (ty = 34 → -(10 ^ (q - p).toNat) < v ∧ v < 10 ^ (q - p).toNat ∧ (q < n → t q ≤ 32 ∨ brk (t q)) ∧ 32 < t p ∧ ¬ brk (t p)) := by
  obtain ⟨h1, h2, h3, hor⟩ := h
  rcases hor with ⟨_, _, z⟩ | ⟨q1, q2, hor⟩
  · exact absurd z h41
  · rcases hor with ⟨b1, b2, b3⟩ | ⟨b1, b2, b3, b4, b5, b6⟩
    · refine ⟨h1, by omega, by omega, ?_, ?_, fun z => ?_⟩
      · rw [b3]; (repeat' split) <;> decide
      · rw [b3]; (repeat' split) <;> decide
      · exfalso; rw [b3] at z; revert z; (repeat' split) <;> decide
    · have hty : -2 ≤ ty ∧ ty ≤ 40 := by
        rcases b6 with ⟨_, z, _, hh⟩ | ⟨_, _, hh⟩ | ⟨_, _, _, r, hr, hh⟩
        · omega
        · omega
        · rcases hr with ⟨u1, _⟩ | ⟨u1, u2, _⟩ <;> omega
      refine ⟨h1, b2, b3, hty.1, hty.2, fun z => ?_⟩
      subst z
      have := wrd_nv b2 b6
      exact ⟨this.1, this.2, b5, q2, b1⟩
theorem tkn_41 {t : Int → Int} {n a p q ty nm v : Int} (h : tkn t n a p q ty nm v) (h41 : ty = 41) : p = n ∧ q = n := by
  obtain ⟨h1, h2, h3, hor⟩ := h
  rcases hor with ⟨z1, z2, _⟩ | ⟨q1, q2, hor⟩
  · exact ⟨z1, z2⟩
  · exfalso
    rcases hor with ⟨b1, b2, b3⟩ | ⟨b1, b2, b3, b4, b5, b6⟩
    · rw [b3] at h41; revert h41; (repeat' split) <;> decide
    · rcases b6 with ⟨_, z, _, hh⟩ | ⟨_, _, hh⟩ | ⟨_, _, _, r, hr, hh⟩
      · omega
      · omega
      · rcases hr with ⟨u1, _⟩ | ⟨u1, u2, _⟩ <;> omega
/-- where a node ends -/
def ends (D : Int → Int) (m i e : Int) : Prop := i < e ∧ e ≤ m ∧ (∀ j, i < j → j < e → D i < D j) ∧ (e < m → D e ≤ D i)
section PARSE
variable {g : im_g} {d : Nat} {e : im_E} {M M0 : im_M} {K : im_K}
theorem l_te35 {m k : Int} {D : Int → Int} (hk0 : 0 ≤ k) (hm : m ≤ 5000) (hkm : k < m) (hD : ∀ i, k ≤ i → i < m → M 16 i = D i) (hE : ∀ i, k < i → i < m → ends D m i (M 15 i)) (hK : ∀ a, ends D m k a → im_T g d 75 17 [some (.ref 23), some (vI m), some (vI (k + -1)), none, none] [] e (im_u M 15 k a) K) :
    ∀ (j : Nat) (a i : Int), a + j = m → k < a → i < a → 0 ≤ i → (∀ x, k < x → x < a → D k < D x) → im_T g d 75 35 [some (.ref 23), some (vI m), some (vI k), some (vI a), some (vI i)] [] e M K := by
  intro j
  induction j using Nat.strongRecOn with
  | ind j ih =>
    intro a i hj hka hia hi0 hall
    refine k_Parser_tellEnds_35 ⟨by constructor <;> omega, by constructor <;> omega, fun c1 => ⟨by constructor <;> omega, fun c2 => ⟨by constructor <;> omega, by constructor <;> omega, fun c3 => ?_⟩⟩, fun c => ⟨by constructor <;> omega, by constructor <;> omega, hK a ⟨hka, by omega, hall, fun z => ?_⟩⟩⟩
    · rw [hD k (by omega) hkm, hD a (by omega) c2] at c3
      obtain ⟨e1, e2, e3, e4⟩ := hE a hka c2
      refine ih (m - M 15 a).toNat (by omega) (M 15 a) (i + 1) (by omega) (by omega) (by omega) (by omega) (fun x x0 x1 => ?_)
      by_cases hx : x < a
      · exact hall x x0 hx
      · by_cases hxa : x = a
        · subst hxa; exact c3
        · have := e3 x (by omega) x1; omega
    · have hD1 := hD k (by omega) hkm
      have hD2 := hD a (by omega) z
      rcases c with c | c | c <;> omega
theorem l_te17 {lo m : Int} {D : Int → Int} (h0 : 0 ≤ lo) (hlm : lo ≤ m) (hm : m ≤ 5000) (h13 : M0 13 8 = lo) (hD : ∀ i, lo ≤ i → i < m → M0 16 i = D i) (hK : ∀ M', (∀ x, x ≠ 15 → M' x = M0 x) → (∀ i, i < lo ∨ m ≤ i → M' 15 i = M0 15 i) → (∀ i, lo ≤ i → i < m → ends D m i (M' 15 i)) → K (.inl none) e M') :
    ∀ (j : Nat) (k : Int) (M : im_M), k + 1 = lo + j → k < m → (∀ x, x ≠ 15 → M x = M0 x) → (∀ i, i < lo ∨ m ≤ i → M 15 i = M0 15 i) → (∀ i, k < i → i < m → lo ≤ i → ends D m i (M 15 i)) → im_T g d 75 17 [some (.ref 23), some (vI m), some (vI k), none, none] [] e M K := by
  intro j
  induction j with
  | zero =>
    intro k M hk hkm hF hO hE
    refine k_Parser_tellEnds_17 ?_
    rw [hF 13 (by decide), h13]
    exact ⟨by constructor <;> omega, fun _ => hK M hF hO (fun i i0 i1 => hE i (by omega) i1 i0), fun z => absurd z (by omega)⟩
  | succ j ih =>
    intro k M hk hkm hF hO hE
    refine k_Parser_tellEnds_17 ?_
    rw [hF 13 (by decide), h13]
    refine ⟨by constructor <;> omega, fun z => absurd z (by omega), fun _ => ?_⟩
    refine l_te35 (D := D) (by omega) hm hkm (fun i i0 i1 => by rw [hF 16 (by decide)]; exact hD i (by omega) i1) (fun i i0 i1 => hE i i0 i1 (by omega)) (fun a ha => ?_) (m - (k + 1)).toNat (k + 1) k (by omega) (by omega) (by omega) (by omega) (fun x x0 x1 => by omega)
    refine ih (k + -1) _ (by omega) (by omega) (fun x hx => (im_u_ne _ _ _ hx).trans (hF x hx)) (fun i hi => (im_rdk _ _ _ (by omega)).trans (hO i hi)) (fun i i0 i1 i2 => ?_)
    by_cases hik : i = k
    · subst hik; rw [im_rds]; exact ha
    · rw [im_rdk _ _ _ hik]; exact hE i (by omega) i1 i2
theorem c_tellEnds {lo m : Int} {D : Int → Int} (h0 : 0 ≤ lo) (hlm : lo ≤ m) (hm : m ≤ 5000) (h13 : M 13 8 = lo) (h7 : M 23 7 = m - lo) (hD : ∀ i, lo ≤ i → i < m → M 16 i = D i) (hK : ∀ M', (∀ x, x ≠ 15 → M' x = M x) → (∀ i, i < lo ∨ m ≤ i → M' 15 i = M 15 i) → (∀ i, lo ≤ i → i < m → ends D m i (M' 15 i)) → K (.inl none) e M') : im_T g d 75 0 [some (.ref 23), none, none, none, none] [] e M K := by
  refine k_Parser_tellEnds_0 ?_
  rw [h13, h7, show lo + (m - lo) = m from by omega]
  exact l_te17 (M0 := M) h0 hlm hm h13 hD hK (m - lo).toNat (m - 1) M (by omega) (by omega) (fun _ _ => rfl) (fun _ _ => rfl) (fun i i0 i1 i2 => by omega)
end PARSE
