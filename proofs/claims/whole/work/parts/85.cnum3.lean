/-! multiply -/
def NR (a : Nat) (M M' : im_M) : Prop := ∀ x, x ≠ a → x ≠ a + 1 → x ≠ 933 → M' x = M x
theorem NF.nr {a : Nat} {M M' : im_M} (h : NF a M M') : NR a M M' := fun x h1 h2 _ => h x h1 h2
theorem cn_nr {M M' : im_M} {a b : Nat} {v : Int} (h : cn M b v) (hF : NR a M M') (h1 : b ≠ a) (h2 : b ≠ a + 1) (h3 : b + 1 ≠ a) (h4 : b ≠ 933) (h5 : b + 1 ≠ 933) : cn M' b v := cn_congr h (hF b h1 h2 h4) (hF (b + 1) h3 (by omega) h5)
section CNUM3
variable {g : im_g} {d : Nat} {e : im_E} {M M0 : im_M} {K : im_K}
theorem l_mulI {a p : Nat} {most X : Int} {n m i : Nat} (ha : im_num e a) (hp : im_num e p) (hm : M0 p 1 = m) (hm34 : m ≤ 34) (hn34 : n ≤ 34) (hU : dok BB (M0 (a + 1)) 0 n) (hL : dok BB (M0 (p + 1)) 0 m) (hi : i < n)
    (hK : ∀ (M : im_M), (∀ w, w ≠ 933 → M w = M0 w) → dok BB (M 933) 0 (n + m) → dv BB (M 933) 0 (i + m + 1) = X + M0 (a + 1) i * (BB ^ i * dv BB (M0 (p + 1)) 0 m) → im_T g d 130 81 [some (.ref a), some (.ref p), some (.ref 933), some (vI most), some (vI ((i : Int) + 1)), none, none, none, none, none] [] e M K) :
    ∀ (j k : Nat) (c : Int) (M : im_M), k + j = m → (∀ w, w ≠ 933 → M w = M0 w) → dok BB (M 933) 0 (n + m) → 0 ≤ c → c < BB → dv BB (M 933) 0 (i + m) + c * BB ^ (i + k) = X + M0 (a + 1) i * (BB ^ i * dv BB (M0 (p + 1)) 0 k) → im_T g d 130 96 [some (.ref a), some (.ref p), some (.ref 933), some (vI most), some (vI i), some (vL c), none, some (vI k), none, none] [] e M K := by
  have na := im_num_933 ha
  have np := im_num_933 hp
  intro j
  induction j with
  | zero =>
    intro k c M hk hF hdk c0 c1 hv
    have hk : k = m := by omega
    subst hk
    have hBv := BBv
    have q1 : M p 1 = k := by rw [hF _ np.1]; exact hm
    refine k_Num_multiply_96 ha hp ?_
    rw [q1]
    refine ⟨by constructor <;> omega, fun _ => ⟨by constructor <;> omega, by constructor <;> omega, ?_⟩, fun z => absurd z (by omega)⟩
    have e1 : im_u M 933 ((i : Int) + (k : Int)) c 933 = im_up (M 933) (0 + ((i + k : Nat) : Int)) c := by rw [im_u_eq]; congr 1; omega
    refine hK _ (fun w hw => (im_u_ne _ _ _ hw).trans (hF w hw)) ?_ ?_
    · rw [e1]; exact dok_set hdk c0 c1
    · rw [e1, im_up_dv]; exact hv
  | succ j ih =>
    intro k c M hk hF hdk c0 c1 hv
    have hBv := BBv
    have hu := hU i (by omega) (by omega)
    have hl := hL k (by omega) (by omega)
    have hf := hdk ((i + k : Nat) : Int) (by omega) (by omega)
    rw [Int.zero_add] at hu hl hf
    have q1 : M p 1 = m := by rw [hF _ np.1]; exact hm
    have e56 : M (a + 1) = M0 (a + 1) := hF _ na.2
    have e57 : M (p + 1) = M0 (p + 1) := hF _ np.2
    have hij : ((i + k : Nat) : Int) = (i : Int) + (k : Int) := by omega
    rw [hij] at hf
    have hb := mul_bd (B := BB) (by decide) hf hu hl ⟨c0, c1⟩
    refine k_Num_multiply_96 ha hp ?_
    rw [q1, e56, e57]
    have hBB : BB * BB = 1000000000000000000 := by decide
    rw [hBB] at hb
    generalize hve : M 933 ((i : Int) + (k : Int)) + M0 (a + 1) i * M0 (p + 1) k + c = v at hb
    refine ⟨by constructor <;> omega, fun z => absurd z (by omega), fun _ => ?_⟩
    rw [Int.tdiv_eq_ediv_of_nonneg hb.1, Int.tmod_eq_emod_of_nonneg hb.1]
    refine ⟨by constructor <;> omega, by constructor <;> omega, by constructor <;> omega, by constructor <;> omega, by constructor <;> omega, ?_⟩
    have e1 : im_u M 933 ((i : Int) + (k : Int)) (v % 1000000000) 933 = im_up (M 933) (0 + ((i + k : Nat) : Int)) (v % 1000000000) := by rw [im_u_eq]; congr 1; omega
    refine ih (k + 1) (v / 1000000000) _ (by omega) (fun w hw => (im_u_ne _ _ _ hw).trans (hF w hw)) ?_ (by omega) (by omega) ?_
    · rw [e1]; exact dok_set hdk (by omega) (by omega)
    · rw [e1, dv_set (by omega), dv_succ, Int.zero_add, Int.zero_add, hij, ← Nat.add_assoc, Int.pow_succ]
      have h5 := mul_step (B := BB) (P := BB ^ (i + k)) (q := v / 1000000000) (m := v % 1000000000) hve.symm (by rw [BBv]; omega)
      have h6 : M0 (a + 1) i * (M0 (p + 1) k * BB ^ (i + k)) = M0 (a + 1) i * (BB ^ i * (M0 (p + 1) k * BB ^ k)) := by
        rw [Int.pow_add, Int.mul_left_comm (M0 (p + 1) k)]
      rw [Int.mul_add, Int.mul_add]
      omega
/-- the product's limbs go home -/
theorem l_mulC {a : Nat} {s D : Int} {N : Nat} (ha : im_num e a) (hN : N ≤ 34) (hs3 : s = 1 ∨ s = -1) (hdk : dok BB (M0 933) 0 N) (hD : dv BB (M0 933) 0 N = D) (hd : 1 ≤ d)
    (hK1 : sm (s * D) → ∀ M', NR a M0 M' → cn M' a (s * D) → K (.inl (some (vI 1))) e M')
    (hK0 : ¬ sm (s * D) → ∀ M', NR a M0 M' → cn M' a 0 → K (.inl (some (vI 0))) e M') :
    ∀ (j k : Nat) (M : im_M), k + j = N → NF a M0 M → M a 1 = N → M a 0 = s → (∀ i : Int, 0 ≤ i → i < k → M (a + 1) i = M0 933 i) → im_T g d 130 226 [some (.ref a), none, some (.ref 933), none, some (vI k), none, none, none, none, none] [] e M K := by
  have na := im_num_933 ha
  intro j
  induction j with
  | zero =>
    intro k M hk hF h1 h2 hc
    obtain rfl : k = N := by omega
    have hsame : ∀ i : Int, 0 ≤ i → i < k → M0 933 (0 + i) = M (a + 1) (0 + i) := fun i i0 i1 => by rw [Int.zero_add]; exact (hc i i0 i1).symm
    refine k_Num_multiply_226 ha hd ⟨by constructor <;> omega, fun _ => ?_, fun z => absurd z (by omega)⟩
    refine c_settle (n := k) (s := s) (D := D) ha (by omega) (fun z => by omega) hN h1 h2 (dok_congr hsame hdk) ((dv_congr hsame).symm.trans hD) (fun hsm M' hF' hcn => ⟨_, rfl, rfl, by decide, hK1 hsm M' (fun y y1 y2 y3 => ?_) hcn⟩) (fun hsm M' hF' hcn => ⟨_, rfl, rfl, by decide, hK0 hsm M' (fun y y1 y2 y3 => ?_) hcn⟩)
    · rw [hF' y y1]; exact hF y y1 y2
    · rw [hF' y y1]; exact hF y y1 y2
  | succ j ih =>
    intro k M hk hF h1 h2 hc
    have e3 : M 933 = M0 933 := hF _ (Ne.symm na.1) (Ne.symm na.2)
    have hr := hdk k (by omega) (by omega)
    rw [Int.zero_add] at hr
    have hBv := BBv
    refine k_Num_multiply_226 ha hd ?_
    rw [e3]
    refine ⟨by constructor <;> omega, fun z => absurd z (by omega), fun _ => ⟨by constructor <;> omega, by constructor <;> omega, by constructor <;> omega, ?_⟩⟩
    refine ih (k + 1) _ (by omega) (hF.l _ _) ((im_rdn _ _ _ _ (by omega)).trans h1) ((im_rdn _ _ _ _ (by omega)).trans h2) (fun i i0 i1 => ?_)
    by_cases hi : i = k
    · subst hi; rw [im_rds]
    · rw [im_rdk _ _ _ hi]; exact hc i i0 (by omega)
theorem l_mulZ {a p : Nat} {N : Nat} (ha : im_num e a) (hp : im_num e p) (hN : N ≤ 72) (hK : ∀ (M : im_M), (∀ w, w ≠ 933 → M w = M0 w) → (∀ i : Int, 0 ≤ i → i < N → M 933 i = 0) → im_T g d 130 81 [some (.ref a), some (.ref p), some (.ref 933), some (vI N), some (vI 0), none, none, none, none, none] [] e M K) :
    ∀ (j k : Nat) (M : im_M), k + j = N → (∀ w, w ≠ 933 → M w = M0 w) → (∀ i : Int, 0 ≤ i → i < k → M 933 i = 0) → im_T g d 130 61 [some (.ref a), some (.ref p), some (.ref 933), some (vI N), some (vI k), none, none, none, none, none] [] e M K := by
  intro j
  induction j with
  | zero =>
    intro k M hk hF hz
    exact k_Num_multiply_61 ha hp ⟨by constructor <;> omega, by constructor <;> omega, fun _ => hK M hF (fun i i0 i1 => hz i i0 (by omega)), fun z => absurd z (by omega)⟩
  | succ j ih =>
    intro k M hk hF hz
    refine k_Num_multiply_61 ha hp ⟨by constructor <;> omega, by constructor <;> omega, fun z => absurd z (by omega), fun _ => ⟨by constructor <;> omega, ?_⟩⟩
    refine ih (k + 1) _ (by omega) (fun w hw => (im_u_ne _ _ _ hw).trans (hF w hw)) (fun i i0 i1 => ?_)
    by_cases h : i = k
    · subst h; rw [im_rds]
    · rw [im_rdk _ _ _ h]; exact hz i i0 (by omega)
theorem LIM_34 : LIM ≤ BB ^ 34 := by
  have e34 : BB ^ 34 = BB ^ 33 * BB := Int.pow_succ _ _
  have hp := bpow_pos (B := BB) (by decide) 33
  have hB := BBv
  rw [LIM_eq, e34, BBv]
  rw [BBv] at hp
  generalize (1000000000 : Int) ^ 33 = P at *
  omega
theorem sm_s {s D : Int} (hs : s = 1 ∨ s = -1) (h0 : 0 ≤ D) : sm (s * D) ↔ D < LIM := by
  unfold sm
  have := LIM_pos
  rcases hs with w | w
  · rw [w, Int.one_mul]; omega
  · rw [w, Int.neg_mul, Int.one_mul]; omega
/-- the rows of a product -/
theorem l_mulO {a p : Nat} {s : Int} {n m : Nat} (ha : im_num e a) (hp : im_num e p) (hne : a ≠ p) (hn : M0 a 1 = n) (hm : M0 p 1 = m) (hn34 : n ≤ 34) (hm34 : m ≤ 34) (hnm : n + m ≤ 35) (hs : M0 a 0 * M0 p 0 = s) (hs3 : s = 1 ∨ s = -1) (hU : dok BB (M0 (a + 1)) 0 n) (hL : dok BB (M0 (p + 1)) 0 m) (hd : 1 ≤ d)
    (hK1 : sm (s * (dv BB (M0 (a + 1)) 0 n * dv BB (M0 (p + 1)) 0 m)) → ∀ M', NR a M0 M' → cn M' a (s * (dv BB (M0 (a + 1)) 0 n * dv BB (M0 (p + 1)) 0 m)) → K (.inl (some (vI 1))) e M')
    (hK0 : ¬ sm (s * (dv BB (M0 (a + 1)) 0 n * dv BB (M0 (p + 1)) 0 m)) → ∀ M', NR a M0 M' → cn M' a 0 → K (.inl (some (vI 0))) e M') :
    ∀ (j i : Nat) (M : im_M), i + j = n → (∀ w, w ≠ 933 → M w = M0 w) → dok BB (M 933) 0 (n + m) → dv BB (M 933) 0 (i + m) = dv BB (M0 (a + 1)) 0 i * dv BB (M0 (p + 1)) 0 m → im_T g d 130 81 [some (.ref a), some (.ref p), some (.ref 933), some (vI ((n + m : Nat) : Int)), some (vI i), none, none, none, none, none] [] e M K := by
  have na := im_num_933 ha
  have np := im_num_933 hp
  have hBv := BBv
  intro j
  induction j with
  | zero =>
    intro i M hi hF hdk hv
    obtain rfl : i = n := by omega
    have q1 : M a 1 = i := by rw [hF _ na.1]; exact hn
    have q2 : M a 0 * M p 0 = s := by rw [hF _ na.1, hF _ np.1]; exact hs
    have hDp : 0 ≤ dv BB (M0 (a + 1)) 0 i * dv BB (M0 (p + 1)) 0 m := Int.mul_nonneg (dv_bd (by decide) hU).1 (dv_bd (by decide) hL).1
    refine k_Num_multiply_81 ha hp hd ?_
    rw [q1, q2]
    refine ⟨by constructor <;> omega, ⟨fun _ => ⟨by constructor <;> omega, fun c1 c2 => ?_⟩, fun z => absurd z (by omega)⟩, fun c1 => ⟨by constructor <;> omega, by constructor <;> omega, ?_⟩⟩
    · obtain h35 : i + m = 34 + 1 := by omega
      rw [h35] at hv hdk
      have hbig := dv_top (B := BB) (by decide) (o := 0) (n := 34) hdk (by rw [Int.zero_add]; exact c2)
      have := LIM_34
      refine c_clear ha (fun M' hF' hcn => ⟨rfl, rfl, hK0 (fun z => ?_) M' (fun y y1 y2 y3 => ?_) hcn⟩)
      · rw [sm_s hs3 hDp] at z; omega
      · rw [hF' y y1]; exact hF y y3
    · have hD : dv BB (M 933) 0 (min (i + m) 34) = dv BB (M0 (a + 1)) 0 i * dv BB (M0 (p + 1)) 0 m := by
        rw [← hv]
        by_cases h : i + m ≤ 34
        · rw [Nat.min_eq_left h]
        · have h35 : i + m = 34 + 1 := by omega
          have h0 : M 933 ((34 : Nat) : Int) = 0 := by
            rcases c1 with z | z
            · omega
            · exact z.2.2
          rw [h35, dv_s0, h0, Int.zero_mul, Int.add_zero]; rfl
      have e5 : min ((i + m : Nat) : Int) 34 = ((min (i + m) 34 : Nat) : Int) := by omega
      rw [e5]
      have e6 : im_u (im_u M a 0 s) a 1 ((min (i + m) 34 : Nat) : Int) 933 = M 933 := by rw [im_u_ne _ _ _ (Ne.symm na.1), im_u_ne _ _ _ (Ne.symm na.1)]
      have hfr : ∀ M', NR a (im_u (im_u M a 0 s) a 1 ((min (i + m) 34 : Nat) : Int)) M' → NR a M0 M' := fun M' h y y1 y2 y3 => by rw [h y y1 y2 y3, im_u_ne _ _ _ y1, im_u_ne _ _ _ y1]; exact hF y y3
      refine l_mulC (N := min (i + m) 34) (s := s) (D := dv BB (M0 (a + 1)) 0 i * dv BB (M0 (p + 1)) 0 m) ha (by omega) hs3 (by rw [e6]; exact hdk.le (by omega)) (by rw [e6]; exact hD) hd (fun hsm M' h hcn => hK1 hsm M' (hfr M' h) hcn) (fun hsm M' h hcn => hK0 hsm M' (hfr M' h) hcn) (min (i + m) 34) 0 _ (by omega) (NF.rf _ _) (im_rds _ _ _ _) ?_ (fun z z0 z1 => by omega)
      rw [im_rdk _ _ _ (by decide), im_rds]
  | succ j ih =>
    intro i M hi hF hdk hv
    have q1 : M a 1 = n := by rw [hF _ na.1]; exact hn
    refine k_Num_multiply_81 ha hp hd ?_
    rw [q1]
    refine ⟨by constructor <;> omega, ⟨fun z => absurd z (by omega), fun _ => ?_⟩, fun c1 => by omega⟩
    refine l_mulI (M0 := M0) (X := dv BB (M0 (a + 1)) 0 i * dv BB (M0 (p + 1)) 0 m) ha hp hm hm34 hn34 hU hL (by omega) (fun M1 hF1 hd1 hv1 => ?_) m 0 0 M (by omega) hF hdk (by decide) (by decide) ?_
    · refine ih (i + 1) M1 (by omega) hF1 hd1 ?_
      rw [show i + 1 + m = i + m + 1 from by omega, hv1, dv_succ, Int.zero_add, Int.add_mul, Int.mul_assoc]
    · show _ + 0 * _ = _ + _ * (_ * 0)
      rw [Int.zero_mul, Int.mul_zero, Int.mul_zero, Int.add_zero, Int.add_zero]
      exact hv
theorem c_mul {a p : Nat} {va vb : Int} (ha : im_num e a) (hp : im_num e p) (hne : a ≠ p) (hva : cn M a va) (hvb : cn M p vb) (hd : 1 ≤ d)
    (hK1 : sm (va * vb) → ∀ M', NR a M M' → cn M' a (va * vb) → K (.inl (some (vI 1))) e M')
    (hK0 : ¬ sm (va * vb) → ∀ M', NR a M M' → cn M' a 0 → K (.inl (some (vI 0))) e M') : im_T g d 130 0 [some (.ref a), some (.ref p), some (.ref 933), none, none, none, none, none, none, none] [] e M K := by
  obtain ⟨n, a1, a2, a3, a4, a5, a6⟩ := hva
  obtain ⟨m, b1, b2, b3, b4, b5, b6⟩ := hvb
  have hBv := BBv
  have ev : M a 0 * M p 0 * (dv BB (M (a + 1)) 0 n * dv BB (M (p + 1)) 0 m) = va * vb := by
    rw [a5, b5, Int.mul_assoc, Int.mul_assoc, Int.mul_left_comm (dv BB (M (a + 1)) 0 n)]
  refine k_Num_multiply_0 ha hp hd ⟨fun c1 c2 => ⟨by constructor <;> omega, fun c3 => ?_⟩, fun hor => ⟨fun c1 c2 => ?_, fun c1 => ?_⟩⟩
  · rw [a1, b1, show (n : Int) + m = ((n + m : Nat) : Int) from by omega]
    have hs3 : M a 0 * M p 0 = 1 ∨ M a 0 * M p 0 = -1 := by
      rcases a4 with ⟨z, _⟩ | ⟨z | z, _⟩ <;> rcases b4 with ⟨w, _⟩ | ⟨w | w, _⟩ <;> first | omega | (rw [z, w]; decide)
    refine l_mulZ (M0 := M) ha hp (by omega) (fun M1 hF1 hz => ?_) (n + m) 0 M (by omega) (fun _ _ => rfl) (fun i i0 i1 => by omega)
    refine l_mulO (M0 := M) (s := M a 0 * M p 0) ha hp hne a1 b1 a2 b2 (by omega) rfl hs3 a3.1 b3.1 hd (by rw [ev]; exact hK1) (by rw [ev]; exact hK0) n 0 M1 (by omega) hF1 (fun i i0 i1 => by rw [Int.zero_add, hz i i0 i1]; decide) ?_
    show dv BB (M1 933) 0 (0 + m) = 0 * _
    rw [Int.zero_mul, Nat.zero_add]
    have := dv_zeros (B := BB) (f := M1 933) (o := 0) (n := 0) (k := m) (fun i i0 i1 => by rw [Int.zero_add]; exact hz i (by omega) (by omega))
    rw [Nat.zero_add] at this
    exact this
  · refine c_clear ha (fun M' hF' hcn => ⟨rfl, rfl, hK0 (fun z => ?_) M' (fun y y1 y2 y3 => hF' y y1) hcn⟩)
    have hs3 : M a 0 * M p 0 = 1 ∨ M a 0 * M p 0 = -1 := by
      rcases a4 with ⟨z, _⟩ | ⟨z | z, _⟩ <;> rcases b4 with ⟨w, _⟩ | ⟨w | w, _⟩ <;> first | omega | (rw [z, w]; decide)
    have n1 : 0 < n := by omega
    have m1 : 0 < m := by omega
    have g1 := dnf_pos (B := BB) (by decide) a3 n1
    have g2 := dnf_pos (B := BB) (by decide) b3 m1
    have p1 := bpow_pos (B := BB) (by decide) (n - 1)
    have p2 := bpow_pos (B := BB) (by decide) (m - 1)
    have g3 : BB ^ (n - 1) * BB ^ (m - 1) ≤ dv BB (M (a + 1)) 0 n * dv BB (M (p + 1)) 0 m := Int.mul_le_mul g1 g2 (by omega) (by omega)
    rw [← Int.pow_add] at g3
    have h36 : 35 < n + m := by omega
    have g4 := bpow_le (B := BB) (by decide) (n := 34) (m := n - 1 + (m - 1)) (by omega)
    have := LIM_34
    rw [← ev, sm_s hs3 (Int.mul_nonneg (by omega) (by omega))] at z
    omega
  · have ez : va * vb = 0 := by
      rw [← ev]
      rcases c1 with z | z
      · rw [z, Int.zero_mul, Int.zero_mul]
      · rw [z.2, Int.mul_zero, Int.zero_mul]
    rw [ez] at hK1
    exact c_clear ha (fun M' hF' hcn => ⟨rfl, rfl, hK1 sm_zero M' (fun y y1 y2 y3 => hF' y y1) hcn⟩)
end CNUM3
