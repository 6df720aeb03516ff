/-! A RECORD that is read: its text by the class; all by the reference -/
/-- the text of the record at p -/
def rtT (D : Int → Int) (p : Int) (i : Int) : Int := D (p + 3 + 8 * xrec (knR D p) + i)
def rtN (D : Int → Int) (p : Int) : Int := szR D p - 7 - 8 * xrec (knR D p)
theorem isR_b {D : Int → Int} {p : Int} (h : isR D p) : 0 ≤ xrec (knR D p) ∧ xrec (knR D p) ≤ 3 ∧ 0 ≤ rtN D p ∧ 7 ≤ szR D p ∧ p + 7 ≤ 16384 := by
  obtain ⟨h1, h2, h3, h4, _⟩ := h
  have hx := xrec_in (knR D p).toNat
  have hxr : 0 ≤ xrec (knR D p) ∧ xrec (knR D p) ≤ 3 := hx
  unfold rtN
  by_cases c : txK (knR D p)
  · have := h3 c; omega
  · have := h4 c; omega
section JREAD2
variable {g : im_g} {d : Nat} {e : im_E} {M : im_M} {K : im_K} {D : Int → Int} {u : Int}
theorem l_textInto {f n : Int} (h : jD M D u) (hf : 0 ≤ f ∧ 0 ≤ n ∧ f + n ≤ 16384) (hK : ∀ M', (∀ x, x ≠ 1 → M' x = M x) → txt (M' 1) (fun i => D (f + i)) n → K (.inl (some (vI n))) e M') : ∀ (j k : Nat) (M1 : im_M), (k : Int) + j = n → (∀ x, x ≠ 1 → M1 x = M x) → txt (M1 1) (fun i => D (f + i)) k → im_T g d 34 50 [some (.ref 2068), some (.ref 1), none, some (vI (f + n)), some (vI k), some (vI (f + k))] [] e M1 K := by
  intro j
  induction j with
  | zero =>
    intro k M1 hk hF ht
    have ek : (k : Int) = n := by omega
    refine k_Journal_textInto_50 sf_1 (by decide) ⟨by constructor <;> omega, by constructor <;> omega, fun z => by omega, fun _ => ?_⟩
    rw [ek] at ht ⊢
    exact hK M1 hF ht
  | succ j ih =>
    intro k M1 hk hF ht
    have hb := h.1 (f + k) (by omega) (by omega)
    refine k_Journal_textInto_50 sf_1 (by decide) ⟨by constructor <;> omega, by constructor <;> omega, fun _ _ => ⟨by constructor <;> omega, by decide, fun _ => ⟨⟨by omega, by omega⟩, ⟨by omega, by omega⟩, ?_⟩⟩, fun z => by omega⟩
    have := ih (k + 1) (im_u M1 1 k ((M1 2069 (f + k)).bmod 256)) (by omega) (fun x hx => by rw [im_u_ne _ _ _ hx]; exact hF x hx) (fun i i0 i1 => ?_)
    · rw [show (f + ((k + 1 : Nat) : Int)) = f + k + 1 by omega] at this
      exact this
    · rw [im_rdx]
      by_cases c : i = k
      · rw [if_pos c, hF 2069 (by decide), c]
        have e1 : (M 2069 (f + k)).bmod 256 = M 2069 (f + k) := by
          have hr : -128 ≤ M 2069 (f + k) ∧ M 2069 (f + k) < 128 := by omega
          unfold Int.bmod
          by_cases c2 : 0 ≤ M 2069 (f + k)
          · rw [Int.emod_eq_of_lt (by omega) (by omega), if_pos (by omega)]
          · rw [show M 2069 (f + k) % ((256 : Nat) : Int) = M 2069 (f + k) + 256 by omega, if_neg (by omega)]; omega
        rw [e1]
        exact hb
      · rw [if_neg c]; exact ht i i0 (by omega)
theorem c_textInto (h : jD M D u) (hR : isR D u) (hd : 1 ≤ d) (hK : ∀ M', (∀ x, x ≠ 1 → M' x = M x) → txt (M' 1) (rtT D u) (rtN D u) → K (.inl (some (vI (rtN D u)))) e M') : im_T g d 34 0 [some (.ref 2068), some (.ref 1), none, none, none, none] [] e M K := by
  obtain ⟨x0, x3, n0, s7, _⟩ := isR_b hR
  have hu := h.2.2
  have h2 := hR.2.1
  have hk8 := hR.1
  refine k_Journal_textInto_0 sf_1 (by decide) hd (c_kindHere h ⟨_, rfl, rfl, by constructor <;> omega, fun z => by omega, fun _ => c_kindHere h ⟨_, rfl, rfl, ⟨by omega, by omega⟩, c_lengthHere h ⟨_, rfl, rfl, ?_⟩⟩⟩)
  rw [h.2.1]
  have e1 : rtN D u = szR D u - 7 - 8 * xrec (knR D u) := rfl
  have := l_textInto (g := g) (d := d) (e := e) (K := K) (f := u + 3 + 8 * xrec (knR D u)) (n := rtN D u) h ⟨by omega, n0, by omega⟩ hK (rtN D u).toNat 0 M (by omega) (fun _ _ => rfl) (fun i a b => by omega)
  rw [show (u + 3 + 8 * xrec (knR D u) + ((0 : Nat) : Int)) = u + 3 + 8 * xrec (knR D u) by omega, show u + 3 + 8 * xrec (knR D u) + rtN D u = u + szR D u - 4 by omega] at this
  exact this
/-- the reference's disk -/
def jR (M : im_M) (D : Int → Int) : Prop := RDk M D ∧ ∀ i, 0 ≤ i → i < 16384 → 0 ≤ D i ∧ D i < 256
/-- only the check changes -/
def kF (M M' : im_M) : Prop := (∀ x, x ≠ 6952 → M' x = M x) ∧ (∀ k, k ≠ 181 → M' 6952 k = M 6952 k)
theorem kF.rf (M : im_M) : kF M M := ⟨fun _ _ => rfl, fun _ _ => rfl⟩
theorem kF.trans {M M1 M2 : im_M} (h : kF M M1) (h' : kF M1 M2) : kF M M2 := ⟨fun x a => (h'.1 x a).trans (h.1 x a), fun k a => (h'.2 k a).trans (h.2 k a)⟩
theorem c_numbersOf {k : Int} (hk : 1 ≤ k ∧ k ≤ 8) (hK : K (.inl (some (vI (xrec k)))) e M) : im_T g d 447 0 [some (vI k)] [] e M K := by
  have hc : k = 1 ∨ k = 2 ∨ k = 3 ∨ k = 4 ∨ k = 5 ∨ k = 6 ∨ k = 7 ∨ k = 8 := by omega
  refine b_numbersOf_0 ⟨by constructor <;> omega, fun hor => ?_, fun x hx => ?_⟩
  · have : xrec k = 3 := by rcases hor with z | z; rw [z]; rfl; rw [z.2]; rfl
    rw [this] at hK; exact hK
  · have : x = xrec k := by
      rcases hc with z | z | z | z | z | z | z | z <;> subst z
      · show x = 1; omega
      · show x = 1; omega
      · omega
      · show x = 1; omega
      · show x = 2; omega
      · omega
      · show x = 1; omega
      · show x = 0; omega
    rw [this]; exact hK
theorem l_isR171 {s : Int} (hD : jR M D) (hu : 0 ≤ u) (hs : 7 ≤ s ∧ u + s ≤ 16384) {C : Int} (hC : M 6952 181 = C) (hCi : im_i32 C) (hK : ∀ x, (x = 0 ∨ x = 1) → (x = 1 ↔ ∀ i : Nat, i < 4 → D (u + s - 4 + i) = by4 C i) → K (.inl (some (vI x))) e M) : ∀ (j k : Nat) (p : Int), k + j = 4 → (p = 0 ∨ p = 1) → (p = 1 ↔ ∀ i : Nat, i < k → D (u + s - 4 + i) = by4 C i) → im_T g d 446 171 [some (.ref 6952), some (vI u), some (vI s), none, none, none, some (vI p), some (vI k)] [] e M K := by
  intro j
  induction j with
  | zero =>
    intro k p hk hp hiff
    have : k = 4 := by omega
    subst this
    exact b_isRecord_171 ⟨by decide, ⟨fun _ => ⟨by omega, hK p hp hiff⟩, fun z => absurd z (by decide)⟩, fun z => by omega⟩
  | succ j ih =>
    intro k p hk hp hiff
    have hb := by4_s hCi (k := k) (by omega)
    have e1 : M 7080 (u + s - 4 + k) = D (u + s - 4 + k) := hD.1 _ (by omega) (by omega)
    have r1 : ((k + 1 : Nat) : Int) = (k : Int) + 1 := by omega
    refine b_isRecord_171 ?_
    rw [e1, hC, xiand_255, hb]
    refine ⟨by constructor <;> omega, ⟨fun z => by omega, fun _ => ⟨by rcases hp with z | z <;> rw [z] <;> decide, fun hp1 => ⟨⟨by omega, by omega⟩, fun heq => ?_⟩⟩⟩, fun hor => ?_⟩
    · have h0 := hiff.mp (by omega)
      have := ih (k + 1) 1 (by omega) (Or.inr rfl) ⟨fun _ i hi => ?_, fun _ => rfl⟩
      · rw [r1] at this; exact this
      · by_cases c : i = k
        · rw [c]; exact heq
        · exact h0 i (by omega)
    · have := ih (k + 1) 0 (by omega) (Or.inl rfl) ⟨fun z => absurd z (by decide), fun z => ?_⟩
      · rw [r1] at this; exact this
      · exfalso
        rcases hor with q | q
        · have := hiff.mpr (fun i hi => z i (by omega)); omega
        · exact q.2.2 (z k (by omega))
theorem l_isR133 {s : Int} {M0 : im_M} (hD : jR M0 D) (hu : 0 ≤ u) (hs : 7 ≤ s ∧ u + s ≤ 16384) (hd : 2 ≤ d) (hK : ∀ x M', kF M0 M' → (x = 0 ∨ x = 1) → (x = 1 ↔ ∀ i : Nat, i < 4 → D (u + s - 4 + i) = by4 (cRd D u s) i) → K (.inl (some (vI x))) e M') : ∀ (j k : Nat) (M : im_M), k + j = (s - 4).toNat → kF M0 M → M 6952 181 = chk (fun i => D (u + i)) k → im_T g d 446 133 [some (.ref 6952), some (vI u), some (vI s), none, none, none, some (vI k), none] [] e M K := by
  intro j
  induction j with
  | zero =>
    intro k M hk hF h181
    have ek : k = (s - 4).toNat := by omega
    refine b_isRecord_133 (by omega) ⟨by constructor <;> omega, by constructor <;> omega, fun _ => ?_, fun z => by omega⟩
    refine c_rcheckPlace (u := u) (by omega) h181 (by omega) (fun M1 f1 f2 f3 => ⟨rfl, rfl, ?_⟩)
    have F1 : kF M0 M1 := hF.trans ⟨f1, f2⟩
    have hD1 : jR M1 D := ⟨fun x a b => by rw [F1.1 7080 (by decide)]; exact hD.1 x a b, hD.2⟩
    refine l_isR171 hD1 hu hs (C := cRd D u s) (by rw [f3, ek]; rfl) (mx_i32 _ _) (fun x hx hiff => hK x M1 F1 hx hiff) 4 0 1 rfl (Or.inr rfl) ⟨fun _ i hi => absurd hi (Nat.not_lt_zero i), fun _ => rfl⟩
  | succ j ih =>
    intro k M hk hF h181
    have hs' : chk (fun i => D (u + i)) (k + 1) = mx (chk (fun i => D (u + i)) k) (D (u + k)) := rfl
    have e1 : M 7080 (u + k) = D (u + k) := by rw [hF.1 7080 (by decide)]; exact hD.1 _ (by omega) (by omega)
    refine b_isRecord_133 (by omega) ⟨by constructor <;> omega, by constructor <;> omega, fun z => by omega, fun _ => ⟨⟨by omega, by omega⟩, b_checkByte' ⟨rfl, rfl, ?_⟩⟩⟩
    have := ih (k + 1) (im_u M 6952 181 (((xixor (M 6952 181) (xiand (M 7080 (u + k)) 255)) * 16777619).bmod 4294967296)) (by omega) (hF.trans ⟨fun x a => im_u_ne _ _ _ a, fun q a => im_rdk _ _ _ a⟩) (by rw [im_rds, hs', h181, e1, xiand_255]; rfl)
    rw [show ((k + 1 : Nat) : Int) = (k : Int) + 1 by omega] at this
    exact this
theorem c_isRecord (hD : jR M D) (hu : 0 ≤ u ∧ u ≤ 16384) (hd : 3 ≤ d) (hK1 : isR D u → ∀ M', kF M M' → K (.inl (some (vI 1))) e M') (hK0 : ¬ isR D u → ∀ M', kF M M' → K (.inl (some (vI 0))) e M') : im_T g d 446 0 [some (.ref 6952), some (vI u), none, none, none, none, none, none] [] e M K := by
  refine b_isRecord_0 (by omega) ⟨by constructor <;> omega, fun h7 => ?_, fun h7 => hK0 (fun z => by have := isR_b z; omega) M (kF.rf M)⟩
  have d0 := hD.2 u (by omega) (by omega)
  have d1 := hD.2 (u + 1) (by omega) (by omega)
  have d2 := hD.2 (u + 2) (by omega) (by omega)
  have e0 : M 7080 u = D u := hD.1 _ (by omega) (by omega)
  have e1 : M 7080 (u + 1) = D (u + 1) := hD.1 _ (by omega) (by omega)
  have e2 : M 7080 (u + 2) = knR D u := by rw [hD.1 (u + 2) (by omega) (by omega)]; unfold knR; rw [if_pos (by omega)]
  have hsz : xior (xishl (M 7080 u) 8) (M 7080 (u + 1)) = szR D u := by
    rw [e0, e1, xior_8 d0.1 (by omega) d1.1 d1.2]; unfold szR; rw [if_pos (by omega)]
  have hkn : 0 ≤ knR D u ∧ knR D u < 256 := by unfold knR; rw [if_pos (by omega)]; exact d2
  have sb := szR_b (D := D) (u := u) hD.2 hu.1
  rw [hsz, e2]
  refine ⟨⟨by omega, by omega⟩, ⟨by omega, by omega⟩, ⟨by omega, by omega⟩, fun s7 => ⟨by constructor <;> omega, fun hle => ?_⟩, fun hor => hK0 (fun z => by have := isR_b z; have := z.2.1; omega) M (kF.rf M)⟩
  have fin : ∀ (hk : 1 ≤ knR D u ∧ knR D u ≤ 8), ((txK (knR D u) → 7 + 8 * xrec (knR D u) ≤ szR D u) ∧ (¬ txK (knR D u) → szR D u = 7 + 8 * xrec (knR D u))) → im_T g d 446 133 [some (.ref 6952), some (vI u), some (vI (szR D u)), none, none, none, some (vI 0), none] [] e (im_u M 6952 181 (-2128831035)) K := by
    intro hk hA
    have F0 : kF M (im_u M 6952 181 (-2128831035)) := ⟨fun x a => im_u_ne _ _ _ a, fun q a => im_rdk _ _ _ a⟩
    refine l_isR133 (M0 := M) hD hu.1 ⟨s7, hle⟩ (by omega) (fun x M' F' hx hiff => ?_) (szR D u - 4).toNat 0 _ (by omega) F0 (im_rds _ _ _ _)
    by_cases c : ∀ i : Nat, i < 4 → D (u + szR D u - 4 + i) = by4 (cRd D u (szR D u)) i
    · rw [hiff.mpr c]
      exact hK1 ⟨hk, hle, hA.1, hA.2, c⟩ M' F'
    · have : x = 0 := by
        rcases hx with z | z
        · exact z
        · exact absurd (hiff.mp z) c
      rw [this]
      exact hK0 (fun z => c z.2.2.2.2) M' F'
  refine c_isIn (by constructor <;> omega) (by decide) (by decide) (fun hk => ⟨_, rfl, rfl, by decide, fun z => absurd z (by decide), fun hor => c_numbersOf hk ⟨_, rfl, rfl, ?_⟩, fun hor => c_numbersOf hk ⟨_, rfl, rfl, ?_⟩⟩) (fun hk => ⟨_, rfl, rfl, by decide, fun _ => hK0 (fun z => hk z.1) M (kF.rf M), fun z => by omega, fun z => by omega⟩)
  · have hx := xrec_in (knR D u).toNat
    have hxr : 0 ≤ xrec (knR D u) ∧ xrec (knR D u) ≤ 3 := hx
    have htx : txK (knR D u) := by unfold txK; omega
    refine ⟨by constructor <;> omega, fun hlt => hK0 (fun z => by have := z.2.2.1 htx; omega) M (kF.rf M), fun hge => fin hk ⟨fun _ => hge, fun z => absurd htx z⟩⟩
  · have hx := xrec_in (knR D u).toNat
    have hxr : 0 ≤ xrec (knR D u) ∧ xrec (knR D u) ≤ 3 := hx
    have htx : ¬ txK (knR D u) := by unfold txK; omega
    refine ⟨by constructor <;> omega, fun hge heq => fin hk ⟨fun z => absurd z htx, fun _ => heq⟩, fun hor2 => hK0 (fun z => by have := z.2.2.2.1 htx; omega) M (kF.rf M)⟩
theorem l_diskNumber {a : Int} (hD : jR M D) (ha : 0 ≤ a ∧ a + 8 ≤ 16384) (hK : K (.inl (some (vL (dnV D a 8)))) e M) : ∀ (j k : Nat), k + j = 8 → im_T g d 448 5 [some (.ref 6952), some (vI a), some (vL (dnV D a k)), none, some (vI k)] [] e M K := by
  intro j
  induction j with
  | zero =>
    intro k hk
    have : k = 8 := by omega
    subst this
    exact b_diskNumber_5 ⟨by decide, fun _ => hK, fun z => absurd z (by decide)⟩
  | succ j ih =>
    intro k hk
    have := ih (k + 1) (by omega)
    have hs : dnV D a (k + 1) = xlor (xlshl (dnV D a k) 8) (if 0 ≤ a + k ∧ a + k < 16384 then D (a + k) else 0) := rfl
    rw [hs, if_pos ⟨by omega, by omega⟩, show ((k + 1 : Nat) : Int) = (k : Int) + 1 by omega] at this
    refine b_diskNumber_5 ⟨by constructor <;> omega, fun z => by omega, fun _ => ⟨⟨by omega, by omega⟩, ?_⟩⟩
    rw [hD.1 (a + k) (by omega) (by omega)]; exact this
theorem c_diskNumber {a : Int} (hD : jR M D) (ha : 0 ≤ a ∧ a + 8 ≤ 16384) (hK : K (.inl (some (vL (dnV D a 8)))) e M) : im_T g d 448 0 [some (.ref 6952), some (vI a), none, none, none] [] e M K :=
  b_diskNumber_0 (l_diskNumber hD ha hK 8 0 rfl)
end JREAD2
