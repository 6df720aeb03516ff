/-! THE REFERENCE tells a try -/
def rPe (M : im_M) (T : Int) (j : Nat) (p : Pe) : Prop := (p.1 = -1 → M 7074 j = 0) ∧ (p.1 ≠ -1 → M 7074 j = p.1 - 20) ∧ (p.1 = 28 ∨ p.1 = 29 → M 7075 j = p.2.1 ∧ M 7076 j = p.2.2.1 ∧ rnp M 0 T (M 7078 j) p.2.2.2.2.1) ∧ (p.1 = 28 → M 7077 j = p.2.2.2.1) ∧ M 7079 j = p.2.2.2.2.2
theorem rPe.fr {M M' : im_M} {j : Nat} {p : Pe} {T : Int} (h : rPe M T j p) (F : qF M M') : rPe M' T j p := by
  obtain ⟨h0, h1, h2, h3, h4⟩ := h
  have ex : ∀ x, 7074 ≤ x → M' x = M x := fun x a => F.1 x (by omega) (by omega)
  refine ⟨fun z => by rw [ex 7074 (by decide)]; exact h0 z, fun z => by rw [ex 7074 (by decide)]; exact h1 z, fun z => ?_, fun z => by rw [ex 7077 (by decide)]; exact h3 z, by rw [ex 7079 (by decide)]; exact h4⟩
  obtain ⟨a, b, c⟩ := h2 z
  exact ⟨by rw [ex 7075 (by decide)]; exact a, by rw [ex 7076 (by decide)]; exact b, by rw [ex 7078 (by decide)]; exact rnp_congr c (fun i _ => by rw [F.1 6955 (by decide) (by decide)]) (Int.le_refl _)⟩
section RPATH
variable {g : im_g} {d : Nat} {e : im_E} {M : im_M} {K : im_K}
theorem nm_wait : nmB 2002872692 ≠ [] := by decide
theorem nm_28 : nmB (kwv 28) ≠ [] ∧ nmB (kwv 29) ≠ [] ∧ nmB (kwv 30) ≠ [] := by decide
theorem kw_28 : kwv 28 = 28259031251642740 ∧ kwv 29 = 109300196926309 ∧ kwv 30 = 121424973489785 := by decide
theorem c_tellTry {L : List Int} {p : Pe} {j : Nat} {T : Int} (hj : j < 402) (hp : peO p) (hc : rPe M T j p) (hT : T ≤ 1100000) (ho : rOL M L) (hd : 3 ≤ d) (hK : ∀ M', qF M M' → rOL M' (ltk L (peT p)) → K (.inl none) e M') : im_T g d 438 0 [some (.ref 6952), some (vI j)] [] e M K := by
  obtain ⟨p1, p2, p3, p4⟩ := hp
  obtain ⟨h0, h1, h2, h3, h4⟩ := hc
  refine b_tellTry_0 (by omega) ⟨⟨by omega, by omega⟩, ?_⟩
  have ex : ∀ {N : im_M}, qF M N → ∀ x, 7074 ≤ x → N x = M x := fun F x a => F.1 x (by omega) (by omega)
  have last : ∀ (N : im_M) (L' : List Int), qF M N → rOL N L' → L'.length ≠ 0 → ltk L' [numB p.2.2.2.2.2] = ltk L (peT p) → im_T g (d - 1) 322 0 [some (.ref 6952), some (vI 32)] [] e N (im_r0 fun e_ M33 => e = e_ ∧ im_T g (d - 1) 327 0 [some (.ref 6952), some (vL (M33 7079 j)), none, none, none, none, none] [] e M33 (im_r0 fun e_ M35 => e = e_ ∧ K (.inl none) e M35)) := by
    intro N L' F o hL hE
    refine c_rgap o hL (fun N1 F1 o1 => ⟨rfl, rfl, ?_⟩)
    rw [ex (F.trans F1) 7079 (by decide), h4]
    exact c_rlongL p4 o1 (by omega) (fun M' F' o' => ⟨rfl, rfl, hK M' ((F.trans F1).trans F') (by rw [← hE, ltk_cons, ltk_nil]; exact o')⟩)
  have at' : ∀ (N : im_M) (L' : List Int), qF M N → rOL N L' → L'.length ≠ 0 → ltk L' [nmB 24948, numB p.2.2.2.2.2] = ltk L (peT p) → im_T g (d - 1) 320 0 [some (.ref 6952), some (vL 24948), none] [] e N (im_r0 fun e_ M32 => e = e_ ∧ im_T g (d - 1) 322 0 [some (.ref 6952), some (vI 32)] [] e M32 (im_r0 fun e_ M33 => e = e_ ∧ im_T g (d - 1) 327 0 [some (.ref 6952), some (vL (M33 7079 j)), none, none, none, none, none] [] e M33 (im_r0 fun e_ M35 => e = e_ ∧ K (.inl none) e M35))) := by
    intro N L' F o hL hE
    exact c_rwordL (by decide) o (by omega) (fun M' F' o' => ⟨rfl, rfl, last M' _ (F.trans F') o' (ltk_pos _ _ hL) ((ltk_one _ _ _).trans hE)⟩)
  have num : ∀ (N : im_M) (L' : List Int), (p.1 = 28 ∨ p.1 = 29) → qF M N → rOL N L' → L'.length ≠ 0 → ltk L' [numB p.2.2.2.2.1, nmB 24948, numB p.2.2.2.2.2] = ltk L (peT p) → im_T g (d - 1) 322 0 [some (.ref 6952), some (vI 32)] [] e N (im_r0 fun e_ M29 => e = e_ ∧ im_T g (d - 1) 324 0 [some (.ref 6952), some (vI (M29 7078 j)), none] [] e M29 (im_r0 fun e_ M31 => e = e_ ∧ im_T g (d - 1) 320 0 [some (.ref 6952), some (vL 24948), none] [] e M31 (im_r0 fun e_ M32 => e = e_ ∧ im_T g (d - 1) 322 0 [some (.ref 6952), some (vI 32)] [] e M32 (im_r0 fun e_ M33 => e = e_ ∧ im_T g (d - 1) 327 0 [some (.ref 6952), some (vL (M33 7079 j)), none, none, none, none, none] [] e M33 (im_r0 fun e_ M35 => e = e_ ∧ K (.inl none) e M35))))) := by
    intro N L' hk F o hL hE
    refine c_rgap o hL (fun N1 F1 o1 => ⟨rfl, rfl, ?_⟩)
    have F1 := F.trans F1
    obtain ⟨_, _, c⟩ := h2 hk
    rw [ex F1 7078 (by decide)]
    exact c_rnumberL (rnp_congr c (fun i _ => by rw [F1.1 6955 (by decide) (by decide)]) (Int.le_refl _)) hT o1 (by omega) (fun M' F' o' => ⟨rfl, rfl, at' M' _ (F1.trans F') o' (lps_pos _ _ (lga_pos hL)) ((ltk_cons _ _ _).symm.trans hE)⟩)
  rcases p1 with z | z | z | z
  · have eT : peT p = [nmB 2002872692, numB p.2.2.2.2.2] := by unfold peT; rw [if_pos z]
    rw [h0 z]
    refine ⟨fun _ => ?_, fun x hx => by omega⟩
    exact c_rwordL (by decide) ho (by omega) (fun M' F' o' => ⟨rfl, rfl, last M' _ F' o' (ltk_pos1 nm_wait _ _) (by rw [eT]; simp only [ltk_cons, ltk_nil])⟩)
  · have eT : peT p = [nmB (kwv 28), nmB p.2.1, nmB p.2.2.1, nmB p.2.2.2.1, numB p.2.2.2.2.1, nmB 24948, numB p.2.2.2.2.2] := by unfold peT; rw [if_neg (by omega), if_neg (by omega), if_neg (by omega)]
    have hk : M 7074 j = 8 := by rw [h1 (by omega), z]; rfl
    rw [hk]
    refine ⟨fun z => absurd z (by decide), fun x hx => ?_⟩
    have hx : x = kwv 28 := by rw [kw_28.1]; omega
    obtain ⟨a1, a2, _⟩ := h2 (Or.inl z)
    obtain ⟨n1, n2⟩ := p2 (Or.inl z)
    rw [hx]
    refine c_rwordL (kwv_r (by decide)) ho (by omega) (fun M1 F1 o1 => ⟨rfl, rfl, ?_⟩)
    have l1 := ltk_pos1 nm_28.1 [] L
    rw [ex F1 7074 (by decide), hk, ex F1 7075 (by decide), a1]
    refine ⟨fun z => absurd z (by decide), fun _ => c_rwordL n1 o1 (by omega) (fun M2 F2 o2 => ⟨rfl, rfl, ?_⟩)⟩
    have F2 := F1.trans F2
    have l2 := ltk_pos [nmB p.2.1] _ l1
    rw [ex F2 7076 (by decide), a2]
    refine c_rwordL n2 o2 (by omega) (fun M3 F3 o3 => ⟨rfl, rfl, ?_⟩)
    have F3 := F2.trans F3
    have l3 := ltk_pos [nmB p.2.2.1] _ l2
    rw [ex F3 7074 (by decide), hk, ex F3 7077 (by decide), h3 z]
    refine ⟨fun z => absurd rfl z, fun _ => c_rwordL (p3 z) o3 (by omega) (fun M4 F4 o4 => ⟨rfl, rfl, num M4 _ (Or.inl z) (F3.trans F4) o4 (ltk_pos _ _ l3) (by rw [eT]; simp only [ltk_cons, ltk_nil])⟩)⟩
  · have eT : peT p = [nmB (kwv 29), nmB p.2.1, nmB p.2.2.1, numB p.2.2.2.2.1, nmB 24948, numB p.2.2.2.2.2] := by unfold peT; rw [if_neg (by omega), if_neg (by omega), if_pos z]
    have hk : M 7074 j = 9 := by rw [h1 (by omega), z]; rfl
    rw [hk]
    refine ⟨fun z => absurd z (by decide), fun x hx => ?_⟩
    have hx : x = kwv 29 := by rw [kw_28.2.1]; omega
    obtain ⟨a1, a2, _⟩ := h2 (Or.inr z)
    obtain ⟨n1, n2⟩ := p2 (Or.inr z)
    rw [hx]
    refine c_rwordL (kwv_r (by decide)) ho (by omega) (fun M1 F1 o1 => ⟨rfl, rfl, ?_⟩)
    have l1 := ltk_pos1 nm_28.2.1 [] L
    rw [ex F1 7074 (by decide), hk, ex F1 7075 (by decide), a1]
    refine ⟨fun z => absurd z (by decide), fun _ => c_rwordL n1 o1 (by omega) (fun M2 F2 o2 => ⟨rfl, rfl, ?_⟩)⟩
    have F2 := F1.trans F2
    have l2 := ltk_pos [nmB p.2.1] _ l1
    rw [ex F2 7076 (by decide), a2]
    refine c_rwordL n2 o2 (by omega) (fun M3 F3 o3 => ⟨rfl, rfl, ?_⟩)
    have F3 := F2.trans F3
    rw [ex F3 7074 (by decide), hk]
    exact ⟨fun _ => num M3 _ (Or.inr z) F3 o3 (ltk_pos _ _ l2) (by rw [eT]; simp only [ltk_cons, ltk_nil]), fun z => absurd z (by decide)⟩
  · have eT : peT p = [nmB (kwv 30), nmB 24948, numB p.2.2.2.2.2] := by unfold peT; rw [if_neg (by omega), if_pos z]
    have hk : M 7074 j = 10 := by rw [h1 (by omega), z]; rfl
    rw [hk]
    refine ⟨fun z => absurd z (by decide), fun x hx => ?_⟩
    have hx : x = kwv 30 := by rw [kw_28.2.2]; omega
    rw [hx]
    refine c_rwordL (kwv_r (by decide)) ho (by omega) (fun M1 F1 o1 => ⟨rfl, rfl, ?_⟩)
    rw [ex F1 7074 (by decide), hk]
    exact ⟨fun _ => at' M1 _ F1 o1 (ltk_pos1 nm_28.2.2 [] L) (by rw [eT]; simp only [ltk_cons, ltk_nil]), fun z => absurd rfl z⟩
end RPATH
section RPATH2
variable {g : im_g} {d : Nat} {e : im_E} {M : im_M} {K : im_K}
/-- all tries of the path -/
theorem c_tellAllR {L : List Int} {P : Nat → Pe} {T : Int} {n : Nat} (hn : n < 402) (hP : ∀ j, j ≤ n → peO (P j) ∧ rPe M T j (P j)) (hT : T ≤ 1100000) (ho : rOL M L) (hd : 4 ≤ d) (hK : ∀ M', qF M M' → rOL M' (ltk L (paT P (n + 1))) → K (.inl (some (vI 1))) e M') : im_T g d 430 84 [some (.ref 6952), none, none, some (vI n), some (vI 0)] [] e M K := by
  have loop : ∀ (j k : Nat) (N : im_M), k + j = n + 1 → qF M N → rOL N (ltk L (paT P k)) → im_T g d 430 84 [some (.ref 6952), none, none, some (vI n), some (vI k)] [] e N K := by
    intro j
    induction j with
    | zero =>
      intro k N hk F o
      have hkn : k = n + 1 := by omega
      subst hkn
      exact b_search_84 (by omega) ⟨by constructor <;> omega, by constructor <;> omega, fun _ => hK N F o, fun z => by omega⟩
    | succ j ih =>
      intro k N hk F o
      refine b_search_84 (by omega) ⟨by constructor <;> omega, by constructor <;> omega, fun z => by omega, fun _ => ?_⟩
      refine c_tellTry (p := P k) (T := T) (by omega) (hP k (by omega)).1 ((hP k (by omega)).2.fr F) hT o (by omega) (fun M' F' o' => ⟨rfl, rfl, ?_⟩)
      exact ih (k + 1) M' (by omega) (F.trans F') (by show rOL M' (ltk L (paT P k ++ peT (P k))); rw [ltk_app]; exact o')
  exact loop (n + 1) 0 M (by omega) (qF.rf M) ho
end RPATH2
