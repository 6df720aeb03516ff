theorem kwv_i64F : ∀ i : Fin 34, 0 ≤ kwv (i : Nat) ∧ kwv (i : Nat) ≤ 9223372036854775807 := by decide +kernel
theorem kwv_i64 {ty nm : Int} (h0 : 0 ≤ ty) (h1 : ty ≤ 33) (hn : nm = kwv ty) : im_i64 nm := by
  have := kwv_i64F ⟨ty.toNat, by omega⟩
  have e : ((⟨ty.toNat, by omega⟩ : Fin 34) : Nat) = ty.toNat := rfl
  rw [e, show ((ty.toNat : Nat) : Int) = ty from by omega, ← hn] at this
  constructor <;> omega
section RPAR8
variable {g : im_g} {d : Nat} {e : im_E} {M M0 : im_M} {K : im_K} {lo kp pk a p q ty nm v m lw : Int} {x : en} {r L : List en} {R : Rw}
theorem c_contractOf (h0 : 0 ≤ ty) (h1 : ty ≤ 33) (hn : nm = kwv ty) (hK : ∀ w, (0 ≤ ty ∧ ty ≤ 5 → w = kR ty 0) → (¬ (0 ≤ ty ∧ ty ≤ 5) → w = 0) → K (.inl (some (vI w))) e M) : im_T g d 284 0 [some (vL nm), none] [] e M K := by
  refine b_contractOf_0 ⟨kwv_i64 h0 h1 hn, fun w hw => hK w (fun c => ?_) (fun c => ?_)⟩
  · have hc : ty = 0 ∨ ty = 1 ∨ ty = 2 ∨ ty = 3 ∨ ty = 4 ∨ ty = 5 := by omega
    rcases hc with z | z | z | z | z | z
    · subst z
      have hn : nm = 427021005669 := hn
      subst hn
      show w = 1
      omega
    · subst z
      have hn : nm = 7364985 := hn
      subst hn
      show w = 2
      omega
    · subst z
      have hn : nm = 26982 := hn
      subst hn
      show w = 4
      omega
    · subst z
      have hn : nm = 2003330414 := hn
      subst hn
      show w = 5
      omega
    · subst z
      have hn : nm = 7103860 := hn
      subst hn
      show w = 6
      omega
    · subst z
      have hn : nm = 107148485161588 := hn
      subst hn
      show w = 7
      omega
  · have n0 : nm ≠ 427021005669 := fun z => by have := (kwv_iff (c := 0) h0 h1 hn (by decide) (by decide)).mp z; omega
    have n1 : nm ≠ 7364985 := fun z => by have := (kwv_iff (c := 1) h0 h1 hn (by decide) (by decide)).mp z; omega
    have n2 : nm ≠ 26982 := fun z => by have := (kwv_iff (c := 2) h0 h1 hn (by decide) (by decide)).mp z; omega
    have n3 : nm ≠ 2003330414 := fun z => by have := (kwv_iff (c := 3) h0 h1 hn (by decide) (by decide)).mp z; omega
    have n4 : nm ≠ 7103860 := fun z => by have := (kwv_iff (c := 4) h0 h1 hn (by decide) (by decide)).mp z; omega
    have n5 : nm ≠ 107148485161588 := fun z => by have := (kwv_iff (c := 5) h0 h1 hn (by decide) (by decide)).mp z; omega
    omega
theorem c_valueOf (h0 : 0 ≤ ty) (h1 : ty ≤ 33) (hn : nm = kwv ty) (hK : ∀ w, (6 ≤ ty ∧ ty ≤ 16 → w = kR ty 0) → (¬ (6 ≤ ty ∧ ty ≤ 16) → w = 0) → K (.inl (some (vI w))) e M) : im_T g d 290 0 [some (vL nm), none, none] [] e M K := by
  refine b_valueOf_0 ⟨kwv_i64 h0 h1 hn, fun w' hw' w hw => hK w (fun c => ?_) (fun c => ?_)⟩
  · have hc : ty = 6 ∨ ty = 7 ∨ ty = 8 ∨ ty = 9 ∨ ty = 10 ∨ ty = 11 ∨ ty = 12 ∨ ty = 13 ∨ ty = 14 ∨ ty = 15 ∨ ty = 16 := by omega
    rcases hc with z | z | z | z | z | z | z | z | z | z | z
    · subst z
      have hn : nm = 1751477348 := hn
      subst hn
      show w = 22
      omega
    · subst z
      have hn : nm = 7234919 := hn
      subst hn
      show w = 23
      omega
    · subst z
      have hn : nm = 6382692 := hn
      subst hn
      show w = 24
      omega
    · subst z
      have hn : nm = 7566690 := hn
      subst hn
      show w = 25
      omega
    · subst z
      have hn : nm = 7173484 := hn
      subst hn
      show w = 26
      omega
    · subst z
      have hn : nm = 6580598 := hn
      subst hn
      show w = 27
      omega
    · subst z
      have hn : nm = 109300197582190 := hn
      subst hn
      show w = 28
      omega
    · subst z
      have hn : nm = 495873782388 := hn
      subst hn
      show w = 29
      omega
    · subst z
      have hn : nm = 6647396 := hn
      subst hn
      show w = 30
      omega
    · subst z
      have hn : nm = 7697253 := hn
      subst hn
      show w = 31
      omega
    · subst z
      have hn : nm = 1668247140 := hn
      subst hn
      show w = 32
      omega
  · have n6 : nm ≠ 1751477348 := fun z => by have := (kwv_iff (c := 6) h0 h1 hn (by decide) (by decide)).mp z; omega
    have n7 : nm ≠ 7234919 := fun z => by have := (kwv_iff (c := 7) h0 h1 hn (by decide) (by decide)).mp z; omega
    have n8 : nm ≠ 6382692 := fun z => by have := (kwv_iff (c := 8) h0 h1 hn (by decide) (by decide)).mp z; omega
    have n9 : nm ≠ 7566690 := fun z => by have := (kwv_iff (c := 9) h0 h1 hn (by decide) (by decide)).mp z; omega
    have n10 : nm ≠ 7173484 := fun z => by have := (kwv_iff (c := 10) h0 h1 hn (by decide) (by decide)).mp z; omega
    have n11 : nm ≠ 6580598 := fun z => by have := (kwv_iff (c := 11) h0 h1 hn (by decide) (by decide)).mp z; omega
    have n12 : nm ≠ 109300197582190 := fun z => by have := (kwv_iff (c := 12) h0 h1 hn (by decide) (by decide)).mp z; omega
    have n13 : nm ≠ 495873782388 := fun z => by have := (kwv_iff (c := 13) h0 h1 hn (by decide) (by decide)).mp z; omega
    have n14 : nm ≠ 6647396 := fun z => by have := (kwv_iff (c := 14) h0 h1 hn (by decide) (by decide)).mp z; omega
    have n15 : nm ≠ 7697253 := fun z => by have := (kwv_iff (c := 15) h0 h1 hn (by decide) (by decide)).mp z; omega
    have n16 : nm ≠ 1668247140 := fun z => by have := (kwv_iff (c := 16) h0 h1 hn (by decide) (by decide)).mp z; omega
    omega
theorem c_observationOf (h0 : 0 ≤ ty) (h1 : ty ≤ 33) (hn : nm = kwv ty) (hK : ∀ w, (17 ≤ ty ∧ ty ≤ 27 → w = kR ty 0) → (¬ (17 ≤ ty ∧ ty ≤ 27) → w = 0) → K (.inl (some (vI w))) e M) : im_T g d 294 0 [some (vL nm), none, none] [] e M K := by
  refine b_observationOf_0 ⟨kwv_i64 h0 h1 hn, fun w' hw' w hw => hK w (fun c => ?_) (fun c => ?_)⟩
  · have hc : ty = 17 ∨ ty = 18 ∨ ty = 19 ∨ ty = 20 ∨ ty = 21 ∨ ty = 22 ∨ ty = 23 ∨ ty = 24 ∨ ty = 25 ∨ ty = 26 ∨ ty = 27 := by omega
    rcases hc with z | z | z | z | z | z | z | z | z | z | z
    · subst z
      have hn : nm = 6385252 := hn
      subst hn
      show w = 40
      omega
    · subst z
      have hn : nm = 28530 := hn
      subst hn
      show w = 41
      omega
    · subst z
      have hn : nm = 7237492 := hn
      subst hn
      show w = 42
      omega
    · subst z
      have hn : nm = 426953896805 := hn
      subst hn
      show w = 43
      omega
    · subst z
      have hn : nm = 26469 := hn
      subst hn
      show w = 44
      omega
    · subst z
      have hn : nm = 26484 := hn
      subst hn
      show w = 45
      omega
    · subst z
      have hn : nm = 27749 := hn
      subst hn
      show w = 46
      omega
    · subst z
      have hn : nm = 27764 := hn
      subst hn
      show w = 47
      omega
    · subst z
      have hn : nm = 25969 := hn
      subst hn
      show w = 48
      omega
    · subst z
      have hn : nm = 1953658213 := hn
      subst hn
      show w = 49
      omega
    · subst z
      have hn : nm = 439721161573 := hn
      subst hn
      show w = 50
      omega
  · have n17 : nm ≠ 6385252 := fun z => by have := (kwv_iff (c := 17) h0 h1 hn (by decide) (by decide)).mp z; omega
    have n18 : nm ≠ 28530 := fun z => by have := (kwv_iff (c := 18) h0 h1 hn (by decide) (by decide)).mp z; omega
    have n19 : nm ≠ 7237492 := fun z => by have := (kwv_iff (c := 19) h0 h1 hn (by decide) (by decide)).mp z; omega
    have n20 : nm ≠ 426953896805 := fun z => by have := (kwv_iff (c := 20) h0 h1 hn (by decide) (by decide)).mp z; omega
    have n21 : nm ≠ 26469 := fun z => by have := (kwv_iff (c := 21) h0 h1 hn (by decide) (by decide)).mp z; omega
    have n22 : nm ≠ 26484 := fun z => by have := (kwv_iff (c := 22) h0 h1 hn (by decide) (by decide)).mp z; omega
    have n23 : nm ≠ 27749 := fun z => by have := (kwv_iff (c := 23) h0 h1 hn (by decide) (by decide)).mp z; omega
    have n24 : nm ≠ 27764 := fun z => by have := (kwv_iff (c := 24) h0 h1 hn (by decide) (by decide)).mp z; omega
    have n25 : nm ≠ 25969 := fun z => by have := (kwv_iff (c := 25) h0 h1 hn (by decide) (by decide)).mp z; omega
    have n26 : nm ≠ 1953658213 := fun z => by have := (kwv_iff (c := 26) h0 h1 hn (by decide) (by decide)).mp z; omega
    have n27 : nm ≠ 439721161573 := fun z => by have := (kwv_iff (c := 27) h0 h1 hn (by decide) (by decide)).mp z; omega
    omega
theorem stp_n4 (hx : x.1 = 99 ∨ x.1 = 118 ∨ x.1 = 111) (h37 : ty ≠ 37) (hb : ¬ bgn x.1 ty) : stp lo ty nm v (x :: r, R, m, lw) = .inl 4 := by
  show (if _ then _ else _) = _
  rw [if_pos hx]
  unfold stpN
  rw [if_neg h37, if_pos hb]
theorem stp_n7 (hx : x.1 = 99 ∨ x.1 = 118 ∨ x.1 = 111) (h37 : ty ≠ 37) (hb : bgn x.1 ty) (hm : much R lo m x.2.1) : stp lo ty nm v (x :: r, R, m, lw) = .inl 7 := by
  show (if _ then _ else _) = _
  rw [if_pos hx]
  unfold stpN
  rw [if_neg h37, if_neg (fun z => z hb), if_pos hm]
theorem stp_n0 (hx : x.1 = 99 ∨ x.1 = 118 ∨ x.1 = 111) (h37 : ty ≠ 37) (hb : bgn x.1 ty) (hm : ¬ much R lo m x.2.1) : stp lo ty nm v (x :: r, R, m, lw) = .inr (shE ty m ++ r, nodR R m ty nm v x.2.1 x.2.2.1, m + 1, lw) := by
  show (if _ then _ else _) = _
  rw [if_pos hx]
  unfold stpN
  rw [if_neg h37, if_neg (fun z => z hb), if_neg hm]
  rfl
/-- a node laid and linked -/
def NL (M M3 : im_M) (m ow sl w : Int) : Prop := (∀ y, y ≠ 6952 → (y < 6960 ∨ 6972 < y ∨ y = 6968 ∨ y = 6969 ∨ y = 6971) → M3 y = M y) ∧ (∀ (y : Nat) (i : Int), 6960 ≤ y → y ≤ 6972 → i ≠ m → (y = 6963 + sl.toNat → ow ≠ -1 → i ≠ ow) → M3 y i = M y i) ∧ (ow ≠ -1 → M3 (6963 + sl.toNat) ow = m) ∧ (∀ k, k ≠ 39 → k ≠ 40 → M3 6952 k = M 6952 k) ∧ M3 6952 39 = m + 1 ∧ ((ow = -1 → M3 6952 40 = m) ∧ (ow ≠ -1 → M3 6952 40 = M 6952 40)) ∧ M3 6960 m = w ∧ (M3 6961 m = 0 ∧ M3 6962 m = 0 ∧ M3 6963 m = 0) ∧ (M3 6964 m = -1 ∧ M3 6965 m = -1 ∧ M3 6966 m = -1 ∧ M3 6967 m = -1) ∧ M3 6970 m = 0 ∧ M3 6972 m = 0
/-- the setting in which a node is read -/
def NH (M0 M : im_M) (lo kp pk a p q ty nm : Int) (x : en) (r : List en) (R : Rw) (m lw : Int) (L : List en) : Prop := RJ M0 M lo kp pk a (x :: r, R, m, lw) L ∧ TK M p q ty nm ∧ (-2 ≤ ty ∧ ty ≤ 41) ∧ (0 ≤ ty → ty ≤ 33 → nm = kwv ty) ∧ wfS lo (x :: r, R, m, lw) ∧ Q2 lo (x :: r, R, m, lw) ∧ c29 R lo m ∧ (a ≤ p ∧ 0 ≤ p ∧ p ≤ q) ∧ M 6952 38 = lo ∧ lo ≤ 4000 ∧ L.length < 29000 ∧ L = rst R false r ∧ (x.1 = 99 ∨ x.1 = 118 ∨ x.1 = 111) ∧ ty ≠ 37
theorem NH_ow (h : NH M0 M lo kp pk a p q ty nm x r R m lw L) : x.2.1 = -1 ∨ (lo ≤ x.2.1 ∧ x.2.1 < m ∧ (1 ≤ x.2.2.1 ∧ x.2.2.1 ≤ 3)) := by
  obtain ⟨_, _, _, _, hw, _, _, _, _, _, _, _, hx, _⟩ := h
  obtain ⟨_, _, z⟩ := hw.2.2.2.2.2.1 x List.mem_cons_self (by omega)
  rcases z with z | z
  · exact Or.inl z.2
  · exact Or.inr ⟨z.1, z.2.1, z.2.2.2.2.2.2.2.2.2.2.1 hx⟩
theorem c_nl {w dp : Int} {Z : Int → im_M → Prop} (h : NH M0 M lo kp pk a p q ty nm x r R m lw L) (hb : bgn x.1 ty) (hwi : im_i32 w) (hdp : dp = deepOf R x.2.1) (hdi : im_i32 dp) (hd : 2 ≤ d) (hKf : KFR e K M0 lo kp pk p ty nm v (x :: r, R, m, lw)) (hZ : ¬ much R lo m x.2.1 → ∀ M3, NL M M3 m x.2.1 x.2.2.1 w → Z m M3) :
    im_T g (d - 1) 287 0 [some (.ref 6952), some (vI w), some (vI dp), none] [] e M (im_ri (fun x12 e_ M11 => e = e_ ∧ (im_i32 x12) ∧ ((¬ x12 = (-1) → im_T g (d - 1) 288 0 [some (.ref 6952), some (vI x.2.1), some (vI x.2.2.1), some (vI x12)] [] e M11 (im_r0 (fun e_ M15 => e = e_ ∧ Z x12 M15))) ∧ (x12 = (-1) → K (.inl none) e M11)))) := by
  have hxo := NH_ow h
  obtain ⟨hJ, ht, hty, hkw, hw, hq2, hc29, hap, h38, hlo4, hLl, hL, hx, h37⟩ := h
  have hlo : 0 ≤ lo := hw.1
  have hlm : lo ≤ m := hw.2.1
  have hm : m ≤ lo + 1000 := hw.2.2.1
  have h39 : M 6952 39 = m := hJ.2.1
  have hty0 : 0 ≤ ty ∧ ty ≠ 41 := by unfold bgn at hb; omega
  refine c_node h39 h38 hlo hlm hm hlo4 ht.2.2.2.2.2 ht.2.2.1 hwi hdi (by omega) (fun hmu M' b1 b2 b3 b4 => ⟨_, rfl, rfl, by decide, fun z => absurd rfl z, fun _ => ?_⟩) (fun hmu M' hN => ⟨_, rfl, rfl, by constructor <;> omega, fun _ => ?_, fun z => by omega⟩)
  · refine hKf 7 (by rw [stq_ok hty0.1 hty0.2]; exact stp_n7 hx h37 hb (by unfold much; rw [← hdp]; omega)) M' (hJ.1.trans (XR.fl b1 (fun k _ c _ _ _ _ => b2 k (by omega) (by omega)))) b3 b4
  · obtain ⟨n1, n2, n3, n4, n5, n6, n7, n8, n9⟩ := hN
    have hmu' : ¬ much R lo m x.2.1 := by unfold much; rw [← hdp]; omega
    refine c_link (by omega) (by constructor <;> omega) (fun ho => ⟨rfl, rfl, hZ hmu' _ ⟨fun y b c => by rw [im_u_ne _ _ _ b]; exact n1 y b c, fun y i b c d' _ => by rw [im_rdn _ _ _ _ (by omega)]; exact n2 y i d' (by omega), fun z => absurd ho z, fun k b c => by rw [im_rdk _ _ _ c]; exact n3 k b, by rw [im_rdk _ _ _ (by decide)]; exact n4, ⟨fun _ => im_rds _ _ _ _, fun z => absurd ho z⟩, by rw [im_rdn _ _ _ _ (by decide)]; exact n5, ?_⟩⟩) (fun ho => ⟨rfl, rfl, hZ hmu' _ ⟨fun y b c => by rw [im_u_ne _ _ _ (by omega)]; exact n1 y b c, fun y i b c d' d2 => ?_, fun _ => im_rds _ _ _ _, fun k b c => by rw [im_rdn _ _ _ _ (by omega)]; exact n3 k b, by rw [im_rdn _ _ _ _ (by omega)]; exact n4, ⟨fun z => absurd z ho, fun _ => by rw [im_rdn _ _ _ _ (by omega)]; exact n3 40 (by decide)⟩, by rw [im_rdn _ _ _ _ (by omega)]; exact n5, ?_⟩⟩)
    · simp only [im_rdn _ _ _ _ (show (6961 : Nat) ≠ 6952 by decide), im_rdn _ _ _ _ (show (6962 : Nat) ≠ 6952 by decide), im_rdn _ _ _ _ (show (6963 : Nat) ≠ 6952 by decide), im_rdn _ _ _ _ (show (6964 : Nat) ≠ 6952 by decide), im_rdn _ _ _ _ (show (6965 : Nat) ≠ 6952 by decide), im_rdn _ _ _ _ (show (6966 : Nat) ≠ 6952 by decide), im_rdn _ _ _ _ (show (6967 : Nat) ≠ 6952 by decide), im_rdn _ _ _ _ (show (6970 : Nat) ≠ 6952 by decide), im_rdn _ _ _ _ (show (6972 : Nat) ≠ 6952 by decide)]
      exact ⟨n6, n7, n8, n9⟩
    · by_cases hy : y = 6963 + x.2.2.1.toNat
      · subst hy; rw [im_rdk _ _ _ (d2 rfl ho)]; exact n2 _ i d' (by omega)
      · rw [im_rdn _ _ _ _ hy]; exact n2 y i d' (by omega)
    · have hk : ∀ y : Nat, im_u M' (6963 + x.2.2.1.toNat) x.2.1 m y m = M' y m := fun y => by
        by_cases hy : y = 6963 + x.2.2.1.toNat
        · subst hy; exact im_rdk _ _ _ (by omega)
        · exact im_rdn _ _ _ _ hy
      rw [hk, hk, hk, hk, hk, hk, hk, hk, hk]
      exact ⟨n6, n7, n8, n9⟩
/-- to the end of a node -/
theorem NL_fin {M3 M4 M5 : im_M} (h : NH M0 M lo kp pk a p q ty nm x r R m lw L) (hb : bgn x.1 ty) (hmu : ¬ much R lo m x.2.1) (hn : NL M M3 m x.2.1 x.2.2.1 (kR ty 0)) (hKs : KSR e K M0 lo kp pk q ty nm v (x :: r, R, m, lw))
    (u1 : ∀ y, y ≠ 6952 → y ≠ 6955 → y ≠ 6961 → y ≠ 6968 → M4 y = M3 y) (u2 : ∀ (y : Nat) (i : Int), y = 6961 ∨ y = 6968 → i ≠ m → M4 y i = M3 y i) (up : ∀ i, i < M 6952 7 → M4 6955 i = M3 6955 i) (uf : ∀ k, k ≠ 7 → k ≠ 14 → M4 6952 k = M3 6952 k) (u14 : M4 6952 14 = q) (u7 : M 6952 7 ≤ M4 6952 7 ∧ M4 6952 7 ≤ kp + 3 * q) (u61 : M4 6961 m = if ty = 35 then nm else 0) (u68 : ty = 34 → rnp M4 kp (M4 6952 7) (M4 6968 m) v)
    (hS : SR M4 M5) (gs : stR M5 (rst (nodR R m ty nm v x.2.1 x.2.2.1) false (shE ty m ++ r))) : K (.inl none) e M5 := by
  have hxo := NH_ow h
  obtain ⟨hJ, ht, hty, hkw, hw, hq2, hc29, hap, h38, hlo4, hLl, hL, hx, h37⟩ := h
  obtain ⟨n1, n2, n3, n4, n5, n6, n7, n8, n9, n10, n11⟩ := hn
  have hty0 : 0 ≤ ty ∧ ty ≠ 41 := by unfold bgn at hb; omega
  have hrow : ∀ y : Nat, 6960 ≤ y → y ≤ 6972 → y ≠ 6961 → y ≠ 6968 → M5 y = M3 y := fun y b c d1 d2 => by rw [hS.1 y (by omega) (by omega), u1 y (by omega) (by omega) d1 d2]
  have hfl : ∀ k, k ≠ 7 → k ≠ 14 → k ≠ 45 → M5 6952 k = M3 6952 k := fun k b c d' => (hS.2 k d').trans (uf k b c)
  have e7 : M5 6952 7 = M4 6952 7 := hS.2 7 (by decide)
  have e55 : M5 6955 = M4 6955 := hS.1 6955 (by decide) (by decide)
  have hq := hKs _ ((stq_ok hty0.1 hty0.2).trans (stp_n0 hx h37 hb hmu)) M5
  refine hq (node_fin hJ hw hq2 hc29 (by omega) hx hb (fun y b c d1 d2 => ?_) (fun i hi => ?_) (fun k b c d1 d2 d3 => (hfl k b c d3).trans (n4 k d1 d2)) ((hfl 39 (by decide) (by decide) (by decide)).trans n5) (by rw [e7]; exact u7) ⟨fun z => (hfl 40 (by decide) (by decide) (by decide)).trans (n6.1 z), fun z => (hfl 40 (by decide) (by decide) (by decide)).trans (n6.2 z)⟩ (fun y i b c d1 d2 => ?_) (fun z => ?_) ?_ ?_ ⟨?_, ?_⟩ ⟨?_, ?_, ?_, ?_⟩ ⟨?_, ?_⟩ (fun z => ?_) gs) ?_ ((hS.2 14 (by decide)).trans u14)
  · rw [hS.1 y b d2, u1 y b c (by omega) (by omega), n1 y b (by omega)]
  · rw [e55, up i hi, n1 6955 (by decide) (by decide)]
  · by_cases hy : y = 6961 ∨ y = 6968
    · rw [hS.1 y (by omega) (by omega), u2 y i hy d1]; exact n2 y i b c d1 d2
    · rw [hrow y b c (by omega) (by omega)]; exact n2 y i b c d1 d2
  · rw [hrow _ (by omega) (by omega) (by omega) (by omega)]; exact n3 z
  · rw [hrow 6960 (by decide) (by decide) (by decide) (by decide)]; exact n7
  · rw [hS.1 6961 (by decide) (by decide)]; exact u61
  · rw [hrow 6962 (by decide) (by decide) (by decide) (by decide)]; exact n8.2.1
  · rw [hrow 6963 (by decide) (by decide) (by decide) (by decide)]; exact n8.2.2
  · rw [hrow 6964 (by decide) (by decide) (by decide) (by decide)]; exact n9.1
  · rw [hrow 6965 (by decide) (by decide) (by decide) (by decide)]; exact n9.2.1
  · rw [hrow 6966 (by decide) (by decide) (by decide) (by decide)]; exact n9.2.2.1
  · rw [hrow 6967 (by decide) (by decide) (by decide) (by decide)]; exact n9.2.2.2
  · rw [hrow 6970 (by decide) (by decide) (by decide) (by decide)]; exact n10
  · rw [hrow 6972 (by decide) (by decide) (by decide) (by decide)]; exact n11
  · rw [e7, hS.1 6968 (by decide) (by decide)]
    exact rnp_congr (u68 z) (fun i _ => by rw [e55]) (Int.le_refl _)
  · rw [hfl 19 (by decide) (by decide) (by decide), n4 19 (by decide) (by decide)]; exact ht.2.2.2.2.2
end RPAR8
