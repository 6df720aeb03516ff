/-! THE FIRST WORLD of both sides -/
theorem hsE (a b : Int) : ¬ hs2 bE a b := hs2_0 (β := bE)
theorem hldE (a b : Int) : hld bE a b = 0 := if_neg (hsE a b)
def rE : Rl := (0, z0, z0, z0, z0, z0)
def w00 : Wd := (z0, 0, z0, 0, -1, -1, (fun _ _ => 0), 0, (fun _ => -1), (fun _ => (0, 0, 0, bE, bE, bE, bE)), bE, bE, bE, rE, rE, 0, 0, (z0, 0, 0, -1, 0))
theorem CW00 : CW M00 [] w00 0 := by
  obtain ⟨q0, _, q28, q29, _, qS⟩ := Q00
  obtain ⟨r1, r2, r3, r4, r5, r6, r7, r8, r9, r10, r11⟩ := R00
  obtain ⟨n1, n2, n3, n4⟩ := N00
  obtain ⟨k1, k2, k3, k4, k5, k6, k7⟩ := K00
  obtain ⟨l1, l2, l3, l4, l5, l6, l7⟩ := L00
  obtain ⟨w3, w2, w7, w13, w11, w26⟩ := W3_00
  obtain ⟨j1, j2⟩ := J00
  have e1 := E00
  have hkw : cKw M00 := fun i i0 i1 => by
    rw [w3]
    show (pu_words i.toNat).toInt = kwl.getD i.toNat 0
    rw [pu_words_eq _ (by omega)]
    exact kw_00 _ (by omega)
  have hin : cIns M00 (fun _ => (0, 0, 0, bE, bE, bE, bE)) := fun i hi => by
    obtain ⟨_, ⟨s1, s2, s3, s4⟩, s5, s6, s7⟩ := state_sb (sts_sb 16 qS i hi) (by decide)
    refine ⟨?_, ⟨s7, s6, s5⟩, s1, s2, s3, s4⟩
    rw [q29]
    show (match (if ((i : Int)).toNat < 16 then some (0 + 2072 + 305 * ((i : Int)).toNat) else none) with | none => (-1 : Int) | some b => (b : Int)) = _
    rw [show ((i : Int)).toNat = i by omega, if_pos hi]
  have lv : ∀ j : Int, M00 1794 j = -1 := fun j => by
    rw [(sbs_0 l1).2]; rfl
  obtain ⟨_, ⟨t1, t2, t3, _⟩, _⟩ := state_sb r7 (by decide)
  have hNP : NP M00 := by
    refine ⟨⟨fun i => i, fun i hi => ⟨hi, ?_⟩, fun i j _ _ h => h⟩, fun i hi => ⟨0, (nums_sb n4 i hi).2⟩⟩
    rw [n2]
    show (match (if ((i : Int)).toNat < 104 then some (931 + 654 + 2 * ((i : Int)).toNat) else none) with | none => (-1 : Int) | some b => (b : Int)) = _
    rw [show ((i : Int)).toNat = i by omega, if_pos hi]
  have no6 : ∀ {b : Nat} {V : Int → Int}, crw M00 b 60 0 z0 z0 z0 z0 V → rw6 M00 b rE := fun {b V} h => ⟨V, h, fun i hi => absurd hi (Nat.not_lt_zero i)⟩
  refine ⟨⟨⟨by rw [q0]; rfl, fun i a b => ?_, Int.le_refl _, (by decide : (0 : Int) ≤ 16384)⟩, ⟨by rw [w7]; rfl, fun i a b => ?_, Int.le_refl _, (by decide : (0 : Int) ≤ 16384)⟩, ⟨by rw [w2]; rfl, by rw [w2]; rfl⟩, hkw⟩, ⟨⟨⟨⟨by rw [w13]; decide, by rw [w13]; decide⟩, fun i a b => ?_⟩, by rw [w13]; rfl, by rw [w13]; decide, by rw [w13]; decide⟩, fun i a b => ?_, hin⟩, ⟨(book_sb r1 (by decide)).2, (book_sb r2 (by decide)).2, (book_sb r3 (by decide)).2⟩, ⟨no6 (row_sb r5), no6 (row_sb r6)⟩, ⟨by rw [e1]; rfl, ⟨_, _, _, _, _, Or.inl (row_sb l2)⟩, ⟨0, num1_sb l6⟩, fun j hj => Or.inl (lv j), fun i j b c hi hj hij hb hc => ?_, Nat.zero_le _, Nat.zero_le _⟩, ⟨fun i a b => Or.inl ⟨Int.le_refl _, (by decide : (0 : Int) < 128), by rw [j2]; rfl⟩, by rw [j1]; rfl, by rw [j1]; rfl, by rw [j1]; rfl, by rw [j1]; rfl⟩, ⟨⟨⟨⟨_, t1⟩, ⟨_, t2⟩, ⟨_, t3⟩⟩, hNP, ⟨_, (book_sb k5 (by decide)).2⟩, ⟨_, no6 (row_sb k6)⟩, ⟨_, no6 (row_sb k7)⟩, ⟨0, num1_sb k2⟩, by rw [n1]; decide, by rw [n1]; decide⟩, ⟨⟨(0, z0, z0, z0, z0, z0), 0, rfl, row_sb r4⟩, ⟨0, w26⟩, ⟨0, w11⟩, ⟨0, num1_sb r11⟩⟩⟩, by rw [q0]; rfl⟩
  · have b : i < (0 : Int) := b
    omega
  · have b : i < (0 : Int) := b
    omega
  · have b : i < (0 : Int) := b
    omega
  · rw [q28]
    show (if i.toNat < 16 then (-1 : Int32) else 0).toInt = -1
    rw [if_pos (by omega)]; decide
  · rw [lv] at hb; omega
set_option maxRecDepth 20000 in
theorem G00 : M00 6952 = im_mf (.inr (12, pu_mfz 6952)) := (sbs_0 P00.2).2
theorem Z00 {k : Nat} {t n : Nat} (h : pu_mT[k]? = some (.inl (t, n, .inl (fun _ => 0)))) (j : Int) : M00 (6952 + (k + 1)) j = 0 := by
  have := (P00.2 (k + 1) _ (pu_Cc rfl h)).2
  rw [this]; rfl
set_option maxRecDepth 20000 in
theorem RW00 : RW M00 w00 := by
  have g := G00
  have z6984 : ∀ j, M00 6984 j = 0 := Z00 (k := 31) rfl
  have z6994 : ∀ j, M00 6994 j = 0 := Z00 (k := 41) rfl
  have z6995 : ∀ j, M00 6995 j = 0 := Z00 (k := 42) rfl
  have z6996 : ∀ j, M00 6996 j = 0 := fun j => by
    have := (P00.2 44 _ (pu_Cc (i := 43) rfl (rfl : pu_mT[43]? = some (.inl (2, 16, .inr (.inl (fun _ => 0))))))).2
    rw [show (6952 + 44 : Nat) = 6996 from rfl] at this
    rw [this]; rfl
  have z6997 : ∀ j, M00 6997 j = 0 := Z00 (k := 44) rfl
  have z7001 : ∀ j, M00 7001 j = 0 := Z00 (k := 48) rfl
  have z7005 : ∀ j, M00 7005 j = 0 := Z00 (k := 52) rfl
  have z7008 : ∀ j, M00 7008 j = 0 := Z00 (k := 55) rfl
  have z7080 : ∀ j, M00 7080 j = 0 := Z00 (k := 127) rfl
  have nv : ∀ {P : Prop} {i : Nat}, i < 0 → P := fun h => absurd h (Nat.not_lt_zero _)
  refine ⟨⟨⟨by rw [g]; rfl, fun i a b => ?_, Int.le_refl _, (by decide : (0 : Int) ≤ 16384)⟩, ⟨by rw [g]; rfl, fun i a b => ?_, Int.le_refl _, (by decide : (0 : Int) ≤ 16384)⟩, ⟨by rw [g]; rfl, by rw [g]; rfl⟩⟩, ⟨⟨fun i a b => ?_, by rw [g]; rfl, by rw [g]; decide, by rw [g]; decide⟩, fun k a b => ⟨fun _ => z6984 k, fun z => absurd rfl z⟩, fun i a b => ⟨⟨z6994 i, z6995 i, z6996 i⟩, ⟨z6997 i, Nat.zero_le _, fun k h => nv h⟩, ⟨z7001 i, Nat.zero_le _, fun k h => nv h⟩, ⟨z7005 i, Nat.zero_le _, rfl, fun k h => nv h⟩, ⟨z7008 i, Nat.zero_le _, rfl, fun k h => nv h⟩, Nat.zero_le _⟩⟩, ⟨⟨by rw [g]; rfl, Nat.zero_le _, rfl, fun k h => nv h⟩, ⟨by rw [g]; rfl, Nat.zero_le _, fun k h => nv h, fun i j h => nv h, fun a b h => absurd h (hsE a b)⟩, ⟨by rw [g]; rfl, Nat.zero_le _, fun k h => nv h, fun i j h => nv h, fun a h => absurd h (hsE a 0)⟩⟩, ⟨⟨by rw [g]; rfl, Nat.zero_le _, fun k h => nv h⟩, ⟨by rw [g]; rfl, Nat.zero_le _, fun k h => nv h⟩⟩, by rw [g]; rfl, ⟨fun x a b => z7080 x, by rw [g]; rfl, by rw [g]; rfl, by rw [g]; rfl, by rw [g]; rfl⟩, ⟨Or.inl (by rw [g]; rfl), by rw [g]; decide, by rw [g]; decide, by rw [g]; decide⟩⟩
  · have b : i < (0 : Int) := b
    omega
  · have b : i < (0 : Int) := b
    omega
  · have b : i < (0 : Int) := b
    omega
theorem WI00 : WI w00 := by
  have b0 := bk_0 bE
  have hN : WNp 0 (fun _ _ => 0) 0 0 (fun _ => -1) (fun _ => (0, 0, 0, bE, bE, bE, bE)) bE bE bE rE rE := by
    refine ⟨⟨PW_0 _, Int.le_refl _, Int.le_refl _⟩, fun k _ _ => Or.inl rfl, fun i _ _ => ⟨Or.inl rfl, rfl, fun z => absurd (show (0 : Int) = 1 from z) (by decide)⟩, ⟨⟨b0.1, Nat.zero_le _⟩, b0, b0⟩, fun t => ?_, fun i hi => absurd hi (Nat.not_lt_zero i), fun i hi => absurd hi (Nat.not_lt_zero i)⟩
    have e1 : inS (fun _ => ((0, 0, 0, bE, bE, bE, bE) : Ins)) t 16 = 0 := by
      have : inF (fun _ => ((0, 0, 0, bE, bE, bE, bE) : Ins)) t = fun _ => 0 := funext (fun i => if_pos rfl)
      unfold inS; rw [this]; exact suN_zero
    have e2 : hld bE t 0 = 0 := hldE t 0
    have e3 : tkS bE t = 0 := rfl
    rw [e1, e2, e3]
    exact ⟨rfl, LIM_pos⟩
  exact ⟨⟨⟨Int.le_refl _, (by decide : (0 : Int) ≤ 16384)⟩, ⟨Int.le_refl _, Int.le_refl _⟩, ⟨Int.le_refl _, (by decide : (-1 : Int) ≤ 2147483647)⟩, Or.inl rfl⟩, hN⟩
theorem LW00 : LwI [] M00 w00 := ⟨CW00, RW00, WI00⟩
