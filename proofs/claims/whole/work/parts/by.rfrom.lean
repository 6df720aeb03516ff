section RFROM
variable {g : im_g} {d : Nat} {e : im_E} {M : im_M} {K : im_K} {R : Rw} {m : Int} {giv : Bk} {st en lk : Int} {s : TS}
/-- a wallet goes: the last one takes its place -/
theorem rwl_rem {M1 M' : im_M} {w : Bk} {a b x : Int} (h : rwl M w (M 6952 7)) (hs : sbk w) (hX : SX M M1) (x0 : 0 ≤ x) (x1 : x < w.1) (ha : M 7031 x = a) (hb : M 7032 x = b) (hh : hs2 w a b)
    (e16 : M' 6952 116 = (w.1 : Int) - 1) (e7 : M' 6952 7 = M1 6952 7) (e55 : M' 6955 = M1 6955)
    (y1 : ∀ i, M' 7031 i = if i = x then M1 7031 ((w.1 : Int) - 1) else M1 7031 i) (y2 : ∀ i, M' 7032 i = if i = x then M1 7032 ((w.1 : Int) - 1) else M1 7032 i) (y3 : ∀ i, i < (w.1 : Int) - 1 → M' 7033 i = if i = x then M1 7033 ((w.1 : Int) - 1) else M1 7033 i) : rwl M' (brem w a b) (M' 6952 7) := by
  obtain ⟨h1, h2, h3, h4, h5⟩ := h
  obtain ⟨l1, l2⟩ := lk_brem hs hh
  have ek : (brem w a b).1 = w.1 - 1 := rfl
  rw [hX.1 7031 (by decide) (by decide)] at y1
  rw [hX.1 7032 (by decide) (by decide)] at y2
  rw [hX.1 7033 (by decide) (by decide)] at y3
  have ex : ((x.toNat : Nat) : Int) = x := by omega
  -- where an entry came from
  have hf : ∀ i : Nat, i < w.1 - 1 → ∃ j : Nat, j < w.1 ∧ (j : Int) ≠ x ∧ ((i : Int) = x ∧ j = w.1 - 1 ∨ (i : Int) ≠ x ∧ j = i) ∧ M' 7031 i = M 7031 j ∧ M' 7032 i = M 7032 j ∧ M' 7033 i = M 7033 j := fun i hi => by
    by_cases c : (i : Int) = x
    · refine ⟨w.1 - 1, by omega, by omega, Or.inl ⟨c, rfl⟩, ?_⟩
      rw [y1, y2, y3 i (by omega), if_pos c, if_pos c, if_pos c, show (((w.1 - 1 : Nat)) : Int) = (w.1 : Int) - 1 by omega]
      exact ⟨rfl, rfl, rfl⟩
    · refine ⟨i, by omega, c, Or.inr ⟨c, rfl⟩, ?_⟩
      rw [y1, y2, y3 i (by omega), if_neg c, if_neg c, if_neg c]
      exact ⟨rfl, rfl, rfl⟩
  have hne : ∀ j : Nat, j < w.1 → (j : Int) ≠ x → ¬ (M 7031 j = a ∧ M 7032 j = b) := fun j hj hx z => by
    have := h4 j x.toNat hj (by omega) (by rw [ex, ha]; exact z.1) (by rw [ex, hb]; exact z.2)
    omega
  refine ⟨by rw [e16, ek]; omega, by rw [ek]; omega, fun i hi => ?_, fun i j hi hj q1 q2 => ?_, fun a' b' hh' => ?_⟩
  · rw [ek] at hi
    obtain ⟨j, j1, j2, _, j3, j4, j5⟩ := hf i hi
    obtain ⟨z1, z2⟩ := h3 j j1
    have hn := hne j j1 j2
    rw [j3, j4, j5]
    refine ⟨(l1 _ _).mpr ⟨z1, hn⟩, ?_⟩
    rw [l2 _ _ z1 hn, e7]
    exact rnp_congr z2 (fun q hq => by rw [e55]; exact hX.2.2.1 q hq) hX.2.2.2
  · rw [ek] at hi hj
    obtain ⟨i', i1, i2, i3, i4, i5, _⟩ := hf i hi
    obtain ⟨j', j1, j2, j3, j4, j5, _⟩ := hf j hj
    rw [i4, j4] at q1
    rw [i5, j5] at q2
    have := h4 i' j' i1 j1 q1 q2
    omega
  · rw [ek]
    obtain ⟨z1, z2⟩ := (l1 a' b').mp hh'
    obtain ⟨i, i1, i2, i3⟩ := h5 a' b' z1
    have hix : (i : Int) ≠ x := fun z => z2 (by rw [← i2, ← i3, z]; exact ⟨ha, hb⟩)
    by_cases c : i = w.1 - 1
    · refine ⟨x.toNat, by omega, ?_, ?_⟩
      · rw [y1, ex, if_pos rfl, show (w.1 : Int) - 1 = (i : Int) by omega]; exact i2
      · rw [y2, ex, if_pos rfl, show (w.1 : Int) - 1 = (i : Int) by omega]; exact i3
    · refine ⟨i, by omega, ?_, ?_⟩
      · rw [y1, if_neg hix]; exact i2
      · rw [y2, if_neg hix]; exact i3
theorem c_fromWallet {a b r v : Int} (h : RT M R m giv st en lk s) (hs : sbk s.wal) (hp : posb s.wal) (hv : rnp M 0 (M 6952 7) r v) (hv0 : 0 < v) (ha : im_i64 a) (hb : im_i64 b) (h7 : M 6952 7 + 310 ≤ 1100000) (hd : 6 ≤ d)
    (hK1 : lk = 1 → K (.inl none) e M)
    (hKs : lk = 0 → ¬ hld s.wal a b < v → ∀ M', RX M M' → M' 6952 7 ≤ M 6952 7 + 303 → RT M' R m giv st en lk (s.sWal (bdeb s.wal a b v)) → K (.inl none) e M')
    (hKe : lk = 0 → hld s.wal a b < v → ∀ M', RZ M M' R m giv lk (-7) → K (.inl none) e M') : im_T g d 411 0 [some (.ref 6952), some (vL a), none, some (vL b), none, some (vI r), none] [] e M K := by
  obtain ⟨w1, w2, w3⟩ := h.2.2.2.2.2.1
  have h101 := h.2.2.2.1.2.1
  have h102 := h.2.2.2.2.1.1
  have hlk : lk = 0 ∨ lk = 1 := by
    rcases h.2.2.2.2.1.2.1 with z | z
    · exact Or.inl z
    · exact Or.inr z.1
  refine b_fromWallet_0 (by omega) ?_
  rw [h102]
  refine ⟨fun h0 => ?_, fun h0 => hK1 (by omega)⟩
  have hw := w3 h0
  obtain ⟨k1, k2, k3, k4, k5⟩ := id hw
  have hKs := hKs h0
  have hKe := hKe h0
  refine c_walletAt ⟨w1, w2⟩ ha hb (fun x x0 x1 e1 e2 => ⟨_, rfl, rfl, by constructor <;> omega, fun z => by omega, fun _ => ⟨by constructor <;> omega, ?_⟩⟩) (fun hn => ⟨_, rfl, rfl, by decide, fun _ => ?_, fun z => absurd rfl z⟩)
  · rw [k1] at x1
    have ei : ((x.toNat : Nat) : Int) = x := by omega
    obtain ⟨y1, y2⟩ := k3 x.toNat (by omega)
    rw [ei, e1, e2] at y1 y2
    obtain ⟨l1, l2⟩ := (hld_pos hp (a := a) (b := b)).1 y1
    obtain ⟨ka, u1, u2, u3, u4⟩ := id y2
    obtain ⟨kb, v1, v2, v3, v4⟩ := id hv
    refine c_order u1 v1 u2 v2 (by omega) (by omega) (by omega) (by omega) (by omega) ⟨_, rfl, rfl, by unfold cmpI; (repeat' split) <;> decide, fun hge => ?_, fun hlt => ?_⟩
    · have hle : ¬ hld s.wal a b < v := fun w => by unfold cmpI at hge; rw [if_pos w] at hge; omega
      have hKs := hKs hle
      have hsm : sm (hld s.wal a b + -1 * v) := by
        have := (rn_small u1).mp u4
        unfold sm at *
        generalize LIM = L at *
        omega
      refine c_sum y2 hv (Or.inr rfl) h101 (by omega) (by omega) (fun _ M1 r' X1 t1 e8 hr' => ⟨_, rfl, rfl, ?_⟩) (fun z => absurd hsm z)
      obtain ⟨k, z1, z2, z3, z4⟩ := id hr'
      have hsg := rn_sg z1
      have h1X := X1.2.2.2
      have e116 : M1 6952 116 = (s.wal.1 : Int) := (X1.2.1 116 (by decide) (by decide)).trans k1
      rw [e116]
      unfold bdeb at hKs
      rw [if_pos y1, ← l2] at hKs
      refine ⟨by constructor <;> omega, by constructor <;> omega, fun hnz => ?_, fun hz => ⟨by constructor <;> omega, by constructor <;> omega, ?_⟩⟩
      · have hnz2 : ¬ hld s.wal a b - v = 0 := fun w => hnz (by
          rw [hsg, show hld s.wal a b + -1 * v = 0 by omega]; rfl)
        rw [if_neg hnz2, show hld s.wal a b - v = hld s.wal a b + -1 * v by omega] at hKs
        have e52 : im_u M1 7033 x r' 6952 = M1 6952 := im_u_ne _ _ _ (by decide)
        have e55 : im_u M1 7033 x r' 6955 = M1 6955 := im_u_ne _ _ _ (by decide)
        have hset := rwl_set hw X1 x0 x1 e1 e2 y1 hr'
        obtain ⟨C1, X2⟩ := h.wal (M' := im_u M1 7033 x r') (β := bset s.wal a b (hld s.wal a b + -1 * v)) (fun y a _ b => by
          by_cases hy : y = 6955
          · omega
          · exact (im_u_ne _ _ _ (by omega)).trans (X1.1 y a hy)) (fun k a b _ => by rw [e52]; exact X1.2.1 k a b) (fun i hi => by rw [e55]; exact X1.2.2.1 i hi) (by rw [e52]; exact X1.2.2.2) (by rw [e52]; exact Or.inl e8) ⟨by rw [e52, X1.2.1 116 (by decide) (by decide)]; exact ⟨w1, w2⟩, fun _ => by rw [e52]; exact hset⟩
        exact hKs _ X2 (by rw [e52]; exact t1) C1
      · have hz2 : hld s.wal a b - v = 0 := by
          rw [hsg] at hz
          unfold sg at hz
          (repeat' split at hz) <;> omega
        rw [if_pos hz2] at hKs
        generalize hM' : im_u (im_u (im_u (im_u (im_u M1 7033 x r') 6952 116 ((s.wal.1 : Int) - 1)) 7031 x (M1 7031 ((s.wal.1 : Int) - 1))) 7032 x (M1 7032 ((s.wal.1 : Int) - 1))) 7033 x (im_u M1 7033 x r' 7033 ((s.wal.1 : Int) - 1)) = M'
        have g0 : ∀ y, y ≠ 6952 → (y < 7031 ∨ 7033 < y) → M' y = M1 y := fun y a b => by rw [← hM', im_u_ne _ _ _ (by omega), im_u_ne _ _ _ (by omega), im_u_ne _ _ _ (by omega), im_u_ne _ _ _ a, im_u_ne _ _ _ (by omega)]
        have gf : ∀ k, k ≠ 116 → M' 6952 k = M1 6952 k := fun k hk => by rw [← hM', im_rdn _ _ _ _ (by decide), im_rdn _ _ _ _ (by decide), im_rdn _ _ _ _ (by decide), im_rdk _ _ _ hk, im_rdn _ _ _ _ (by decide)]
        have gk : M' 6952 116 = (s.wal.1 : Int) - 1 := by rw [← hM', im_rdn _ _ _ _ (by decide), im_rdn _ _ _ _ (by decide), im_rdn _ _ _ _ (by decide), im_rds]
        have q1 : ∀ i, M' 7031 i = if i = x then M1 7031 ((s.wal.1 : Int) - 1) else M1 7031 i := fun i => by rw [← hM', im_rdn _ _ _ _ (by decide), im_rdn _ _ _ _ (by decide), im_rdx, im_rdn _ _ _ _ (by decide), im_rdn _ _ _ _ (by decide)]
        have q2 : ∀ i, M' 7032 i = if i = x then M1 7032 ((s.wal.1 : Int) - 1) else M1 7032 i := fun i => by rw [← hM', im_rdn _ _ _ _ (by decide), im_rdx, im_rdn _ _ _ _ (by decide), im_rdn _ _ _ _ (by decide), im_rdn _ _ _ _ (by decide)]
        have q3 : ∀ i, i < (s.wal.1 : Int) - 1 → M' 7033 i = if i = x then M1 7033 ((s.wal.1 : Int) - 1) else M1 7033 i := fun i hi => by
          rw [← hM', im_rdx, im_rdx]
          by_cases c : i = x
          · rw [if_pos c, if_pos c, if_neg (by omega)]
          · rw [if_neg c, if_neg c, im_rdn _ _ _ _ (by decide), im_rdn _ _ _ _ (by decide), im_rdn _ _ _ _ (by decide), im_rdx, if_neg c]
        clear hM'
        have e55 : M' 6955 = M1 6955 := g0 6955 (by decide) (by decide)
        have e7 := gf 7 (by decide)
        have hrem := rwl_rem hw hs X1 x0 x1 e1 e2 y1 gk e7 e55 q1 q2 q3
        obtain ⟨C1, X2⟩ := h.wal (M' := M') (β := brem s.wal a b) (fun y a _ b => (g0 y a b).trans (X1.1 y a (by omega))) (fun k a b c => (gf k c).trans (X1.2.1 k a b)) (fun i hi => by rw [e55]; exact X1.2.2.1 i hi) (by rw [e7]; exact X1.2.2.2) (by rw [gf 8 (by decide)]; exact Or.inl e8) ⟨by rw [gk]; constructor <;> omega, fun _ => hrem⟩
        exact hKs _ X2 (by rw [e7]; exact t1) C1
    · have hgt : hld s.wal a b < v := by
        apply Decidable.byContradiction
        intro w
        unfold cmpI at hlt; rw [if_neg w] at hlt; (repeat' split at hlt) <;> omega
      exact c_refuse h101 (by decide) ⟨rfl, rfl, hKe hgt _ (h.rz (RX.rf M) (-7))⟩
  · have hnh : ¬ hs2 s.wal a b := fun z => by
      obtain ⟨i, i1, i2, i3⟩ := k5 a b z
      exact hn i (by omega) (by omega) ⟨i2, i3⟩
    have hl0 := (hld_pos hp (a := a) (b := b)).2 hnh
    exact c_refuse h101 (by decide) ⟨rfl, rfl, hKe (by omega) _ (h.rz (RX.rf M) (-7))⟩
end RFROM
