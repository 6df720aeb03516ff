/-! THE REFERENCE's wallets; it pays out -/
section RWAL
variable {g : im_g} {d : Nat} {e : im_E} {M : im_M} {K : im_K} {R : Rw} {m : Int} {giv : Bk} {st en lk : Int} {s : TS}
theorem l_walletAt {a b : Int} (hw : 0 ≤ M 6952 116 ∧ M 6952 116 ≤ 60) (ha : im_i64 a) (hb : im_i64 b) (hK1 : ∀ x, 0 ≤ x → x < M 6952 116 → M 7031 x = a → M 7032 x = b → K (.inl (some (vI x))) e M) (hK0 : (∀ x, 0 ≤ x → x < M 6952 116 → ¬ (M 7031 x = a ∧ M 7032 x = b)) → K (.inl (some (vI (-1)))) e M) :
    ∀ (n : Nat) (i : Int), i + n = M 6952 116 → 0 ≤ i → (∀ x, 0 ≤ x → x < i → ¬ (M 7031 x = a ∧ M 7032 x = b)) → im_T g d 370 3 [some (.ref 6952), some (vL a), none, some (vL b), none, some (vI i)] [] e M K := by
  intro n
  induction n with
  | zero =>
    intro i hi i0 hx
    refine b_walletAt_3 ⟨by constructor <;> omega, ⟨fun _ => hK0 (fun x x0 x1 => hx x x0 (by omega)), fun z => by omega⟩, fun z => by omega⟩
  | succ n ih =>
    intro i hi i0 hx
    refine b_walletAt_3 ⟨by constructor <;> omega, ⟨fun z => by omega, fun _ => ⟨by constructor <;> omega, ha, fun e1 => ⟨hb, fun e2 => hK1 i i0 (by omega) e1 e2⟩⟩⟩, fun z => ?_⟩
    refine ih (i + 1) (by omega) (by omega) (fun x x0 x1 => ?_)
    by_cases hxi : x = i
    · rw [hxi]; intro w; rcases z with z | z
      · exact z.2 w.1
      · exact z.2.2 w.2
    · exact hx x x0 (by omega)
theorem c_walletAt {a b : Int} (hw : 0 ≤ M 6952 116 ∧ M 6952 116 ≤ 60) (ha : im_i64 a) (hb : im_i64 b) (hK1 : ∀ x, 0 ≤ x → x < M 6952 116 → M 7031 x = a → M 7032 x = b → K (.inl (some (vI x))) e M) (hK0 : (∀ x, 0 ≤ x → x < M 6952 116 → ¬ (M 7031 x = a ∧ M 7032 x = b)) → K (.inl (some (vI (-1)))) e M) : im_T g d 370 0 [some (.ref 6952), some (vL a), none, some (vL b), none, none] [] e M K :=
  b_walletAt_0 (l_walletAt hw ha hb hK1 hK0 (M 6952 116).toNat 0 (by omega) (Int.le_refl _) (fun x x0 x1 => by omega))
/-- a wallet's number changes -/
theorem rwl_set {M' : im_M} {w : Bk} {a b v r x : Int} (h : rwl M w (M 6952 7)) (hX : SX M M') (x0 : 0 ≤ x) (x1 : x < w.1) (ha : M 7031 x = a) (hb : M 7032 x = b) (hh : hs2 w a b) (hv : rnp M' 0 (M' 6952 7) r v) : rwl (im_u M' 7033 x r) (bset w a b v) (M' 6952 7) := by
  obtain ⟨h1, h2, h3, h4, h5⟩ := h
  obtain ⟨l1, l2, l3⟩ := lk_bset (v := v) hh
  have e55 : im_u M' 7033 x r 6955 = M' 6955 := im_u_ne _ _ _ (by decide)
  have e1 : im_u M' 7033 x r 7031 = M 7031 := by rw [im_u_ne _ _ _ (by decide)]; exact hX.1 7031 (by decide) (by decide)
  have e2 : im_u M' 7033 x r 7032 = M 7032 := by rw [im_u_ne _ _ _ (by decide)]; exact hX.1 7032 (by decide) (by decide)
  refine ⟨by rw [im_rdn _ _ _ _ (by decide), hX.2.1 116 (by decide) (by decide)]; exact h1, h2, fun i hi => ?_, fun i j hi hj => by rw [e1, e2]; exact h4 i j hi hj, fun a' b' hh' => by rw [e1, e2]; exact h5 a' b' hh'⟩
  rw [e1, e2, im_rdx]
  obtain ⟨y1, y2⟩ := h3 i hi
  refine ⟨y1, ?_⟩
  have ei : ((x.toNat : Nat) : Int) = x := by omega
  by_cases c : (i : Int) = x
  · rw [if_pos c, c, ha, hb, l2]
    exact rnp_congr hv (fun j _ => by rw [e55]) (Int.le_refl _)
  · rw [if_neg c, hX.1 7033 (by decide) (by decide), l3 _ _ (fun z => ?_)]
    · exact rnp_congr y2 (fun j hj => by rw [e55]; exact hX.2.2.1 j hj) hX.2.2.2
    · have := h4 i x.toNat hi (by omega) (by rw [ei, ha]; exact z.1) (by rw [ei, hb]; exact z.2)
      omega
theorem c_toWallet {a b r v : Int} (h : RT M R m giv st en lk s) (hs : sbk s.wal) (hv : rnp M 0 (M 6952 7) r v) (ha : im_i64 a) (hb : im_i64 b) (h7 : M 6952 7 + 310 ≤ 1100000) (hd : 6 ≤ d)
    (hK1 : lk = 1 → K (.inl none) e M)
    (hKs : lk = 0 → ∀ β, bcre s.wal 60 a b v = .inr β → ∀ M', RX M M' → M' 6952 7 ≤ M 6952 7 + 303 → RT M' R m giv st en lk (s.sWal β) → K (.inl none) e M')
    (hKe : lk = 0 → ∀ c, bcre s.wal 60 a b v = .inl c → c < 0 → ∀ M', RZ M M' R m giv lk c → K (.inl none) e M') : im_T g d 369 0 [some (.ref 6952), some (vL a), none, some (vL b), none, some (vI r), none, none] [] e M K := by
  obtain ⟨w1, w2, w3⟩ := h.2.2.2.2.2.1
  have h101 := h.2.2.2.1.2.1
  have h102 := h.2.2.2.2.1.1
  have hlk : lk = 0 ∨ lk = 1 := by
    rcases h.2.2.2.2.1.2.1 with z | z
    · exact Or.inl z
    · exact Or.inr z.1
  have hri : im_i32 r := by
    obtain ⟨k, _, z1, z2, _⟩ := hv
    constructor <;> omega
  refine b_toWallet_0 (by omega) (c_walletAt ⟨w1, w2⟩ ha hb (fun x x0 x1 e1 e2 => ⟨_, rfl, rfl, ?_⟩) (fun hn => ⟨_, rfl, rfl, ?_⟩))
  · rw [h102]
    refine ⟨fun h0 => ⟨by constructor <;> omega, fun z => by omega, fun _ => ⟨by constructor <;> omega, ?_⟩⟩, fun h0 => hK1 (by omega)⟩
    have hw := w3 h0
    obtain ⟨k1, k2, k3, k4, k5⟩ := id hw
    rw [k1] at x1
    have ei : ((x.toNat : Nat) : Int) = x := by omega
    obtain ⟨y1, y2⟩ := k3 x.toNat (by omega)
    rw [ei, e1, e2] at y1 y2
    have hld1 : hld s.wal a b = s.wal.2.2.2 (ps s.wal a b) := by unfold hld; rw [if_pos y1]
    have hKs := hKs h0
    have hKe := hKe h0
    unfold bcre at hKs hKe
    rw [if_pos y1, ← hld1] at hKs hKe
    refine c_sum y2 hv (Or.inl rfl) h101 (by omega) (by omega) (fun hsm M1 r' X1 t1 e8 hr' => ⟨_, rfl, rfl, fun x' hx => ?_⟩) (fun hsm M1 r' hr0 X1 t1 e8 => ⟨_, rfl, rfl, fun x' hx => ?_⟩)
    · rw [Int.one_mul] at hsm hr'
      rw [if_pos (show -LIM < _ ∧ _ < LIM from hsm)] at hKs
      rw [X1.2.1 101 (by decide) (by decide), h101] at hx
      have hxr : x' = r' := by omega
      subst hxr
      have e52 : im_u M1 7033 x x' 6952 = M1 6952 := im_u_ne _ _ _ (by decide)
      have e55 : im_u M1 7033 x x' 6955 = M1 6955 := im_u_ne _ _ _ (by decide)
      have hset := rwl_set hw X1 x0 x1 e1 e2 y1 hr'
      obtain ⟨C1, X2⟩ := h.wal (M' := im_u M1 7033 x x') (β := bset s.wal a b (hld s.wal a b + v)) (fun y a _ b => by
        by_cases hy : y = 6955
        · omega
        · exact (im_u_ne _ _ _ (by omega)).trans (X1.1 y a hy)) (fun k a b _ => by rw [e52]; exact X1.2.1 k a b) (fun i hi => by rw [e55]; exact X1.2.2.1 i hi) (by rw [e52]; exact X1.2.2.2) (by rw [e52]; exact Or.inl e8) ⟨by rw [e52, X1.2.1 116 (by decide) (by decide)]; exact ⟨w1, w2⟩, fun _ => by rw [e52]; exact hset⟩
      refine ⟨?_, hKs _ rfl _ X2 (by rw [e52]; exact t1) C1⟩
      obtain ⟨k, _, z1, z2, _⟩ := hr'
      have := X1.2.2.2
      constructor <;> omega
    · rw [Int.one_mul] at hsm
      rw [if_neg (show ¬ (-LIM < _ ∧ _ < LIM) from hsm)] at hKe
      have e101 : im_u M1 6952 101 (-8) 6952 101 = -8 := im_rds _ _ _ _
      rw [e101] at hx
      have e33 : im_u M1 6952 101 (-8) 7033 = M 7033 := by rw [im_u_ne _ _ _ (by decide)]; exact X1.1 7033 (by decide) (by decide)
      rw [e33] at hx
      have hxr : x' = M 7033 x := by omega
      subst hxr
      have C1 := SX.rt h X1 (Or.inr e8)
      obtain ⟨z1, z2, z3, z4, z5, z6⟩ := C1.rz X1.rx (-8)
      refine ⟨?_, hKe (-8) rfl (by decide) _ ⟨z1.trans ⟨fun y a b c d => im_u_ne _ _ _ (by omega), fun k _ _ _ _ _ _ _ _ _ _ _ _ _ => im_rdn _ _ _ _ (by decide), fun i _ => im_rdn _ _ _ _ (by decide), Int.le_of_eq (im_rdn _ _ _ _ (by decide)).symm⟩, (im_rdn _ _ _ _ (by decide)).trans z2, (im_rdn _ _ _ _ (by decide)).trans z3, by rw [show ∀ w, im_u (im_u M1 6952 101 (-8)) 7033 x w 6952 8 = im_u M1 6952 101 (-8) 6952 8 from fun w => im_rdn _ _ _ _ (by decide)]; exact z4, Or.inl h0, by rw [show ∀ w, im_u (im_u M1 6952 101 (-8)) 7033 x w 6952 116 = im_u M1 6952 101 (-8) 6952 116 from fun w => im_rdn _ _ _ _ (by decide)]; exact z6⟩⟩
      obtain ⟨k, _, y3, y4, _⟩ := y2
      constructor <;> omega
  · rw [h102]
    refine ⟨fun h0 => ⟨by decide, fun _ => ?_, fun z => absurd rfl z⟩, fun h0 => hK1 (by omega)⟩
    have hw := w3 h0
    obtain ⟨k1, k2, k3, k4, k5⟩ := id hw
    have hnh : ¬ hs2 s.wal a b := fun z => by
      obtain ⟨i, i1, i2, i3⟩ := k5 a b z
      exact hn i (by omega) (by omega) ⟨i2, i3⟩
    have hKs := hKs h0
    have hKe := hKe h0
    unfold bcre at hKs hKe
    rw [if_neg hnh] at hKs hKe
    rw [k1]
    refine ⟨fun hc => ⟨by constructor <;> omega, ha, hb, hri, by constructor <;> omega, ?_⟩, fun hc => ?_⟩
    · rw [if_pos (show s.wal.1 < 60 by omega)] at hKs
      obtain ⟨l1, l2, l3⟩ := lk_bins (v := v) hs hnh
      generalize hM' : im_u (im_u (im_u (im_u M 7031 s.wal.1 a) 7032 s.wal.1 b) 7033 s.wal.1 r) 6952 116 ((s.wal.1 : Int) + 1) = M'
      have g0 : ∀ x, x ≠ 6952 → (x < 7031 ∨ 7033 < x) → M' x = M x := fun x a b => by rw [← hM', im_u_ne _ _ _ a, im_u_ne _ _ _ (by omega), im_u_ne _ _ _ (by omega), im_u_ne _ _ _ (by omega)]
      have gf : ∀ k, k ≠ 116 → M' 6952 k = M 6952 k := fun k hk => by rw [← hM', im_rdk _ _ _ hk, im_rdn _ _ _ _ (by decide), im_rdn _ _ _ _ (by decide), im_rdn _ _ _ _ (by decide)]
      have gk : M' 6952 116 = (s.wal.1 : Int) + 1 := by rw [← hM', im_rds]
      have y1 : ∀ x, M' 7031 x = if x = s.wal.1 then a else M 7031 x := fun x => by rw [← hM', im_rdn _ _ _ _ (by decide), im_rdn _ _ _ _ (by decide), im_rdn _ _ _ _ (by decide), im_rdx]
      have y2 : ∀ x, M' 7032 x = if x = s.wal.1 then b else M 7032 x := fun x => by rw [← hM', im_rdn _ _ _ _ (by decide), im_rdn _ _ _ _ (by decide), im_rdx, im_rdn _ _ _ _ (by decide)]
      have y3 : ∀ x, M' 7033 x = if x = s.wal.1 then r else M 7033 x := fun x => by rw [← hM', im_rdn _ _ _ _ (by decide), im_rdx, im_rdn _ _ _ _ (by decide), im_rdn _ _ _ _ (by decide)]
      clear hM'
      have e55 : M' 6955 = M 6955 := g0 6955 (by decide) (by decide)
      have e7 := gf 7 (by decide)
      have hnew : rwl M' (bins s.wal a b v) (M' 6952 7) := by
        have ek : (bins s.wal a b v).1 = s.wal.1 + 1 := rfl
        refine ⟨by rw [gk, ek]; rfl, by rw [ek]; omega, fun i hi => ?_, fun i j hi hj => ?_, fun a' b' hh => ?_⟩
        · rw [ek] at hi
          rw [y1, y2, y3, e7]
          by_cases c : (i : Int) = s.wal.1
          · rw [if_pos c, if_pos c, if_pos c]
            exact ⟨(l1 a b).mpr (Or.inl ⟨rfl, rfl⟩), by rw [l2]; exact rnp_congr hv (fun j _ => by rw [e55]) (Int.le_refl _)⟩
          · rw [if_neg c, if_neg c, if_neg c]
            obtain ⟨z1, z2⟩ := k3 i (by omega)
            exact ⟨(l1 _ _).mpr (Or.inr z1), by rw [l3 _ _ z1]; exact rnp_congr z2 (fun j _ => by rw [e55]) (Int.le_refl _)⟩
        · rw [ek] at hi hj
          rw [y1, y1, y2, y2]
          intro q1 q2
          by_cases c : (i : Int) = s.wal.1
          · by_cases c' : (j : Int) = s.wal.1
            · omega
            · rw [if_pos c, if_neg c'] at q1 q2
              exact absurd ⟨q1.symm, q2.symm⟩ (hn j (by omega) (by omega))
          · by_cases c' : (j : Int) = s.wal.1
            · rw [if_neg c, if_pos c'] at q1 q2
              exact absurd ⟨q1, q2⟩ (hn i (by omega) (by omega))
            · rw [if_neg c, if_neg c'] at q1 q2
              exact k4 i j (by omega) (by omega) q1 q2
        · rw [ek]
          rcases (l1 a' b').mp hh with z | z
          · refine ⟨s.wal.1, by omega, ?_, ?_⟩
            · rw [y1, if_pos rfl]; exact z.1.symm
            · rw [y2, if_pos rfl]; exact z.2.symm
          · obtain ⟨i, i1, i2, i3⟩ := k5 a' b' z
            refine ⟨i, by omega, ?_, ?_⟩
            · rw [y1, if_neg (by omega)]; exact i2
            · rw [y2, if_neg (by omega)]; exact i3
      obtain ⟨C1, X1⟩ := h.wal (M' := M') (fun x a _ b => g0 x a b) (fun k _ _ a => gf k a) (fun i _ => by rw [e55]) (by omega) (by rw [gf 8 (by decide)]; exact h.2.2.2.2.1.2.2) ⟨by rw [gk]; constructor <;> omega, fun _ => hnew⟩
      exact hKs _ rfl M' X1 (by omega) C1
    · rw [if_neg (show ¬ s.wal.1 < 60 by omega)] at hKe
      exact c_refuse h101 (by decide) ⟨rfl, rfl, hKe (-9) rfl (by decide) _ (h.rz (RX.rf M) (-9))⟩
end RWAL
noncomputable def payR (lk : Int) (s : TS) (sort a b c v : Int) : Sum Int TS :=
  if s.pay.1 < 60 then
    (if sort = 1 then (match bcre s.acc 40 b c v with
        | .inl k => .inl k
        | .inr β => .inr ((s.sPay (radd s.pay sort a b c v)).sAcc β))
     else if lk = 0 then (match bcre s.wal 60 b c v with
        | .inl k => .inl k
        | .inr β => .inr ((s.sPay (radd s.pay sort a b c v)).sWal β))
     else .inr (s.sPay (radd s.pay sort a b c v)))
  else .inl (-9)
theorem payO_R (lk : Int) (s : TS) (sort a b c v : Int) : payO lk s sort a b c v = payR lk (s.sAcc (bdeb s.acc a c v)) sort a b c v := rfl
