/-! THE REFERENCE writes a record -/
theorem xshi_amt : ∀ k : Fin 32, ((Int32.ofInt ((k : Nat) : Int) &&& 31).toBitVec.smod 32#32).toNat = (k : Nat) := by decide
theorem xish {v : Int} {k : Nat} (h0 : -2147483648 ≤ v) (h1 : v ≤ 2147483647) (hk : k < 32) : xishr v k = v / 2 ^ k := by
  unfold xishr
  have h : (Int32.ofInt v >>> (Int32.ofInt (k : Int) &&& 31)).toBitVec = (BitVec.ofInt 32 v).sshiftRight' ((Int32.ofInt (k : Int) &&& 31).toBitVec.smod 32#32) := rfl
  rw [← Int32.toInt_toBitVec, h]
  have ha := xshi_amt ⟨k, hk⟩
  show ((BitVec.ofInt 32 v).sshiftRight ((Int32.ofInt (k : Int) &&& 31).toBitVec.smod 32#32).toNat).toInt = _
  rw [show ((Int32.ofInt (k : Int) &&& 31).toBitVec.smod 32#32).toNat = k from ha, BitVec.toInt_sshiftRight, BitVec.toInt_ofInt_eq_self (by decide) (by omega) (by omega), Int.shiftRight_eq_div_pow]
  rfl
def RDk (M : im_M) (D : Int → Int) : Prop := ∀ x, 0 ≤ x → x < 16384 → M 7080 x = D x
def RJF (M M' : im_M) : Prop := (∀ x, x ≠ 6952 → x ≠ 7080 → M' x = M x) ∧ (∀ k, k < 179 ∨ 181 < k → M' 6952 k = M 6952 k)
theorem RJF.rf (M : im_M) : RJF M M := ⟨fun _ _ _ => rfl, fun _ _ => rfl⟩
theorem RJF.trans {M M1 M2 : im_M} (h : RJF M M1) (h' : RJF M1 M2) : RJF M M2 := ⟨fun x a b => (h'.1 x a b).trans (h.1 x a b), fun k a => (h'.2 k a).trans (h.2 k a)⟩
/-- the reference's disk while a record is written -/
def JR (M : im_M) (dk : Int → Int) (u lf : Int) (β : Int → Int) (i : Int) : Prop := (lf < 0 ∨ i ≤ lf) ∧ M 6952 179 = (if lf < 0 then lf else lf - i) ∧ M 6952 180 = 0 ∧ RDk M (wrD dk u β i)
section RJOUR
variable {g : im_g} {d : Nat} {e : im_E} {M M0 : im_M} {K : im_K} {dk t : Int → Int} {u lf kd many len a b c : Int}
theorem c_rcheckByte {x : Int} (hK : K (.inl none) e (im_u M 6952 181 (mx (M 6952 181) x))) : im_T g d 309 0 [some (.ref 6952), some (vI x)] [] e M K := by
  refine b_checkByte' ?_
  rw [xiand_255]; exact hK
theorem c_lasts {β : Int → Int} {i x p : Int} (h : JR M dk u lf β i) (hi : 0 ≤ i) (hp : p = u + i) (hu : 0 ≤ u ∧ u + i < 16384) (hx : x % 256 = β i) (hl : -1 ≤ lf ∧ lf ≤ 2147483647)
    (h0 : lf = i → ∀ M', RJF M M' → M' 6952 181 = M 6952 181 → M' 6952 179 = 0 → M' 6952 180 = 1 → RDk M' (wrD dk u β i) → K (.inl (some (vI 0))) e M')
    (h1 : lf ≠ i → ∀ M', RJF M M' → M' 6952 181 = M 6952 181 → JR M' dk u lf β (i + 1) → K (.inl (some (vI 1))) e M') : im_T g d 310 0 [some (.ref 6952), some (vI p), some (vI x)] [] e M K := by
  obtain ⟨j1, j2, j3, j4⟩ := h
  refine b_lasts_0 ?_
  rw [j2]
  refine ⟨fun hz => h0 ?_ _ ⟨fun y a _ => im_u_ne _ _ _ a, fun k hk => im_rdk _ _ _ (by omega)⟩ (im_rdk _ _ _ (by decide)) (by rw [im_rdk _ _ _ (by decide), j2, hz]) (im_rds _ _ _ _) (fun y a b => by rw [im_rdn _ _ _ _ (by decide)]; exact j4 y a b), fun x6 hx6 => ⟨?_, ⟨by omega, by omega⟩, ?_⟩⟩
  · split at hz <;> omega
  · split at hx6 <;> (split <;> constructor <;> omega)
  · rw [xiand_255, hx, hp]
    have hne : lf ≠ i := by
      intro z
      rcases hx6 with hx6 | hx6
      · rw [z] at hx6; split at hx6 <;> omega
      · rw [z] at hx6; split at hx6 <;> omega
    refine h1 hne _ ⟨fun y a b => by rw [im_u_ne _ _ _ b, im_u_ne _ _ _ a], fun k hk => by rw [im_rdn _ _ _ _ (by decide), im_rdk _ _ _ (by omega)]⟩ (by rw [im_rdn _ _ _ _ (by decide), im_rdk _ _ _ (by decide)]) ⟨?_, ?_, ?_, fun y a b => ?_⟩
    · omega
    · rw [im_rdn _ _ _ _ (by decide), im_rds]
      by_cases hn : lf < 0
      · rw [if_pos hn] at hx6 ⊢; omega
      · rw [if_neg hn] at hx6 ⊢; omega
    · rw [im_rdn _ _ _ _ (by decide), im_rdk _ _ _ (by decide)]; exact j3
    · rw [im_rdx, wrD_s hi]
      split
      · rfl
      · rw [im_rdn _ _ _ _ (by decide)]; exact j4 y a b
theorem c_recordByte {i : Int} (hi : 0 ≤ i ∧ i < 3 + 8 * many) (hm : many ≤ 3) (hl : 0 ≤ len ∧ len ≤ 65535) (ha : im_i64 a) (hb : im_i64 b) (hc : im_i64 c) (hK : ∀ x, x % 256 = rbt kd many len a b c t i % 256 → K (.inl (some (vI x))) e M) :
    im_T g d 308 0 [some (.ref 6952), some (vI i), some (vI len), some (vI kd), some (vL a), none, some (vL b), none, some (vL c), none, none, none, none] [] e M K := by
  refine b_recordByte_0 ⟨by constructor <;> omega, fun h3 => ?_, fun x hx => hK x ?_⟩
  · rw [Int.tdiv_eq_ediv_of_nonneg (by omega), Int.tmod_eq_emod_of_nonneg (by omega)]
    refine ⟨by constructor <;> omega, by constructor <;> omega, fun x hx => hK _ ?_⟩
    have e0 : x = if (i - 3) / 8 = 0 then a else if (i - 3) / 8 = 1 then b else c := by
      split
      · omega
      · split <;> omega
    have hx64 : im_i64 x := by
      rw [e0]
      split
      · exact ha
      · split
        · exact hb
        · exact hc
    rw [xland_255, show 56 - 8 * ((i - 3) % 8) = (((56 - 8 * ((i - 3) % 8)).toNat : Nat) : Int) from by omega, xlshr_n hx64.1 hx64.2 (by omega)]
    unfold rbt
    rw [if_neg (by omega), if_neg (by omega), if_neg (by omega), if_pos (by omega), e0]
  · unfold rbt
    by_cases h0 : i = 0
    · rw [if_pos h0]
      have hx : x = xishr len 8 := by omega
      rw [hx, show xishr len 8 = len / 2 ^ 8 from xish (k := 8) (by omega) (by omega) (by decide), show (2 : Int) ^ 8 = 256 by decide]
    · rw [if_neg h0]
      by_cases h1 : i = 1
      · rw [if_pos h1]
        have hx : x = xiand len 255 := by omega
        rw [hx, xiand_255]
      · rw [if_neg h1, if_pos (by omega)]
        have hx : x = kd := by omega
        rw [hx]
theorem rbt_rng {kd many len a b c i : Int} {t : Int → Int} (hkd : 0 ≤ kd ∧ kd < 256) (hl : 0 ≤ len ∧ len ≤ 65535) (ht : 3 + 8 * many ≤ i → 0 ≤ t (i - (3 + 8 * many)) ∧ t (i - (3 + 8 * many)) < 256) : rbt kd many len a b c t i % 256 = rbt kd many len a b c t i := by
  unfold rbt
  split
  · omega
  · split
    · omega
    · split
      · omega
      · split
        · omega
        · have := ht (by omega); omega
theorem c_rcheckPlace {C : Int} (h : 0 ≤ u ∧ u ≤ 16384) (h181 : M 6952 181 = C) (hd : 1 ≤ d) (hK : ∀ M', (∀ x, x ≠ 6952 → M' x = M x) → (∀ k, k ≠ 181 → M' 6952 k = M 6952 k) → M' 6952 181 = pl4 C u → K (.inl none) e M') : im_T g d 311 0 [some (.ref 6952), some (vI u), none] [] e M K := by
  have e1 : xishr u 24 = u / 16777216 := xish (k := 24) (by omega) (by omega) (by decide)
  have e2 : xishr u (24 + -8) = u / 65536 := xish (k := 16) (by omega) (by omega) (by decide)
  have e3 : xishr u (24 + -8 + -8) = u / 256 := xish (k := 8) (by omega) (by omega) (by decide)
  have e4 : xishr u (24 + -8 + -8 + -8) = u := (xish (k := 0) (by omega) (by omega) (by decide)).trans (by omega)
  refine b_checkPlace_0 (b_checkPlace_3 hd ⟨by decide, fun z => absurd z (by decide), fun _ => c_rcheckByte ⟨rfl, rfl, ?_⟩⟩)
  refine b_checkPlace_3 hd ⟨by decide, fun z => absurd z (by decide), fun _ => c_rcheckByte ⟨rfl, rfl, ?_⟩⟩
  refine b_checkPlace_3 hd ⟨by decide, fun z => absurd z (by decide), fun _ => c_rcheckByte ⟨rfl, rfl, ?_⟩⟩
  refine b_checkPlace_3 hd ⟨by decide, fun z => absurd z (by decide), fun _ => c_rcheckByte ⟨rfl, rfl, ?_⟩⟩
  refine b_checkPlace_3 hd ⟨by decide, fun _ => ?_, fun z => absurd z (by decide)⟩
  rw [im_rds, im_rds, im_rds, e1, e2, e3, e4, h181]
  refine hK _ (fun x hx => by rw [im_u_ne _ _ _ hx, im_u_ne _ _ _ hx, im_u_ne _ _ _ hx, im_u_ne _ _ _ hx]) (fun k hk => by rw [im_rdk _ _ _ hk, im_rdk _ _ _ hk, im_rdk _ _ _ hk, im_rdk _ _ _ hk]) (im_rds _ _ _ _)
theorem c_rwrite {n wt : Int} (hkd : 1 ≤ kd ∧ kd ≤ 8) (hm : 0 ≤ many ∧ many ≤ 3) (hlen : 3 + 8 * many + n + 4 = len) (hn : (wt = 0 ∧ n = 0) ∨ (wt = 1 ∧ n = M 6952 13)) (hn0 : 0 ≤ n ∧ n ≤ 16384) (ht : ∀ i, 0 ≤ i → i < n → M 6959 i = t i ∧ 0 ≤ t i ∧ t i < 256) (hu : 0 ≤ u ∧ u ≤ 16384) (h177 : M 6952 177 = u) (h178 : 0 ≤ M 6952 178 ∧ M 6952 178 ≤ 16384) (h179 : M 6952 179 = lf) (hl : -1 ≤ lf ∧ lf ≤ 2147483647) (h180 : M 6952 180 = 0) (hD : RDk M dk) (ha : im_i64 a) (hb : im_i64 b) (hc : im_i64 c) (hd : 4 ≤ d)
    (hKx : 16384 < u + len → K (.inl (some (vI (-10)))) e M)
    (hKs : u + len ≤ 16384 → lf < 0 ∨ len ≤ lf → ∀ M', (∀ x, x ≠ 6952 → x ≠ 7080 → M' x = M x) → (∀ k, k < 177 ∨ 181 < k → M' 6952 k = M 6952 k) → RDk M' (wrD (dk0 dk (u + len + 2)) u (rby kd many len a b c t u) len) → M' 6952 177 = u + len → M' 6952 178 = M 6952 178 + 1 → M' 6952 179 = (if lf < 0 then lf else lf - len) → M' 6952 180 = 0 → K (.inl (some (vI 0))) e M')
    (hKf : u + len ≤ 16384 → 0 ≤ lf ∧ lf < len → ∀ M', (∀ x, x ≠ 6952 → x ≠ 7080 → M' x = M x) → (∀ k, k < 177 ∨ 181 < k → M' 6952 k = M 6952 k) → RDk M' (fun x => if x = u + 2 then 0 else wrD (dk0 dk (u + len + 2)) u (rby kd many len a b c t u) lf x) → M' 6952 177 = u → M' 6952 178 = M 6952 178 → M' 6952 179 = 0 → M' 6952 180 = 1 → K (.inl (some (vI (-100)))) e M') :
    im_T g d 307 0 [some (.ref 6952), some (vI kd), some (vI many), some (vL a), none, some (vL b), none, some (vL c), none, some (vI wt), none, none, none, none] [] e M K := by
  refine b_write_0 ⟨by constructor <;> omega, fun x4 hx4 => ?_⟩
  have hx4 : x4 = n := by omega
  rw [hx4, hlen, h177]
  refine ⟨by constructor <;> omega, fun hle => ⟨by constructor <;> omega, fun hge => ?_, fun hlt => ⟨⟨by omega, hlt⟩, ?_⟩⟩, fun hgt => hKx hgt⟩
  all_goals
    generalize hN : im_u _ 6952 181 (-2128831035) = N
    have n1 : ∀ x, x ≠ 6952 → x ≠ 7080 → N x = M x := fun x p q => by
      rw [← hN, im_u_ne _ _ _ p]; try rw [im_u_ne _ _ _ q]
    have n2 : ∀ k, k ≠ 181 → N 6952 k = M 6952 k := fun k hk => by
      rw [← hN, im_rdk _ _ _ hk]; try rw [im_rdn _ _ _ _ (by decide)]
    have n3 : N 6952 181 = -2128831035 := by rw [← hN, im_rds]
    have n4 : RDk N (dk0 dk (u + len + 2)) := fun x p q => by
      rw [← hN, im_rdn _ _ _ _ (by decide)]
      unfold dk0
      first
        | (rw [im_rdx, hD x p q]; by_cases hx : x = u + len + 2
           · rw [if_pos hx, if_pos ⟨hx, hlt⟩]
           · rw [if_neg hx, if_neg (fun z => hx z.1)])
        | (rw [if_neg (by omega)]; exact hD x p q)
    clear hN
    have main : ∀ (N : im_M), (∀ x, x ≠ 6952 → x ≠ 7080 → N x = M x) → (∀ k, k ≠ 181 → N 6952 k = M 6952 k) → N 6952 181 = -2128831035 → RDk N (dk0 dk (u + len + 2)) → im_T g d 307 84 [some (.ref 6952), some (vI kd), none, some (vL a), none, some (vL b), none, some (vL c), none, none, some (vI (3 + 8 * many)), some (vI len), some (vI 0), none] [] e N K := by
      clear n1 n2 n3 n4
      intro N n1 n2 n3 n4
      have hcut : ∀ (M1 : im_M) (i : Int), 0 ≤ i → i < len → lf = i → RJF N M1 → M1 6952 179 = 0 → M1 6952 180 = 1 → RDk M1 (wrD (dk0 dk (u + len + 2)) u (rby kd many len a b c t u) i) → (0 ≤ (M1 6952 177) + 2 ∧ (M1 6952 177) + 2 < 16384) ∧ K (.inl (some (vI (-100)))) e (im_u M1 7080 ((M1 6952 177) + 2) 0) := by
        intro M1 i i0 i1 hli F1 a1 a2 a3
        have e1 : M1 6952 177 = u := by rw [F1.2 177 (by decide), n2 177 (by decide)]; exact h177
        rw [e1]
        refine ⟨⟨by omega, by omega⟩, hKf hle ⟨by omega, by omega⟩ _ (fun x p q => by rw [im_u_ne _ _ _ q, F1.1 x p q]; exact n1 x p q) (fun k hk => by rw [im_rdn _ _ _ _ (by decide), F1.2 k (by omega)]; exact n2 k (by omega)) (fun x p q => ?_) ?_ ?_ ?_ ?_⟩
        · rw [im_rdx]
          dsimp only
          split
          · rfl
          · rw [hli]; exact a3 x p q
        · rw [im_rdn _ _ _ _ (by decide)]; exact e1
        · rw [im_rdn _ _ _ _ (by decide), F1.2 178 (by decide)]; exact n2 178 (by decide)
        · rw [im_rdn _ _ _ _ (by decide)]; exact a1
        · rw [im_rdn _ _ _ _ (by decide)]; exact a2
      have tail : ∀ (r k : Nat) (M1 : im_M), k + r = 4 → RJF N M1 → M1 6952 181 = rck kd many len a b c t u → JR M1 (dk0 dk (u + len + 2)) u lf (rby kd many len a b c t u) (len - 4 + k) → im_T g d 307 183 [some (.ref 6952), none, none, none, none, none, none, none, none, none, none, some (vI len), some (vI k), none] [] e M1 K := by
        have hcki : im_i32 (rck kd many len a b c t u) := mx_i32 _ _
        intro r
        induction r with
        | zero =>
          intro k M1 hk F1 hC J1
          have hk4 : k = 4 := by omega
          subst hk4
          have e1 : M1 6952 177 = u := by rw [F1.2 177 (by decide), n2 177 (by decide)]; exact h177
          have e2 : M1 6952 178 = M 6952 178 := by rw [F1.2 178 (by decide)]; exact n2 178 (by decide)
          obtain ⟨j1, j2, j3, j4⟩ := J1
          rw [show len - 4 + ((4 : Nat) : Int) = len from by omega] at j1 j2 j4
          refine b_write_183 (by omega) ⟨by decide, fun _ => ?_, fun z => absurd z (by decide)⟩
          rw [e1, e2]
          refine ⟨by constructor <;> omega, by constructor <;> omega, hKs hle j1 _ (fun x p q => by rw [im_u_ne _ _ _ p, im_u_ne _ _ _ p, F1.1 x p q]; exact n1 x p q) (fun k hk => by rw [im_rdk _ _ _ (by omega), im_rdk _ _ _ (by omega), F1.2 k (by omega)]; exact n2 k (by omega)) (fun x p q => by rw [im_rdn _ _ _ _ (by decide), im_rdn _ _ _ _ (by decide)]; exact j4 x p q) ?_ ?_ ?_ ?_⟩
          · rw [im_rdk _ _ _ (by decide), im_rds]
          · rw [im_rds]
          · rw [im_rdk _ _ _ (by decide), im_rdk _ _ _ (by decide)]; exact j2
          · rw [im_rdk _ _ _ (by decide), im_rdk _ _ _ (by decide)]; exact j3
        | succ r ih =>
          intro k M1 hk F1 hC J1
          have e1 : M1 6952 177 = u := by rw [F1.2 177 (by decide), n2 177 (by decide)]; exact h177
          refine b_write_183 (by omega) ⟨by constructor <;> omega, fun z => by omega, fun _ => ?_⟩
          rw [e1, hC, show 24 - 8 * (k : Int) = (((24 - 8 * (k : Int)).toNat : Nat) : Int) from by omega, xish hcki.1 hcki.2 (by omega)]
          refine c_lasts (i := len - 4 + k) J1 (by omega) (by omega) ⟨hu.1, by omega⟩ rby_ck.symm hl (fun hli M2 F2 w1 w2 w3 w4 => ⟨_, rfl, rfl, by decide, fun z => absurd rfl z, fun _ => ?_⟩) (fun hne M2 F2 w1 J2 => ⟨_, rfl, rfl, by decide, fun _ => ?_, fun z => absurd z (by decide)⟩)
          · exact hcut M2 (len - 4 + k) (by omega) (by omega) hli (F1.trans F2) w2 w3 w4
          · refine ih (k + 1) M2 (by omega) (F1.trans F2) (w1.trans hC) ?_
            rw [show len - 4 + ((k + 1 : Nat) : Int) = len - 4 + k + 1 from by omega]; exact J2
      have head : ∀ (r i : Nat) (M1 : im_M), (i : Int) + r = len - 4 → RJF N M1 → M1 6952 181 = chk (rby kd many len a b c t u) i → JR M1 (dk0 dk (u + len + 2)) u lf (rby kd many len a b c t u) i → im_T g d 307 84 [some (.ref 6952), some (vI kd), none, some (vL a), none, some (vL b), none, some (vL c), none, none, some (vI (3 + 8 * many)), some (vI len), some (vI i), none] [] e M1 K := by
        intro r
        induction r with
        | zero =>
          intro i M1 hi F1 hC J1
          have e1 : M1 6952 177 = u := by rw [F1.2 177 (by decide), n2 177 (by decide)]; exact h177
          refine b_write_84 (by omega) ⟨by constructor <;> omega, by constructor <;> omega, fun _ => ?_, fun z => by omega⟩
          rw [e1]
          refine c_rcheckPlace hu hC (by omega) (fun M2 a1 a2 a3 => ⟨rfl, rfl, ?_⟩)
          refine tail 4 0 M2 (by omega) (F1.trans ⟨fun x p _ => a1 x p, fun k hk => a2 k (by omega)⟩) ?_ ?_
          · rw [a3]
            unfold rck
            rw [show (len - 4).toNat = i from by omega, chk_congr (β := rby kd many len a b c t u) (γ := rbt kd many len a b c t) _ (fun j j0 j1 => rby_hd (by omega))]
          · obtain ⟨j1, j2, j3, j4⟩ := J1
            rw [show len - 4 + ((0 : Nat) : Int) = (i : Int) from by omega]
            exact ⟨j1, by rw [a2 179 (by decide)]; exact j2, by rw [a2 180 (by decide)]; exact j3, fun x p q => by rw [a1 7080 (by decide)]; exact j4 x p q⟩
        | succ r ih =>
          intro i M1 hi F1 hC J1
          have e1 : M1 6952 177 = u := by rw [F1.2 177 (by decide), n2 177 (by decide)]; exact h177
          have step : ∀ w : Int, w % 256 = rby kd many len a b c t u i → im_T g (d - 1) 309 0 [some (.ref 6952), some (vI w)] [] e M1 (im_r0 (fun e_ M11 => e = e_ ∧ im_T g (d - 1) 310 0 [some (.ref 6952), some (vI ((M11 6952 177) + i)), some (vI w)] [] e M11 (im_ri (fun x14 e_ M13 => e = e_ ∧ (im_i32 x14) ∧ ((¬ x14 = 0 → im_T g d 307 84 [some (.ref 6952), some (vI kd), none, some (vL a), none, some (vL b), none, some (vL c), none, none, some (vI (3 + 8 * many)), some (vI len), some (vI ((i : Int) + 1)), none] [] e M13 K) ∧ (x14 = 0 → (0 ≤ ((M13 6952 177) + 2) ∧ ((M13 6952 177) + 2) < 16384) ∧ K (.inl (some (vI (-100)))) e (im_u M13 7080 ((M13 6952 177) + 2) 0))))))) := by
            intro w hw
            refine c_rcheckByte ⟨rfl, rfl, ?_⟩
            rw [hC, im_rdk _ _ _ (by decide), e1]
            have hcm : mx (chk (rby kd many len a b c t u) i) w = chk (rby kd many len a b c t u) (i + 1) := by show _ = mx _ _; rw [← hw, mx_m]
            rw [hcm]
            have J1' : JR (im_u M1 6952 181 (chk (rby kd many len a b c t u) (i + 1))) (dk0 dk (u + len + 2)) u lf (rby kd many len a b c t u) i := by
              obtain ⟨j1, j2, j3, j4⟩ := J1
              exact ⟨j1, by rw [im_rdk _ _ _ (by decide)]; exact j2, by rw [im_rdk _ _ _ (by decide)]; exact j3, fun x p q => by rw [im_rdn _ _ _ _ (by decide)]; exact j4 x p q⟩
            have F1' : RJF N (im_u M1 6952 181 (chk (rby kd many len a b c t u) (i + 1))) := F1.trans ⟨fun x p _ => im_u_ne _ _ _ p, fun k hk => im_rdk _ _ _ (by omega)⟩
            refine c_lasts (i := i) J1' (by omega) rfl ⟨hu.1, by omega⟩ hw hl (fun hli M2 F2 w1 w2 w3 w4 => ⟨_, rfl, rfl, by decide, fun z => absurd rfl z, fun _ => ?_⟩) (fun hne M2 F2 w1 J2 => ⟨_, rfl, rfl, by decide, fun _ => ?_, fun z => absurd z (by decide)⟩)
            · exact hcut M2 i (by omega) (by omega) hli (F1'.trans F2) w2 w3 w4
            · exact ih (i + 1) M2 (by omega) (F1'.trans F2) (w1.trans (im_rds _ _ _ _)) J2
          refine b_write_84 (by omega) ⟨by constructor <;> omega, by constructor <;> omega, fun z => by omega, fun _ => ⟨by constructor <;> omega, fun hge => ⟨⟨by omega, by omega⟩, ?_⟩, fun hlt => ?_⟩⟩
          · refine step _ ?_
            have hti := ht (i - (3 + 8 * many)) (by omega) (by omega)
            rw [F1.1 6959 (by decide) (by decide), n1 6959 (by decide) (by decide), hti.1, rby_hd (by omega)]
            have hb2 := rbt_txt (kd := kd) (many := many) (len := len) (a := a) (b := b) (c := c) (t := t) (i := (i : Int) - (3 + 8 * many)) hm.1 (by omega)
            rw [show 3 + 8 * many + ((i : Int) - (3 + 8 * many)) = i from by omega] at hb2
            rw [hb2]; omega
          · refine c_recordByte (t := t) (many := many) (i := i) ⟨by omega, hlt⟩ hm.2 ⟨by omega, by omega⟩ ha hb hc (fun x hx => ⟨_, rfl, rfl, step x ?_⟩)
            rw [hx, rby_hd (by omega)]
            exact rbt_rng ⟨by omega, by omega⟩ ⟨by omega, by omega⟩ (fun z => by omega)
      refine head (len - 4).toNat 0 N (by omega) (RJF.rf N) n3 ⟨by omega, ?_, ?_, ?_⟩
      · rw [n2 179 (by decide), h179]; split <;> omega
      · rw [n2 180 (by decide)]; exact h180
      · intro x p q
        rw [n4 x p q]
        unfold wrD
        rw [if_neg (by omega)]
    exact main N n1 n2 n3 n4
end RJOUR
