/-! THE REFERENCE keeps a transaction -/
theorem SB2_o {M M' : im_M} {cc cA cB cN : Nat} {i k : Int} {β : Bk} (h : SB2 M cc cA cB cN 40 k β) (hk : k ≠ i) (h1 : M' cc k = M cc k) (h2 : ∀ q, q < 40 * i ∨ 40 * i + 40 ≤ q → M' cA q = M cA q) (h3 : ∀ q, q < 40 * i ∨ 40 * i + 40 ≤ q → M' cB q = M cB q) (h4 : ∀ q, q < 302 * (40 * i) ∨ 302 * (40 * i + 40) ≤ q → M' cN q = M cN q) : SB2 M' cc cA cB cN 40 k β := by
  obtain ⟨a, b, c⟩ := h
  refine ⟨h1.trans a, b, fun j hj => ?_⟩
  obtain ⟨c1, c2, c3⟩ := c j hj
  exact ⟨(h2 _ (by omega)).trans c1, (h3 _ (by omega)).trans c2, sn_congr c3 (fun q q1 q2 => h4 q (by omega))⟩
theorem SB1_o {M M' : im_M} {cc cA cN : Nat} {i k : Int} {β : Bk} (h : SB1 M cc cA cN 40 k β) (hk : k ≠ i) (h1 : M' cc k = M cc k) (h2 : ∀ q, q < 40 * i ∨ 40 * i + 40 ≤ q → M' cA q = M cA q) (h4 : ∀ q, q < 302 * (40 * i) ∨ 302 * (40 * i + 40) ≤ q → M' cN q = M cN q) : SB1 M' cc cA cN 40 k β := by
  obtain ⟨a, b, z, c⟩ := h
  refine ⟨h1.trans a, b, z, fun j hj => ?_⟩
  obtain ⟨c1, c3⟩ := c j hj
  exact ⟨(h2 _ (by omega)).trans c1, sn_congr c3 (fun q q1 q2 => h4 q (by omega))⟩
section RTRAN2
variable {g : im_g} {d : Nat} {e : im_E} {M : im_M} {K : im_K} {w : Wd} {t : Int → Int} {n : Int}
theorem c_doTransact {i fr st en le : Int} {giv : Bk} {R : Rw} {m : Int} {s : TS} (h : RW M w) (hi : 0 ≤ i ∧ i < 16) (hC : RT M R m giv st en 0 s) (h84 : M 6952 84 = le) (hle : le = max fr (w.gIn i).2.2.1) (h7 : M 6952 7 ≤ 1100000) (hP : PSo s.pay) (hd : 3 ≤ d)
    (hK : ∀ M', (∀ x, x < 6952 ∨ 7080 < x → M' x = M x) → M' 6952 0 = M 6952 0 → RW M' (trW w i fr s) → K (.inl (some (vI 0))) e M') : im_T g d 413 0 [some (.ref 6952), some (vI i)] [] e M K := by
  obtain ⟨c1, ⟨r1, r2, r3, ⟨r4, r5, r6⟩, _, _, _⟩, c3, ⟨c4, _, _⟩, _, ⟨_, _, c9⟩, d1, d2⟩ := id hC
  obtain ⟨_, ⟨_, _, hin⟩, _⟩ := id h
  refine b_doTransact_0 (by omega) (c_rkeepState hi r1 r2 r3 h7 (by omega) (fun M1 G q95 q96 s1 s2 s3 => ⟨rfl, rfl, ?_⟩))
  obtain ⟨ga, gb, gc, gd⟩ := G
  have W1 : RW M1 (w.sIn (upI w.gIn i (trI (w.gIn i) (max fr (w.gIn i).2.2.1) s))) := by
    refine h.ins (M' := M1) (i := i) (fun x a b => ga x (by omega)) (fun k _ => by rw [ga 6952 (by omega)]) (fun k k0 k1 => ?_)
    unfold upI
    obtain ⟨⟨u1, u2, u3⟩, S1, S2, S3, S4, S5⟩ := hin k k0 k1
    have e94 : M1 6994 = M 6994 := ga 6994 (by omega)
    have S4' : SB1 M1 7008 7009 7010 20 k (w.gIn k).2.2.2.2.2.2 := SB1_congr S4 (ga _ (by omega)) (ga _ (by omega)) (ga _ (by omega))
    by_cases hk : k = i
    · rw [if_pos hk, hk]
      rw [hk] at u1 S4' S5
      exact ⟨⟨by rw [e94]; exact u1, by rw [q95]; exact c4, by rw [q96, h84]; exact hle⟩, s1, s2, s3, S4', S5⟩
    · rw [if_neg hk]
      refine ⟨⟨by rw [e94]; exact u1, ?_, ?_⟩, SB2_o S1 hk ?_ ?_ ?_ ?_, SB2_o S2 hk ?_ ?_ ?_ ?_, SB1_o S3 hk ?_ ?_ ?_, S4', S5⟩
      · rw [gb 6995 k (by omega) hk]; exact u2
      · rw [gb 6996 k (by omega) hk]; exact u3
      · exact gb 6997 k (by omega) hk
      · exact fun q hq => gc 6998 q (by omega) hq
      · exact fun q hq => gc 6999 q (by omega) hq
      · exact fun q hq => gd 7000 q (by omega) hq
      · exact gb 7001 k (by omega) hk
      · exact fun q hq => gc 7002 q (by omega) hq
      · exact fun q hq => gc 7003 q (by omega) hq
      · exact fun q hq => gd 7004 q (by omega) hq
      · exact gb 7005 k (by omega) hk
      · exact fun q hq => gc 7006 q (by omega) hq
      · exact fun q hq => gd 7007 q (by omega) hq
  have e0 : M1 6952 = M 6952 := ga 6952 (by omega)
  have w1 : rwl M1 s.wal (M1 6952 7) := by rw [e0]; exact rwl_congr (c9 rfl) (by rw [e0]) (ga _ (by omega)) (ga _ (by omega)) (ga _ (by omega)) (fun j _ => by rw [ga 6955 (by omega)]) (Int.le_refl _)
  refine c_rkeepWallets w1 (by rw [e0]; exact h7) (by omega) (fun M2 ha hb hs => ⟨rfl, rfl, ?_⟩)
  have W2 := W1.wa (fun x a b => ha x a (by omega) (by omega) (by omega)) hb hs
  have e7 : M2 6952 7 = M 6952 7 := by rw [hb 7 (by decide), e0]
  have ef : ∀ k, k ≠ 130 → M2 6952 k = M 6952 k := fun k hk => by rw [hb k hk, e0]
  have ex : ∀ x, x ≠ 6952 → (x < 6995 ∨ 7007 < x) → (x < 7042 ∨ 7044 < x) → M2 x = M x := fun x a b c => by rw [ha x a (by omega) (by omega) (by omega)]; exact ga x b
  refine c_rkeepTold (ρ := s.pay) (π := s.wrn) (by rw [e7]; exact rr5_congr d1 (ef _ (by decide)) (ex _ (by decide) (by decide) (by decide)) (ex _ (by decide) (by decide) (by decide)) (ex _ (by decide) (by decide) (by decide)) (ex _ (by decide) (by decide) (by decide)) (ex _ (by decide) (by decide) (by decide)) (fun j _ => by rw [ex 6955 (by decide) (by decide) (by decide)]) (Int.le_refl _)) hP (by rw [e7]; exact rr5_congr d2 (ef _ (by decide)) (ex _ (by decide) (by decide) (by decide)) (ex _ (by decide) (by decide) (by decide)) (ex _ (by decide) (by decide) (by decide)) (ex _ (by decide) (by decide) (by decide)) (ex _ (by decide) (by decide) (by decide)) (fun j _ => by rw [ex 6955 (by decide) (by decide) (by decide)]) (Int.le_refl _)) (by rw [e7]; exact h7) (by omega) (fun M3 ka kb s5 s6 => ⟨rfl, rfl, ?_⟩)
  have W3 := W2.told (fun x a b => ka x a b) (fun k hk => kb k hk.1 hk.2) s5 s6
  exact hK M3 (fun x hx => by rw [ka x (by omega) (by omega)]; exact ex x (by omega) (by omega) (by omega)) (by rw [kb 0 (by decide) (by decide)]; exact ef 0 (by decide)) W3
/-- takes the tape as the text -/
theorem l_takeTape {M0 : im_M} (ht : rTape M0 t n) (hK : ∀ M', (∀ x, x ≠ 6952 → x ≠ 6959 → M' x = M0 x) → (∀ k, k ≠ 2 → k ≠ 13 → M' 6952 k = M0 6952 k) → M' 6952 2 = 0 → rtx M' t n → K (.inl none) e M') :
    ∀ (j k : Nat) (M : im_M), (k : Int) + j = n → (∀ x, x ≠ 6959 → M x = M0 x) → (∀ i : Int, 0 ≤ i → i < k → M 6959 i = t i) → im_T g d 271 2 [some (.ref 6952), some (vI k)] [] e M K := by
  obtain ⟨h2, ht2, hn⟩ := ht
  intro j
  induction j with
  | zero =>
    intro k M hk hx hc
    refine b_takeTape_2 ?_
    rw [hx 6952 (by decide), h2]
    refine ⟨by constructor <;> omega, fun _ => ?_, fun z => by omega⟩
    refine hK _ (fun x a b => by rw [im_u_ne _ _ _ a, im_u_ne _ _ _ a]; exact hx x b) (fun k a b => by rw [im_rdk _ _ _ a, im_rdk _ _ _ b, hx 6952 (by decide)]) (im_rds _ _ _ _) ⟨by rw [im_rdk _ _ _ (by decide), im_rds], hn.1, hn.2, fun i i0 i1 => ?_⟩
    rw [im_rdn _ _ _ _ (by decide), im_rdn _ _ _ _ (by decide)]
    exact ⟨hc i i0 (by omega), (ht2 i i0 i1).2⟩
  | succ j ih =>
    intro k M hk hx hc
    refine b_takeTape_2 ?_
    rw [hx 6952 (by decide), h2]
    refine ⟨by constructor <;> omega, fun z => by omega, fun _ => ⟨⟨by omega, by omega⟩, ?_⟩⟩
    refine ih (k + 1) _ (by omega) (fun x a => by rw [im_u_ne _ _ _ a]; exact hx x a) (fun i i0 i1 => ?_)
    rw [im_rdx]
    split
    · rw [hx 6953 (by decide)]
      have : i = k := by omega
      rw [← this]; exact (ht2 i i0 (by omega)).1
    · exact hc i i0 (by omega)
theorem c_takeTapeR (ht : rTape M t n) (hK : ∀ M', (∀ x, x ≠ 6952 → x ≠ 6959 → M' x = M x) → (∀ k, k ≠ 2 → k ≠ 13 → M' 6952 k = M 6952 k) → M' 6952 2 = 0 → rtx M' t n → K (.inl none) e M') : im_T g d 271 0 [some (.ref 6952), none] [] e M K := by
  have hn := ht.2.2
  exact b_takeTape_0 (l_takeTape ht hK n.toNat 0 M (by omega) (fun _ _ => rfl) (fun i a b => by omega))
theorem c_may {p a b c : Int} (hp : im_i32 p) (ha : a = 0 ∨ a = 1) (hb : b = 0 ∨ b = 1) (hc : c = 0 ∨ c = 1) (hK : ∀ x, x = (if M 6952 180 ≠ 0 then p else if a = 0 then 1 else if b = 0 then 2 else if c = 0 then 3 else 0) → K (.inl (some (vI (if x = 0 then 1 else 0)))) e (im_u M 6952 0 x)) : im_T g d 264 0 [some (.ref 6952), some (vI p), some (vI a), some (vI b), some (vI c)] [] e M K := by
  refine b_may_0 ⟨fun _ => ⟨by constructor <;> omega, fun _ => ⟨by constructor <;> omega, fun _ => by constructor <;> omega⟩⟩, fun x hx => ?_⟩
  have hx' : x = (if M 6952 180 ≠ 0 then p else if a = 0 then 1 else if b = 0 then 2 else if c = 0 then 3 else 0) := by
    (repeat' split) <;> omega
  refine ⟨by rw [hx']; (repeat' split) <;> (first | exact hp | decide), fun y hy => ?_⟩
  have : y = if x = 0 then 1 else 0 := by split <;> omega
  rw [this]
  exact hK x hx'
end RTRAN2
