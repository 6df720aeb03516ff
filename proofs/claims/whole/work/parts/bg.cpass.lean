/-! THE CLASS passes a contract -/
noncomputable def letL (s : TS) (a x : Int) : Sum Int TS :=
  if hs2 s.lts a 0 then (match warnO s 4 a 0 0 (s.lts.2.2.2 (ps s.lts a 0)) with
    | .inl c => .inl c
    | .inr s2 => .inr (s2.sLts (bset s.lts a 0 x)))
  else if s.lts.1 < 40 then .inr (s.sLts (bins s.lts a 0 x)) else .inl (-9)
theorem letN_L (R : Rw) (s : TS) (n x : Int) : letN R s n x = letL (s.sNd (R 17 n)) (R 4 n) x := rfl
/-- what a pay takes -/
noncomputable def wgt (h x : Int) : Int := if x ≤ 0 then 0 else if x ≤ h then x else h
noncomputable def wgh (s : TS) (a b c x : Int) : Sum Int TS := if x ≤ 0 then warnO s 2 a b c x else if x ≤ hld s.acc a c then .inr s else warnO s 3 a b c x
theorem payN_w (R : Rw) (lk : Int) (s : TS) (n x : Int) : payN R lk s n x = (match wgh (s.sNd (R 17 n)) (R 4 n) (R 5 n) (R 6 n) x with
    | .inl c => .inl c
    | .inr s2 => if 0 < wgt (hld s.acc (R 4 n) (R 6 n)) x then payO lk s2 (R 3 n) (R 4 n) (R 5 n) (R 6 n) (wgt (hld s.acc (R 4 n) (R 6 n)) x) else .inr s2) := by
  unfold payN wgh wgt
  by_cases c1 : x ≤ 0
  · rw [if_pos c1, if_pos c1, if_pos c1]
    cases warnO (s.sNd (R 17 n)) 2 (R 4 n) (R 5 n) (R 6 n) x with
    | inl c => rfl
    | inr s2 => dsimp only; rw [if_neg (by decide)]
  · rw [if_neg c1, if_neg c1, if_neg c1]
    by_cases c2 : x ≤ hld s.acc (R 4 n) (R 6 n)
    · have e : hld (s.sNd (R 17 n)).acc (R 4 n) (R 6 n) = hld s.acc (R 4 n) (R 6 n) := rfl
      rw [if_pos c2, e, if_pos c2, if_pos c2]
      dsimp only
      rw [if_pos (by omega)]
    · have e : hld (s.sNd (R 17 n)).acc (R 4 n) (R 6 n) = hld s.acc (R 4 n) (R 6 n) := rfl
      rw [if_neg c2, e, if_neg c2, if_neg c2]
      rfl
section CPASS
variable {g : im_g} {d : Nat} {e : im_E} {M : im_M} {K : im_K} {R : Rw} {m E : Int} {giv : Bk} {st en lk fl : Int} {s : TS} {bs bp np : Nat}
/-- the first number -/
theorem CT.n0 (hC : CT M e R m E giv st en lk fl s bs bp np) {c0 : Nat} (h : M 932 0 = c0) : im_num e c0 ∧ 1585 ≤ c0 ∧ c0 + 1 < 1793 := by
  obtain ⟨c, h1, h2, h3, h4⟩ := hC.2.2.1.at (e := e) (i := 0) (by decide)
  have h1 : M 932 0 = c := h1
  have : c = c0 := by rw [h] at h1; omega
  subst this
  exact ⟨h2, h3, h4⟩
theorem c_warn {q : Nat} {t a b c v w : Int} (hC : CT M e R m E giv st en lk fl s bs bp np) (hq : im_num e q) (hqo : q + 1 < 1459 ∨ 1585 ≤ q) (hv : cn M q v) (hvw : t ≠ 5 → v = w) (ht : im_i32 t) (ha : im_i64 a) (hb : im_i64 b) (hc : im_i64 c) (hd : 1 ≤ d)
    (hKs : ∀ s', warnO s t a b c w = .inr s' → ∀ M', XT bs M M' → (∀ x, x < 1459 ∨ 1585 ≤ x → M' x = M x) → CT M' e R m E giv st en lk fl s' bs bp np → K (.inl (some (vI 1))) e M')
    (hKe : warnO s t a b c w = .inl (-9) → K (.inl (some (vI 0))) e M) : im_T g d 118 0 [some (.ref 1459), some (vI t), some (vL a), none, some (vL b), none, some (vL c), none, some (.ref q)] [] e M K := by
  unfold warnO at hKs hKe
  refine c_addR (w := w) rw_1459 hC.2.2.2.2.2.2.1 hq (by omega) hv hvw ht ha hb hc hd (fun hk M1 f1 f2 => ?_) (fun hk => ?_)
  · rw [if_pos hk] at hKs
    obtain ⟨C1, X1⟩ := hC.wrn (fun x hx => f1 x (by omega)) f2
    exact hKs _ rfl M1 X1 (fun x hx => f1 x (by omega)) C1
  · rw [if_neg hk] at hKe; exact hKe rfl
theorem c_let {a x : Int} {c0 : Nat} (hC : CT M e R m E giv st en lk fl s bs bp np) (h0 : M 932 0 = c0) (hx : cn M c0 x) (ha : im_i64 a) (hd : 3 ≤ d)
    (hKs : ∀ s', letL s a x = .inr s' → ∀ M', XT bs M M' → CT M' e R m E giv st en lk fl s' bs bp np → K (.inl (some (vI 0))) e M')
    (hKe : ∀ k, letL s a x = .inl k → k ≠ 0 → im_i32 k → ∀ M', XT bs M M' → CX M' e R m E giv st en lk bs bp np → K (.inl (some (vI k))) e M') : im_T g d 140 0 [some (.ref 931), some (vL a), none, none] [] e M K := by
  obtain ⟨hn0, hc0, hc1⟩ := hC.n0 h0
  have hbs3 := hC.1.2.2.1
  obtain ⟨t1, t2, t3, t4, t5⟩ := hC.1.2.1
  have hb4 := hC.1.1.1
  have hlt : cb M (bs + 173) 40 s.lts := hC.1.2.2.2.2.1.2.2.1
  obtain ⟨π, k1, k2, k3⟩ := id hlt
  have hps := ps_ok s.lts a 0
  have hp0 := hps.1
  have hp1 := hps.2.1
  have hk40 : s.lts.1 ≤ 40 := k1.2.1
  unfold letL at hKs hKe
  refine k_Machine_let_0 (by omega) ⟨bs, hb4, t1, c_find t4.1 k1 ha (by decide) hps (fun h => ⟨_, rfl, rfl, by constructor <;> omega, fun z => by omega, fun _ => ⟨bs, hb4, t1, by have := h.1; constructor <;> omega, ?_⟩⟩) (fun h => ⟨_, rfl, rfl, by constructor <;> omega, fun _ => ⟨bs, hb4, t1, c0, h0, hn0, ?_⟩, fun z => by omega⟩)⟩
  · have h' : hs2 s.lts a 0 := h
    rw [if_pos h'] at hKs hKe
    have hlt1 := h.1
    obtain ⟨q1, q2⟩ := k1.2.2.1 (ps s.lts a 0).toNat (by omega)
    have ei : (((ps s.lts a 0).toNat : Nat) : Int) = ps s.lts a 0 := by omega
    rw [ei] at q2
    have hv := k2 (ps s.lts a 0).toNat (by omega)
    rw [ei] at hv
    refine ⟨_, q2, t4.2 _ q1, c_warn hC (t4.2 _ q1) (by omega) hv (fun _ => rfl) (by decide) ha (by decide) (by decide) (by omega) (fun s2 hs2' M1 X1 f1 C1 => ⟨_, rfl, rfl, by decide, fun _ => ?_, fun z => absurd z (by decide)⟩) (fun hw => ⟨_, rfl, rfl, by decide, fun z => absurd rfl z, fun _ => ?_⟩)⟩
    · rw [hs2'] at hKs hKe
      have g0 : M1 932 0 = c0 := by rw [f1 932 (by decide)]; exact h0
      have gx : cn M1 c0 x := cn_congr hx (f1 _ (by omega)) (f1 _ (by omega))
      have hl2 : s2.lts = s.lts := by
        unfold warnO at hs2'
        by_cases c : s.wrn.1 < 60
        · rw [if_pos c] at hs2'; cases hs2'; rfl
        · rw [if_neg c] at hs2'; cases hs2'
      have hlt2 : cb M1 (bs + 173) 40 s.lts := by
        have : cb M1 (bs + 173) 40 s2.lts := C1.1.2.2.2.2.1.2.2.1
        rw [hl2] at this; exact this
      refine ⟨bs, C1.1.1.1, t1, c0, g0, hn0, c_putB t4 hlt2 hn0 (by omega) gx ha (by decide) (by omega) (fun β hβ M2 f3 f4 => ⟨_, rfl, rfl, by decide, fun w hw => ?_⟩) (fun hβ => ⟨_, rfl, rfl, by decide, fun w hw => ?_⟩)⟩
      · unfold bput at hβ
        rw [if_pos h'] at hβ
        injection hβ with hβ
        subst hβ
        have : w = 0 := by omega
        rw [this]
        obtain ⟨C2, X2⟩ := C1.lts (fun y hy => f3 y (by omega)) f4
        exact hKs _ rfl M2 (X1.trans X2) C2
      · unfold bput at hβ
        rw [if_pos h'] at hβ
        cases hβ
    · rw [hw] at hKe
      exact hKe (-9) rfl (by decide) (by decide) M (XT.rf _ _) ⟨_, _, hC⟩
  · have h' : ¬ hs2 s.lts a 0 := h
    rw [if_neg h'] at hKs hKe
    refine c_putB t4 hlt hn0 (by omega) hx ha (by decide) (by omega) (fun β hβ M2 f3 f4 => ⟨_, rfl, rfl, by decide, fun w hw => ?_⟩) (fun hβ => ⟨_, rfl, rfl, by decide, fun w hw => ?_⟩)
    · unfold bput at hβ
      rw [if_neg h'] at hβ
      have : w = 0 := by omega
      rw [this]
      by_cases c : s.lts.1 < 40
      · rw [if_pos c] at hβ hKs
        injection hβ with hβ
        subst hβ
        obtain ⟨C2, X2⟩ := hC.lts (fun y hy => f3 y (by omega)) f4
        exact hKs _ rfl M2 X2 C2
      · rw [if_neg c] at hβ; cases hβ
    · unfold bput at hβ
      rw [if_neg h'] at hβ
      have : w = -9 := by omega
      rw [this]
      by_cases c : s.lts.1 < 40
      · rw [if_pos c] at hβ; cases hβ
      · rw [if_neg c] at hKe
        exact hKe (-9) rfl (by decide) (by decide) M (XT.rf _ _) ⟨_, _, hC⟩
theorem sg_le {x : Int} : (sg x ≤ 0 ↔ x ≤ 0) := by unfold sg; (repeat' split) <;> omega
theorem c_weigh {n x : Int} {c0 : Nat} (hC : CT M e R m E giv st en lk fl s bs bp np) (hm : m ≤ 5000) (n0 : 0 ≤ n) (n1 : n < m) (h0 : M 932 0 = c0) (hx : cn M c0 x) (hd : 3 ≤ d)
    (hKs : ∀ s', wgh s (R 4 n) (R 5 n) (R 6 n) x = .inr s' → ∀ M', XT bs M M' → CT M' e R m E giv st en lk fl s' bs bp np → cn M' 934 (wgt (hld s.acc (R 4 n) (R 6 n)) x) → K (.inl (some (vI 0))) e M')
    (hKe : wgh s (R 4 n) (R 5 n) (R 6 n) x = .inl (-9) → ∀ M', XT bs M M' → CX M' e R m E giv st en lk bs bp np → K (.inl (some (vI (-9)))) e M') : im_T g d 139 0 [some (.ref 931), some (vI n), none, none, none, none, none, none, none, none, none] [] e M K := by
  obtain ⟨hn0, hc0, hc1⟩ := hC.n0 h0
  have hbs3 := hC.1.2.2.1
  obtain ⟨t1, t2, t3, t4, t5⟩ := hC.1.2.1
  refine im_rng (j := n) sf_19 n0 (by show n < 5000; omega) (fun hr19 => im_rng (j := n) sf_20 n0 (by show n < 5000; omega) (fun hr20 => im_rng (j := n) sf_21 n0 (by show n < 5000; omega) (fun hr21 => ?_)))
  have hr19 : im_i64 (M 19 n) := hr19
  have hr20 : im_i64 (M 20 n) := hr20
  have hr21 : im_i64 (M 21 n) := hr21
  obtain ⟨r1, r2, r3, r4, r5, r6, -⟩ := (hC.2.1.2 n n0 n1).1
  rw [r4] at hr19
  rw [r5] at hr20
  rw [r6] at hr21
  unfold wgh at hKs hKe
  refine k_Machine_weighPay_0 (by omega) ?_
  rw [r4, r5, r6]
  refine ⟨by constructor <;> omega, c0, h0, hn0, c_clear nm_934 (fun M1 f1 z1 => ⟨rfl, rfl, ?_⟩)⟩
  obtain ⟨C1, X1⟩ := hC.pd (fun y hy => f1 y (by omega)) ⟨0, z1⟩
  have hx1 : cn M1 c0 x := cn_congr hx (f1 _ (by omega)) (f1 _ (by omega))
  have hsg := cn_sg hx1
  rw [hsg]
  refine ⟨fun hp => ?_, fun hp => ?_⟩
  · have hxp : ¬ x ≤ 0 := fun z => by have := sg_le.mpr z; omega
    rw [if_neg hxp] at hKs hKe
    refine ⟨bs, C1.1.1.1, t1, c_heldB (p := 0) t2 C1.1.2.2.2.2.1.1 hr19 hr21 (by omega) (fun c q1 q2 q3 q4 => ⟨_, rfl, rfl, q1, c_compare q1 hn0 q4 hx1 (by omega) ⟨_, rfl, rfl, by unfold cmpI; (repeat' split) <;> decide, fun w hw => ?_⟩⟩)⟩
    have hc3 : (cmpI (hld s.acc (R 4 n) (R 6 n)) x < 0 ∧ ¬ x ≤ hld s.acc (R 4 n) (R 6 n)) ∨ (0 ≤ cmpI (hld s.acc (R 4 n) (R 6 n)) x ∧ x ≤ hld s.acc (R 4 n) (R 6 n)) := by
      unfold cmpI; (repeat' split) <;> omega
    have hq4 : cn M1 c (hld s.acc (R 4 n) (R 6 n)) := q4
    have hw : (cmpI (hld s.acc (R 4 n) (R 6 n)) x < 0 ∧ w = 0) ∨ (0 ≤ cmpI (hld s.acc (R 4 n) (R 6 n)) x ∧ w = 1) := hw
    refine ⟨fun w0 => ?_, fun w1 => ?_⟩
    · have hlt : ¬ x ≤ hld s.acc (R 4 n) (R 6 n) := by omega
      have hwg : wgt (hld s.acc (R 4 n) (R 6 n)) x = hld s.acc (R 4 n) (R 6 n) := by unfold wgt; rw [if_neg hxp, if_neg hlt]
      rw [if_neg hlt] at hKs hKe
      rw [hwg] at hKs
      refine c_copy nm_934 q1 (by omega) hq4 (fun M2 f2 z2 => ⟨rfl, rfl, fun z => absurd w0 z, fun _ => ?_⟩)
      obtain ⟨C2, X2⟩ := C1.pd (fun y hy => f2 y (by omega) (by omega)) ⟨_, z2⟩
      have hx2 : cn M2 c0 x := cn_congr hx1 (f2 _ (by omega) (by omega)) (f2 _ (by omega) (by omega))
      refine c_warn C2 hn0 (by omega) hx2 (fun _ => rfl) (by decide) hr19 hr20 hr21 (by omega) (fun s2 hs2' M3 X3 f3 C3 => ⟨_, rfl, rfl, by decide, fun z => absurd z (by decide), fun _ => ?_⟩) (fun hw' => ⟨_, rfl, rfl, by decide, fun _ => ?_, fun z => absurd rfl z⟩)
      · exact hKs s2 hs2' M3 ((X1.trans X2).trans X3) C3 (cn_congr z2 (f3 _ (by decide)) (f3 _ (by decide)))
      · exact hKe hw' M2 (X1.trans X2) ⟨_, _, C2⟩
    · have hge : x ≤ hld s.acc (R 4 n) (R 6 n) := by omega
      have hwg : wgt (hld s.acc (R 4 n) (R 6 n)) x = x := by unfold wgt; rw [if_neg hxp, if_pos hge]
      rw [if_pos hge] at hKs hKe
      rw [hwg] at hKs
      refine c_copy nm_934 hn0 (by omega) hx1 (fun M2 f2 z2 => ⟨rfl, rfl, fun _ => ?_, fun z => absurd z w1⟩)
      obtain ⟨C2, X2⟩ := C1.pd (fun y hy => f2 y (by omega) (by omega)) ⟨_, z2⟩
      exact hKs s rfl M2 (X1.trans X2) C2 z2
  · have hxp : x ≤ 0 := sg_le.mp hp
    have hwg : wgt (hld s.acc (R 4 n) (R 6 n)) x = 0 := by unfold wgt; rw [if_pos hxp]
    rw [if_pos hxp] at hKs hKe
    rw [hwg] at hKs
    refine c_warn C1 hn0 (by omega) hx1 (fun _ => rfl) (by decide) hr19 hr20 hr21 (by omega) (fun s2 hs2' M3 X3 f3 C3 => ⟨_, rfl, rfl, by decide, fun w hw => ?_⟩) (fun hw' => ⟨_, rfl, rfl, by decide, fun w hw => ?_⟩)
    · have : w = 0 := by omega
      rw [this]
      exact hKs s2 hs2' M3 (X1.trans X3) C3 (cn_congr z1 (f3 _ (by decide)) (f3 _ (by decide)))
    · have : w = -9 := by omega
      rw [this]
      exact hKe hw' M1 X1 ⟨_, _, C1⟩
end CPASS
