/-- before the sign of a payment stands, nothing is said of it -/
def i100 (S : pS) : Prop := ∀ x ∈ S.1, x.1 = 100 → S.2.1 3 x.2.1 = 0 ∧ x.2.2.2 = 5
theorem shp_100 (k : Int) : ∀ x ∈ shp k, x.1 = 100 → k = 1 ∧ x.2.2 = 5 := by
  refine shp_ind (P := fun k l => ∀ x ∈ l, x.1 = 100 → k = 1 ∧ x.2.2 = 5) k (fun hk => ?_) (fun _ => ?_) (fun _ => ?_) (fun _ => ?_) (fun _ => ?_) (fun _ => ?_) (fun _ => ?_) (fun _ => ?_) (fun _ => ?_) (fun _ => ?_) (fun _ => ?_) (fun _ => ?_) (fun _ => ?_) (fun _ => ?_) (fun _ => ?_) (fun _ x hx => by cases hx)
  · intro x hx h
    simp only [List.mem_cons, List.not_mem_nil, or_false] at hx
    rcases hx with rfl | rfl | rfl | rfl | rfl | rfl <;> first | exact absurd h (by decide) | exact ⟨hk, rfl⟩
  all_goals (intro x hx h; exfalso; simp only [List.mem_cons, List.not_mem_nil, or_false] at hx; revert h; (repeat' (rcases hx with rfl | hx)) <;> first | (subst hx; decide) | decide)
theorem caseR_3 {R : Rw} {m ow : Int} {i : Int} (hi : i ≠ m) (ho : i ≠ ow) : caseR R m ow 3 i = R 3 i := by
  show im_u (if R 3 ow = 0 then im_u (newN (im_u R 3 ow (R 3 ow + 1)) m 31 ow) 16 ow m else im_u (newN (im_u R 3 ow (R 3 ow + 1)) m 31 ow) 19 (R 18 ow) m) 18 ow m 3 i = _
  rw [im_rdn _ _ _ _ (by decide)]
  split
  · rw [im_rdn _ _ _ _ (by decide), newN_ne 3 hi]; exact im_rdk _ _ _ ho
  · rw [im_rdn _ _ _ _ (by decide), newN_ne 3 hi]; exact im_rdk _ _ _ ho
theorem i100_stp {lo ty nm v : Int} {x : en} {r : List en} {R : Rw} {m lw : Int} {S' : pS} (h : stp lo ty nm v (x :: r, R, m, lw) = .inr S') (hw : wfS lo (x :: r, R, m, lw)) (hi : i100 (x :: r, R, m, lw)) : i100 S' := by
  have hr : ∀ y ∈ r, y.1 = 100 → R 3 y.2.1 = 0 ∧ y.2.2.2 = 5 := fun y hy => hi y (List.mem_cons_of_mem _ hy)
  have hlo : 0 ≤ lo := hw.1
  have hlm : lo ≤ m := hw.2.1
  have hown : ∀ y ∈ (x :: r), y.1 ≠ 41 → y.1 ≠ 99 → lo ≤ y.2.1 ∧ y.2.1 < m ∧ sgk R y := fun y hy h41 h99 => by
    obtain ⟨_, _, z⟩ := hw.2.2.2.2.2.1 y hy h41
    rcases z with z | z
    · exact absurd z.1 h99
    · exact z
  have hsame : ∀ (R' : Rw) (lw' : Int), (∀ i, R' 3 i = R 3 i) → i100 (r, R', m, lw') := fun R' lw' hs y hy hy1 => ⟨(hs _).trans (hr y hy hy1).1, (hr y hy hy1).2⟩
  refine stp_ind h (fun hx hty e => ?_) (fun hx _ hb _ e => ?_) (fun hx _ e => ?_) (fun hx _ _ _ e => ?_) (fun hx hb e => ?_) (fun hx _ e => ?_) (fun hx _ _ e => ?_) (fun hx _ _ e => ?_) (fun hx _ _ e => ?_) (fun hx _ _ e => ?_) (fun hx _ e => ?_) (fun hx _ e => ?_) (fun hx _ e => ?_) (fun hx _ _ _ _ _ _ _ _ _ _ _ e => ?_) <;> subst e
  · intro y hy hy1
    rcases List.mem_cons.mp hy with z | hy
    · rw [z] at hy1; omega
    · rcases List.mem_cons.mp hy with z | hy
      · rw [z] at hy1; exact absurd hy1 (by decide)
      · exact hr y hy hy1
  · intro y hy hy1
    have hxo : x.2.1 = -1 ∨ (lo ≤ x.2.1 ∧ x.2.1 < m ∧ (1 ≤ x.2.2.1 ∧ x.2.2.1 ≤ 3)) := by
      obtain ⟨_, _, z⟩ := hw.2.2.2.2.2.1 x List.mem_cons_self (by omega)
      rcases z with z | z
      · exact Or.inl z.2
      · exact Or.inr ⟨z.1, z.2.1, z.2.2.2.2.2.2.2.2.2.2.1 hx⟩
    have hs : x.2.1 = -1 ∨ (1 ≤ x.2.2.1 ∧ x.2.2.1 ≤ 3) := by omega
    rcases List.mem_append.mp hy with hy | hy
    · obtain ⟨z, hz, rfl⟩ := List.mem_map.mp hy
      refine ⟨?_, (shp_100 ty z hz hy1).2⟩
      show nodR R m ty nm v x.2.1 x.2.2.1 3 m = 0
      rw [nodR_m 3 (by omega) (by decide) hs, newN_3]
    · refine ⟨?_, (hr y hy hy1).2⟩
      have := hown y (List.mem_cons_of_mem _ hy) (by omega) (by omega)
      show nodR R m ty nm v x.2.1 x.2.2.1 3 y.2.1 = 0
      rw [nodR_ne 3 _ (by omega) (by omega) hs]
      exact (hr y hy hy1).1
  · exact hsame _ _ (fun _ => rfl)
  · intro y hy hy1
    have hxo := hown x List.mem_cons_self (by omega) (by omega)
    rcases List.mem_cons.mp hy with z | hy
    · rw [z] at hy1; exact absurd (show (97 : Int) = 100 from hy1) (by decide)
    · rcases List.mem_cons.mp hy with z | hy
      · rw [z] at hy1; omega
      · refine ⟨?_, (hr y hy hy1).2⟩
        have hyo := hown y (List.mem_cons_of_mem _ hy) (by omega) (by omega)
        have k1 := hyo.2.2.2.2.2.2.2.1 hy1
        have k3 := hxo.2.2.1 hx
        show caseR R m x.2.1 3 y.2.1 = 0
        rw [caseR_3 (by omega) (fun z => by rw [z] at k1; omega)]
        exact (hr y hy hy1).1
  · intro y hy hy1
    rcases List.mem_append.mp hy with hy | hy
    · obtain ⟨z, hz, rfl⟩ := List.mem_map.mp hy
      have := (shp_100 ty z hz hy1).1
      omega
    · refine ⟨?_, (hr y hy hy1).2⟩
      show im_u R 0 x.2.1 ty 3 y.2.1 = 0
      rw [im_rdn _ _ _ _ (by decide)]
      exact (hr y hy hy1).1
  · exact hsame _ _ (fun _ => im_rdn _ _ _ _ (by decide))
  · exact hsame _ _ (fun _ => im_rdn _ _ _ _ (by decide))
  · exact hsame _ _ (fun _ => rfl)
  · intro y hy hy1
    rcases List.mem_cons.mp hy with z | hy
    · rw [z] at hy1; exact absurd (show (104 : Int) = 100 from hy1) (by decide)
    · refine ⟨?_, (hi y hy hy1).2⟩
      show im_u R (8 + (R 6 x.2.1).toNat) x.2.1 v 3 y.2.1 = 0
      rw [im_rdn _ _ _ _ (by omega)]
      exact (hi y hy hy1).1
  · exact hsame _ _ (fun _ => by rw [im_rdn _ _ _ _ (by decide), im_rdn _ _ _ _ (by omega)])
  · exact hsame _ _ (fun _ => rfl)
  · intro y hy hy1
    refine ⟨?_, (hr y hy hy1).2⟩
    have hxo := hown x List.mem_cons_self (by omega) (by omega)
    have hyo := hown y (List.mem_cons_of_mem _ hy) (by omega) (by omega)
    have hne : y.2.1 ≠ x.2.1 := fun z => by
      obtain ⟨c, _, hc⟩ := hw.2.2.2.2.1
      rcases hc with ⟨h1, _⟩ | ⟨_, _, _, _, h5⟩
      · omega
      · have hlt := chn_lt r h5 y hy (by omega)
        unfold phi at hlt
        rw [z, (hr y hy hy1).2, (hi x List.mem_cons_self hx).2] at hlt
        omega
    show im_u R 3 x.2.1 _ 3 y.2.1 = 0
    rw [im_rdk _ _ _ hne]
    exact (hr y hy hy1).1
  · exact hsame _ _ (fun _ => rfl)
  · exact hsame _ _ (fun _ => im_rdn _ _ _ _ (by (repeat' split) <;> decide))
/-- keywords by their numbers -/
theorem kwv_iff {ty c nm : Int} (h0 : 0 ≤ ty) (h1 : ty ≤ 33) (hn : nm = kwv ty) (c0 : 0 ≤ c) (c1 : c ≤ 33) : nm = kwv c ↔ ty = c := by
  subst hn
  constructor
  · intro h
    exact kwr_uniq (v := kwv c) (Or.inr ⟨h0, by omega, h⟩) (Or.inr ⟨c0, by omega, rfl⟩)
  · intro h; rw [h]
theorem tkn_kw {t : Int → Int} {n a p q ty nm v : Int} (h : tkn t n a p q ty nm v) (h0 : 0 ≤ ty) (h1 : ty ≤ 33) : nm = kwv ty := by
  obtain ⟨_, _, _, hor⟩ := h
  rcases hor with ⟨_, _, z⟩ | ⟨q1, q2, hor⟩
  · omega
  · rcases hor with ⟨b1, b2, b3⟩ | ⟨b1, b2, b3, b4, b5, b6⟩
    · exfalso; rw [b3] at h1; revert h1; (repeat' split) <;> decide
    · rcases b6 with ⟨_, z, _, hh⟩ | ⟨_, _, hh⟩ | ⟨_, _, _, r, hr, hh⟩
      · omega
      · omega
      · rcases hr with ⟨u1, _⟩ | ⟨u1, u2, u3⟩
        · omega
        · have : ty = r := by omega
          rw [this]; exact u3.symm
theorem tkn_nm {t : Int → Int} {n a p q ty nm v : Int} (h : tkn t n a p q ty nm v) (h1 : ty = 35 ∨ ty = 36) : 97 ≤ nm ∧ nm ≤ 9223372036854775807 := by
  obtain ⟨_, _, _, hor⟩ := h
  rcases hor with ⟨_, _, z⟩ | ⟨q1, q2, hor⟩
  · omega
  · rcases hor with ⟨b1, b2, b3⟩ | ⟨b1, b2, b3, b4, b5, b6⟩
    · exfalso; rw [b3] at h1; revert h1; (repeat' split) <;> decide
    · rcases b6 with ⟨_, z, _, hh⟩ | ⟨_, _, hh⟩ | ⟨_, hn, hp, _⟩
      · omega
      · omega
      · rw [hp]; exact pak_63 hn
theorem tkn_w {t : Int → Int} {n a p q ty nm v : Int} (h : tkn t n a p q ty nm v) (h34 : ty = 34) : wrd t p q 34 nm v := by
  obtain ⟨_, _, _, hor⟩ := h
  rcases hor with ⟨_, _, z⟩ | ⟨q1, q2, hor⟩
  · omega
  · rcases hor with ⟨b1, b2, b3⟩ | ⟨b1, b2, b3, b4, b5, b6⟩
    · exfalso; rw [b3] at h34; revert h34; (repeat' split) <;> decide
    · rw [h34] at b6; exact b6
def KFR (e : im_E) (K : im_K) (M0 : im_M) (lo kp pk p ty nm v : Int) (S : pS) : Prop := ∀ c, stq lo ty nm v S = .inl c → ∀ M', XR lo kp pk M0 M' → M' 6952 19 = c → M' 6952 20 = p → K (.inl none) e M'
def KSR (e : im_E) (K : im_K) (M0 : im_M) (lo kp pk q ty nm v : Int) (S : pS) : Prop := ∀ S', stq lo ty nm v S = .inr S' → ∀ M', RI M0 M' lo kp pk q S' → M' 6952 19 = 0 → M' 6952 14 = q → K (.inl none) e M'
theorem ftk_4 {ty : Int} (h1 : 0 ≤ ty) (h2 : ty ≠ 41) : ftk ty = 4 := by
  unfold ftk
  rw [if_neg (by omega), if_neg (by omega), if_neg h2]
theorem stq_ft {lo ty nm v : Int} {S : pS} (h1 : -2 ≤ ty) (h2 : ty ≤ 41) (h : 0 ≤ ty → ty ≠ 41 → stp lo ty nm v S = .inl 4) : stq lo ty nm v S = .inl (ftk ty) := by
  by_cases c1 : ty < 0
  · have : ty = -1 ∨ ty = -2 := by omega
    rcases this with z | z <;> (subst z; rfl)
  · by_cases c3 : ty = 41
    · subst c3; rfl
    · rw [ftk_4 (by omega) c3, ← h (by omega) c3]
      unfold stq
      rw [if_neg c1, if_neg c3]
theorem stq_ok {lo ty nm v : Int} {S : pS} (h1 : 0 ≤ ty) (h2 : ty ≠ 41) : stq lo ty nm v S = stp lo ty nm v S := by
  unfold stq
  rw [if_neg (by omega), if_neg h2]
/-- the top goes, and a row changes at ow -/
theorem RJ_pop {M0 M M' : im_M} {lo kp pk a q m lw : Int} {x : en} {r L : List en} {R R' : Rw} (ow : Int) (h : RJ M0 M lo kp pk a (x :: r, R, m, lw) L) (hs : hst (x :: r)) (hxn : x.1 ≠ 104) (ha : a ≤ q) (hL : L = rst R' false r)
    (m1 : ∀ y, y ≠ 6952 → (y < 6960 ∨ 6972 < y) → M' y = M y) (m2 : ∀ (y : Nat) (i : Int), i ≠ ow → y ≠ 6952 → M' y i = M y i) (m3 : ∀ k, k ≠ 14 → M' 6952 k = M 6952 k) (hlo : lo ≤ ow ∨ ∀ y, y ≠ 6952 → M' y = M y) (hR : ∀ i, i ≠ ow → ∀ f, R' f i = R f i) (h116 : ∀ i, i ≠ ow → x.1 = 116 → x.2.1 ≠ i) (hrow : lo ≤ ow → ow < m → rowR M R kp (M 6952 7) pk (M 6952 37) (x :: r) ow → rowR M' R' kp (M 6952 7) pk (M 6952 37) r ow) (h98 : ∀ y ∈ r, y.1 = 98 → M' 6971 y.2.1 = M 6971 y.2.1 ∧ R' 6 y.2.1 = R 6 y.2.1) : RI M0 M' lo kp pk q (r, R', m, lw) := by
  obtain ⟨a1, a2, a3, a4, a5, a6, a7, a8, a9, a10⟩ := h
  have e7 : M' 6952 7 = M 6952 7 := m3 7 (by decide)
  have e37 : M' 6952 37 = M 6952 37 := m3 37 (by decide)
  have hno : ∀ y ∈ r, y.1 ≠ 104 := hs.2
  have h0 : h104 r = 0 := by
    cases r with
    | nil => rfl
    | cons y r => exact if_neg (hno y List.mem_cons_self)
  have h01 : h104 (x :: r) = 0 := if_neg hxn
  have hnq : nq (x :: r) = nq r + if x.1 = 41 then 1 else 0 := rfl
  dsimp only at a2 a4 a6 a7 a8 a9
  have hXR : XR lo kp pk M M' := by
    refine ⟨fun y b c d => m1 y b (by omega), fun k b c _ _ _ _ => m3 k (by omega), fun i _ => by rw [m1 6955 (by decide) (by decide)], fun y i b c d => ?_, fun y i b _ => by rw [m1 y (by omega) (by omega)]⟩
    rcases hlo with hlo | hlo
    · exact m2 y i (by omega) (by omega)
    · rw [hlo y (by omega)]
  refine ⟨a1.tr hXR (m3 20 (by decide)), (m3 39 (by decide)).trans a2, by rw [e7]; omega, ?_, ⟨?_, ?_⟩, ?_, fun z => (m3 40 (by decide)).trans (a7 z), fun i i0 i1 => ?_, fun y hy hy98 => ?_, fun y r' he h104 => ?_⟩
  · dsimp only; rw [e37, h0]; omega
  · show M' 6952 45 = ((rst R' false r).length : Int)
    rw [m3 45 (by decide), ← hL]; exact a5.1
  · show stkR M' (rst R' false r)
    rw [← hL]
    exact stkR_congr L a5.2 (fun y i b c _ _ => by rw [m1 y (by omega) (by omega)])
  · dsimp only; rw [hnq] at a6; split at a6 <;> omega
  · dsimp only
    rw [e7, e37]
    by_cases hi : i = ow
    · subst hi; exact hrow i0 i1 (a8 i i0 i1)
    · refine rowR_congr (a8 i i0 i1) (fun y b c => m2 y i hi (by omega)) (fun j _ => by rw [m1 6955 (by decide) (by decide)]) (fun y j b _ => by rw [m1 y (by omega) (by omega)]) (fun f => hR i hi f) (Int.le_refl _) (Int.le_refl _) (fun _ _ z y hy h => ?_)
      rcases List.mem_cons.mp hy with w | w
      · rw [w] at h ⊢; exact h116 i hi h
      · exact z y w h
  · dsimp only
    rw [e37, (h98 y hy hy98).1, (h98 y hy hy98).2]
    exact a9 y (List.mem_cons_of_mem _ hy) hy98
  · dsimp only at he
    exact absurd h104 (hno y (by rw [he]; exact List.mem_cons_self))
section RPAR3
variable {g : im_g} {d : Nat} {e : im_E} {M M0 : im_M} {K : im_K} {lo kp pk a p q ty nm v m lw : Int} {x : en} {r L : List en} {R : Rw}
theorem c_ft (h : RJ M0 M lo kp pk a (x :: r, R, m, lw) L) (ht : TK M p q ty nm) (h1 : -2 ≤ ty) (h2 : ty ≤ 41) (hs : 0 ≤ ty → ty ≠ 41 → stp lo ty nm v (x :: r, R, m, lw) = .inl 4) (hd : 1 ≤ d) (hKf : KFR e K M0 lo kp pk p ty nm v (x :: r, R, m, lw)) : im_T g d 285 0 [some (.ref 6952)] [] e M (im_r0 (fun e_ M1 => e = e_ ∧ K (.inl none) e M1)) :=
  c_failTok ht hd (fun M' b1 b2 b3 b4 => ⟨rfl, rfl, hKf _ (stq_ft h1 h2 hs) M' (h.1.trans (XR.fl b1 (fun k _ c _ _ _ _ => b2 k (by omega) (by omega)))) b3 b4⟩)
theorem c_fl {c : Int} (h : RJ M0 M lo kp pk a (x :: r, R, m, lw) L) (ht : TK M p q ty nm) (hc : im_i32 c) (hs : stq lo ty nm v (x :: r, R, m, lw) = .inl c) (hKf : KFR e K M0 lo kp pk p ty nm v (x :: r, R, m, lw)) : im_T g d 286 0 [some (.ref 6952), some (vI c)] [] e M (im_r0 (fun e_ M1 => e = e_ ∧ K (.inl none) e M1)) :=
  c_failR ht.2.2.2.2.2 ht.2.2.1 hc (fun M' b1 b2 b3 b4 => ⟨rfl, rfl, hKf _ hs M' (h.1.trans (XR.fl b1 (fun k _ c _ _ _ _ => b2 k (by omega) (by omega)))) b3 b4⟩)
theorem stp_s1 (h : x.1 = 41) : stp lo ty nm v (x :: r, R, m, lw) = if ty = 38 then .inr (r, R, m, lw) else .inl 4 := by
  show (if _ then _ else _) = _
  rw [if_neg (by omega), if_neg (by omega), if_neg (by omega), if_neg (by omega), if_neg (by omega), if_neg (by omega), if_pos h]
theorem stp_s2 (h : x.1 = 100) : stp lo ty nm v (x :: r, R, m, lw) = if ty = 32 ∨ ty = 33 then .inr (r, im_u R 3 x.2.1 (if ty = 33 then 1 else 0), m, lw) else .inl 4 := by
  show (if _ then _ else _) = _
  rw [if_neg (by omega), if_neg (by omega), if_neg (by omega), if_neg (by omega), if_neg (by omega), if_neg (by omega), if_neg (by omega), if_pos h]
theorem stp_s3 (h : x.1 = 91) : stp lo ty nm v (x :: r, R, m, lw) = if ty = 39 then .inr (r, R, m, lw) else .inl 4 := by
  show (if _ then _ else _) = _
  rw [if_neg (by omega), if_neg (by omega), if_neg (by omega), if_neg (by omega), if_neg (by omega), if_neg (by omega), if_neg (by omega), if_neg (by omega), if_pos h]
theorem stp_s4 (h : x.1 = 49 ∨ x.1 = 50 ∨ x.1 = 51) : stp lo ty nm v (x :: r, R, m, lw) = if ty = 36 then .inr (r, im_u R (if x.1 = 49 then 4 else if x.1 = 50 then 5 else 6) x.2.1 nm, m, lw) else .inl 4 := by
  show (if _ then _ else _) = _
  rw [if_neg (by omega), if_neg (by omega), if_neg (by omega), if_neg (by omega), if_neg (by omega), if_neg (by omega), if_neg (by omega), if_neg (by omega), if_neg (by omega)]
theorem stp_s5 (h : x.1 = 116) : stp lo ty nm v (x :: r, R, m, lw) = if ty = 35 then .inr (r, im_u R 5 x.2.1 nm, m, lw) else if ty ≠ 34 then .inl 4 else if asT v = -1 then .inl 5 else .inr (r, im_u R 4 x.2.1 (asT v), m, lw) := by
  show (if _ then _ else _) = _
  rw [if_neg (by omega), if_neg (by omega), if_neg (by omega), if_pos h]
/-- the top goes, nothing else -/
theorem RJ_pop0 (h : RJ M0 M lo kp pk a (x :: r, R, m, lw) L) (hs : hst (x :: r)) (hxn : x.1 ≠ 104) (hx116 : x.1 ≠ 116) (ha : a ≤ q) (hL : L = rst R false r) : RI M0 (im_u M 6952 14 q) lo kp pk q (r, R, m, lw) :=
  RJ_pop (-5) h hs hxn ha hL (fun y b _ => im_u_ne _ _ _ b) (fun y i _ b => im_rdn _ _ _ _ b) (fun k b => im_rdk _ _ _ b) (Or.inr (fun y b => im_u_ne _ _ _ b)) (fun _ _ _ => rfl) (fun _ _ z => absurd z hx116) (fun _ _ hr => rowR_congr hr (fun y b c => im_rdn _ _ _ _ (by omega)) (fun j _ => im_rdn _ _ _ _ (by decide)) (fun y j b _ => im_rdn _ _ _ _ (by omega)) (fun _ => rfl) (Int.le_refl _) (Int.le_refl _) (fun _ _ z y hy w => by
    rcases List.mem_cons.mp hy with u | u
    · rw [u] at w; exact absurd w hx116
    · exact z y u w)) (fun y _ _ => ⟨im_rdn _ _ _ _ (by decide), rfl⟩)
theorem c_use (h17 : M 6952 17 = q) (hK : K (.inl none) e (im_u M 6952 14 q)) : im_T g d 282 0 [some (.ref 6952)] [] e M K := b_use_0 (by rw [h17]; exact hK)
theorem c_readSign {w n : Int} (h : RJ M0 M lo kp pk a (x :: r, R, m, lw) L) (ht : TK M p q ty nm) (h1 : -2 ≤ ty) (h2 : ty ≤ 41) (hkw : 0 ≤ ty → ty ≤ 33 → nm = kwv ty) (hw : wfS lo (x :: r, R, m, lw)) (hi3 : i100 (x :: r, R, m, lw)) (ha : a ≤ q)
    (hx : (x.1 = 41 ∧ w = 5) ∨ (x.1 = 100 ∧ w = 6 ∧ n = x.2.1) ∨ (x.1 = 91 ∧ (w = 7 ∨ w = 11))) (hL : L = rst R false r) (hd : 3 ≤ d) (hKf : KFR e K M0 lo kp pk p ty nm v (x :: r, R, m, lw)) (hKs : KSR e K M0 lo kp pk q ty nm v (x :: r, R, m, lw)) : im_T g d 305 0 [some (.ref 6952), some (vI w), some (vI n), none, none] [] e M K := by
  obtain ⟨t14, t15, t16, t17, t18, t19⟩ := id ht
  have r8 : rk ty = 6 ↔ ty = 38 := (rk_vals ty).2.2.2.2.2.2.2.1
  have r9 : rk ty = 7 ↔ ty = 39 := (rk_vals ty).2.2.2.2.2.2.2.2.1
  have rr2 := rk_2 h1 h2
  have hst' : hst (x :: r) := hw.2.2.2.2.2.2.2
  have e17 : M 6952 17 = q := t17
  have hto : rk ty = 2 → (M 6952 18 = 29807 ↔ ty = 32) ∧ (M 6952 18 = 1768846447 ↔ ty = 33) := fun z => by
    have z' := rr2.mp z
    rw [t18 (Or.inl z')]
    exact ⟨kwv_iff (c := 32) z'.1 z'.2 (hkw z'.1 z'.2) (by decide) (by decide), kwv_iff (c := 33) z'.1 z'.2 (hkw z'.1 z'.2) (by decide) (by decide)⟩
  have hwi : im_i32 w := by constructor <;> omega
  have hfail : ¬ ((w = 5 ∧ ty = 38) ∨ (w = 6 ∧ (ty = 32 ∨ ty = 33)) ∨ (w ≠ 5 ∧ w ≠ 6 ∧ ty = 39)) → im_T g (d - 1) 285 0 [some (.ref 6952)] [] e M (im_r0 (fun e_ M1 => e = e_ ∧ K (.inl none) e M1)) := fun hn => by
    refine c_ft h ht h1 h2 (fun _ _ => ?_) (by omega) hKf
    rcases hx with ⟨hx, hw'⟩ | ⟨hx, hw', _⟩ | ⟨hx, hw'⟩
    · rw [stp_s1 hx, if_neg (by omega)]
    · rw [stp_s2 hx, if_neg (by omega)]
    · rw [stp_s3 hx, if_neg (by omega)]
  have h100 : ∀ M' : im_M, x.1 = 100 → w = 6 → (ty = 32 ∨ ty = 33) → (∀ y, y ≠ 6952 → y ≠ 6960 → M' y = M y) → (∀ i, i ≠ x.2.1 → M' 6960 i = M 6960 i) → (∀ k, k ≠ 14 → M' 6952 k = M 6952 k) → M' 6952 14 = q → (lo ≤ x.2.1 → M 6960 x.2.1 = 2 → M' 6960 x.2.1 = 2 + if ty = 33 then 1 else 0) → K (.inl none) e M' := fun M' hx hw6 hty g1 g2 g3 g14 g4 => by
    have hent := hw.2.2.2.2.2.1 x List.mem_cons_self (by omega)
    obtain ⟨_, _, ho⟩ := hent
    dsimp only at ho
    have ho : lo ≤ x.2.1 ∧ x.2.1 < m ∧ sgk R x := by
      rcases ho with z | z
      · omega
      · exact z
    have hk1 : R 0 x.2.1 = 1 := ho.2.2.2.2.2.2.2.1 hx
    have h30 : R 3 x.2.1 = 0 := (hi3 x List.mem_cons_self hx).1
    have hoth : ∀ y ∈ r, y.1 ≠ 41 → y.2.1 ≠ -1 → y.1 = 107 → y.2.1 ≠ x.2.1 := fun y hy h41 hm1 h107 he => by
      obtain ⟨_, _, z⟩ := hw.2.2.2.2.2.1 y (List.mem_cons_of_mem _ hy) h41
      rcases z with z | z
      · omega
      · have := z.2.2.1 h107; dsimp only at this; rw [he] at this; omega
    have hent1 : ∀ y ∈ r, y.2.1 = -1 → y.1 = 41 ∨ y.1 = 99 := fun y hy hm1 => by
      by_cases h41 : y.1 = 41
      · exact Or.inl h41
      · obtain ⟨_, _, z⟩ := hw.2.2.2.2.2.1 y (List.mem_cons_of_mem _ hy) h41
        rcases z with z | z
        · exact Or.inr z.1
        · have := hw.1; have := z.1; omega
    refine hKs _ (by rw [stq_ok (by omega) (by omega), stp_s2 hx, if_pos hty]) M' (RJ_pop x.2.1 h hst' (by omega) ha ?_ (fun y b c => g1 y b (by omega)) (fun y i b c => ?_) g3 (Or.inl ho.1) (fun i hi f => ?_) (fun _ _ z => by omega) (fun _ _ hr => ?_) (fun y _ h98 => ⟨by rw [g1 6971 (by decide) (by decide)], im_rdn _ _ _ _ (by decide)⟩)) ((g3 19 (by decide)).trans t19) g14
    · rw [hL]
      exact (rst_congr r false (fun y hy => ⟨fun h41 hm1 => ⟨im_rdn _ _ _ _ (by decide), fun h107 => im_rdk _ _ _ (hoth y hy h41 hm1 h107), fun _ => im_rdn _ _ _ _ (by decide)⟩, hent1 y hy⟩)).symm
    · by_cases hy : y = 6960
      · subst hy; exact g2 i b
      · rw [g1 y c hy]
    · by_cases hf : f = 3
      · subst hf; exact im_rdk _ _ _ hi
      · exact im_rdn _ _ _ _ hf
    · obtain ⟨b1, b2, b3, b4, b5, b6, b7⟩ := hr
      have hR : ∀ f : Nat, f ≠ 3 → im_u R 3 x.2.1 (if ty = 33 then 1 else 0) f x.2.1 = R f x.2.1 := fun f hf => im_rdn _ _ _ _ hf
      have hM : ∀ y, y ≠ 6952 → y ≠ 6960 → M' y = M y := g1
      rw [hk1, h30] at b1
      unfold rowR
      rw [hR 0 (by decide), hR 4 (by decide), hR 5 (by decide), hR 6 (by decide), hR 16 (by decide), hR 17 (by decide), hR 18 (by decide), hR 19 (by decide), hR 7 (by decide), hM 6961 (by decide) (by decide), hM 6962 (by decide) (by decide), hM 6963 (by decide) (by decide), hM 6964 (by decide) (by decide), hM 6965 (by decide) (by decide), hM 6966 (by decide) (by decide), hM 6967 (by decide) (by decide), hM 6972 (by decide) (by decide), im_rds]
      refine ⟨?_, b2, b3, b4, fun z => by omega, fun z => by omega, fun z => by omega⟩
      rw [g4 ho.1 b1, hk1]
      rfl
  have hpl : ((w = 5 ∧ ty = 38) ∨ (w = 6 ∧ ty = 32) ∨ (w ≠ 5 ∧ w ≠ 6 ∧ ty = 39)) → im_T g (d - 1) 282 0 [some (.ref 6952)] [] e M (im_r0 (fun e_ M1 => e = e_ ∧ K (.inl none) e M1)) := fun hn => by
    refine c_use e17 ⟨rfl, rfl, ?_⟩
    rcases hx with ⟨hx, hw'⟩ | ⟨hx, hw', hno⟩ | ⟨hx, hw'⟩
    · exact hKs _ (by rw [stq_ok (by omega) (by omega), stp_s1 hx, if_pos (by omega)]) _ (RJ_pop0 h hst' (by omega) (by omega) ha hL) (by rw [im_rdk _ _ _ (by decide)]; exact t19) (im_rds _ _ _ _)
    · refine h100 _ hx hw' (by omega) (fun y b _ => im_u_ne _ _ _ b) (fun i _ => im_rdn _ _ _ _ (by decide)) (fun k b => im_rdk _ _ _ b) (im_rds _ _ _ _) (fun _ z => ?_)
      rw [im_rdn _ _ _ _ (by decide), z, if_neg (by omega)]; rfl
    · exact hKs _ (by rw [stq_ok (by omega) (by omega), stp_s3 hx, if_pos (by omega)]) _ (RJ_pop0 h hst' (by omega) (by omega) ha hL) (by rw [im_rdk _ _ _ (by decide)]; exact t19) (im_rds _ _ _ _)
  have hin : w = 6 → ty = 33 → (0 ≤ n ∧ n < 5100) ∧ im_T g (d - 1) 282 0 [some (.ref 6952)] [] e (im_u M 6960 n 3) (im_r0 (fun e_ M1 => e = e_ ∧ K (.inl none) e M1)) := fun w6 ty33 => by
    rcases hx with ⟨hx, hw'⟩ | ⟨hx, hw', hno⟩ | ⟨hx, hw'⟩
    · omega
    · have hent := hw.2.2.2.2.2.1 x List.mem_cons_self (by omega)
      obtain ⟨_, _, ho⟩ := hent
      dsimp only at ho
      have hm5 : m ≤ 5000 := hw.2.2.2.1
      have h0 := hw.1
      subst hno
      refine ⟨by rcases ho with z | z <;> omega, c_use (q := q) ((im_rdn _ _ _ _ (by decide)).trans e17) ⟨rfl, rfl, ?_⟩⟩
      refine h100 _ hx hw' (by omega) (fun y b c => by rw [im_u_ne _ _ _ b, im_u_ne _ _ _ c]) (fun i b => by rw [im_rdn _ _ _ _ (by decide), im_rdk _ _ _ b]) (fun k b => by rw [im_rdk _ _ _ b, im_rdn _ _ _ _ (by decide)]) (im_rds _ _ _ _) (fun _ z => ?_)
      rw [im_rdn _ _ _ _ (by decide), im_rds, if_pos ty33]; rfl
    · omega
  refine b_readSign_0 (by omega) ?_
  rw [t15]
  refine ⟨fun hh => ⟨hwi, fun y hy => ?_⟩, fun hh => ⟨hwi, fun y hy => ?_⟩⟩
  · have h22 : rk ty = 2 := by omega
    have ht2 := hto h22
    have hcc : ty = 32 ∨ ty = 33 := by omega
    refine ⟨⟨fun hy0 w6 hin18 => hin w6 (ht2.2.mp hin18), fun hy0 => hfail (by omega)⟩, fun hh2 => hpl ?_⟩
    rcases hh2 with ⟨u1, u2⟩ | ⟨u1, u2, u3⟩
    · omega
    · have : ty ≠ 33 := fun z => u3 (ht2.2.mpr z)
      omega
  · have hnc : ¬ (ty = 32 ∨ ty = 33) := fun z => by
      have h22 : rk ty = 2 := rr2.mpr (by omega)
      have ht2 := hto h22
      rcases hh with u | ⟨_, u2, u3⟩
      · exact u h22
      · rcases z with z | z
        · exact u2 (ht2.1.mpr z)
        · exact u3 (ht2.2.mpr z)
    refine ⟨⟨fun hy0 w6 _ => by omega, fun hy0 => hfail (by omega)⟩, fun hh2 => hpl (by omega)⟩
end RPAR3
