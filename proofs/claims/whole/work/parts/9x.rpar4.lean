/-- names stand in no when -/
def i49 (S : pS) : Prop := ∀ x ∈ S.1, (x.1 = 49 ∨ x.1 = 50) → S.2.1 0 x.2.1 ≠ 3
theorem shp_49 (k : Int) : ∀ x ∈ shp k, (x.1 = 49 ∨ x.1 = 50) → k ≠ 3 := by
  intro x hx h hk
  subst hk
  have hx : x ∈ [((91, 0, 4) : Int × Int × Int), (107, 0, 3), (116, 0, 2), (99, 2, 1)] := hx
  simp only [List.mem_cons, List.not_mem_nil, or_false] at hx
  rcases hx with rfl | rfl | rfl | rfl <;> exact absurd h (by decide)
theorem i49_stp {lo ty nm v : Int} {x : en} {r : List en} {R : Rw} {m lw : Int} {S' : pS} (h : stp lo ty nm v (x :: r, R, m, lw) = .inr S') (hw : wfS lo (x :: r, R, m, lw)) (hi : i49 (x :: r, R, m, lw)) : i49 S' := by
  have hr : ∀ y ∈ r, (y.1 = 49 ∨ y.1 = 50) → R 0 y.2.1 ≠ 3 := fun y hy => hi y (List.mem_cons_of_mem _ hy)
  have hlo : 0 ≤ lo := hw.1
  have hlm : lo ≤ m := hw.2.1
  have hown : ∀ y ∈ (x :: r), y.1 ≠ 41 → y.1 ≠ 99 → lo ≤ y.2.1 ∧ y.2.1 < m := fun y hy h41 h99 => by
    obtain ⟨_, _, z⟩ := hw.2.2.2.2.2.1 y hy h41
    rcases z with z | z
    · exact absurd z.1 h99
    · exact ⟨z.1, z.2.1⟩
  have hsame : ∀ (R' : Rw) (lw' : Int), (∀ i, R' 0 i = R 0 i) → i49 (r, R', m, lw') := fun R' lw' hs y hy hy1 => by
    show R' 0 y.2.1 ≠ 3
    rw [hs]; exact hr y hy hy1
  refine stp_ind h (fun hx hty e => ?_) (fun hx _ hb _ e => ?_) (fun hx _ e => ?_) (fun hx _ _ _ e => ?_) (fun hx hb e => ?_) (fun hx _ e => ?_) (fun hx _ _ e => ?_) (fun hx _ _ e => ?_) (fun hx _ _ e => ?_) (fun hx _ _ e => ?_) (fun hx _ e => ?_) (fun hx _ e => ?_) (fun hx _ e => ?_) (fun hx _ _ _ _ _ _ _ _ _ _ _ e => ?_) <;> subst e
  · intro y hy hy1
    rcases List.mem_cons.mp hy with z | hy
    · rw [z] at hy1; omega
    · rcases List.mem_cons.mp hy with z | hy
      · rw [z] at hy1; exact absurd hy1 (by decide)
      · exact hr y hy hy1
  · intro y hy hy1
    have hxo : x.2.1 = -1 ∨ (lo ≤ x.2.1 ∧ x.2.1 < m ∧ (1 ≤ x.2.2.1 ∧ x.2.2.1 ≤ 3)) := by
      obtain ⟨_, _, z⟩ := hw.2.2.2.2.2.1 x List.mem_cons_self (by omega)
      rcases z with z | z
      · exact Or.inl z.2
      · exact Or.inr ⟨z.1, z.2.1, z.2.2.2.2.2.2.2.2.2.2.1 hx⟩
    have hs : x.2.1 = -1 ∨ (1 ≤ x.2.2.1 ∧ x.2.2.1 ≤ 3) := by omega
    rcases List.mem_append.mp hy with hy | hy
    · obtain ⟨z, hz, rfl⟩ := List.mem_map.mp hy
      show nodR R m ty nm v x.2.1 x.2.2.1 0 m ≠ 3
      rw [nodR_m 0 (by omega) (by decide) hs, newN_0]
      exact shp_49 ty z hz hy1
    · have := hown y (List.mem_cons_of_mem _ hy) (by omega) (by omega)
      show nodR R m ty nm v x.2.1 x.2.2.1 0 y.2.1 ≠ 3
      rw [nodR_ne 0 _ (by omega) (by omega) hs]
      exact hr y hy hy1
  · exact hsame _ _ (fun _ => rfl)
  · intro y hy hy1
    rcases List.mem_cons.mp hy with z | hy
    · rw [z] at hy1; exact absurd (show (97 : Int) = 49 ∨ (97 : Int) = 50 from hy1) (by decide)
    · rcases List.mem_cons.mp hy with z | hy
      · rw [z] at hy1; omega
      · have hyo := hown y (List.mem_cons_of_mem _ hy) (by omega) (by omega)
        show caseR R m x.2.1 0 y.2.1 ≠ 3
        rw [caseR_ne 0 _ (by omega) (by omega)]
        exact hr y hy hy1
  · intro y hy hy1
    rcases List.mem_append.mp hy with hy | hy
    · obtain ⟨z, hz, rfl⟩ := List.mem_map.mp hy
      show im_u R 0 x.2.1 ty 0 x.2.1 ≠ 3
      rw [im_rds]; omega
    · show im_u R 0 x.2.1 ty 0 y.2.1 ≠ 3
      by_cases hyx : y.2.1 = x.2.1
      · rw [hyx, im_rds]; omega
      · rw [im_rdk _ _ _ hyx]; exact hr y hy hy1
  · exact hsame _ _ (fun _ => im_rdn _ _ _ _ (by decide))
  · exact hsame _ _ (fun _ => im_rdn _ _ _ _ (by decide))
  · exact hsame _ _ (fun _ => rfl)
  · intro y hy hy1
    rcases List.mem_cons.mp hy with z | hy
    · rw [z] at hy1; exact absurd (show (104 : Int) = 49 ∨ (104 : Int) = 50 from hy1) (by decide)
    · show im_u R (8 + (R 6 x.2.1).toNat) x.2.1 v 0 y.2.1 ≠ 3
      rw [im_rdn _ _ _ _ (by omega)]
      exact hi y hy hy1
  · exact hsame _ _ (fun _ => by rw [im_rdn _ _ _ _ (by decide), im_rdn _ _ _ _ (by omega)])
  · exact hsame _ _ (fun _ => rfl)
  · exact hsame _ _ (fun _ => im_rdn _ _ _ _ (by decide))
  · exact hsame _ _ (fun _ => rfl)
  · exact hsame _ _ (fun _ => im_rdn _ _ _ _ (by (repeat' split) <;> decide))
section RPAR4
variable {g : im_g} {d : Nat} {e : im_E} {M M0 : im_M} {K : im_K} {lo kp pk a p q ty nm v m lw : Int} {x : en} {r L : List en} {R : Rw}
theorem ent_m1 (hw : wfS lo (x :: r, R, m, lw)) : ∀ y ∈ r, y.2.1 = -1 → y.1 = 41 ∨ y.1 = 99 := fun y hy hm1 => by
  by_cases h41 : y.1 = 41
  · exact Or.inl h41
  · obtain ⟨_, _, z⟩ := hw.2.2.2.2.2.1 y (List.mem_cons_of_mem _ hy) h41
    rcases z with z | z
    · exact Or.inr z.1
    · have := hw.1; have := z.1; omega
theorem ent_x (hw : wfS lo (x :: r, R, m, lw)) (h41 : x.1 ≠ 41) (h99 : x.1 ≠ 99) : lo ≤ x.2.1 ∧ x.2.1 < m ∧ 0 ≤ lo ∧ m ≤ 5000 ∧ sgk R x := by
  obtain ⟨_, _, z⟩ := hw.2.2.2.2.2.1 x List.mem_cons_self h41
  rcases z with z | z
  · exact absurd z.1 h99
  · exact ⟨z.1, z.2.1, hw.1, hw.2.2.2.1, z.2.2⟩
theorem c_readName {n s : Int} (h : RJ M0 M lo kp pk a (x :: r, R, m, lw) L) (ht : TK M p q ty nm) (h1 : -2 ≤ ty) (h2 : ty ≤ 41) (hw : wfS lo (x :: r, R, m, lw)) (hi : i49 (x :: r, R, m, lw)) (ha : a ≤ q)
    (hx : x.1 = 49 ∨ x.1 = 50 ∨ x.1 = 51) (hn : n = x.2.1) (hs : s = x.2.2.1) (hL : L = rst R false r) (hd : 3 ≤ d) (hKf : KFR e K M0 lo kp pk p ty nm v (x :: r, R, m, lw)) (hKs : KSR e K M0 lo kp pk q ty nm v (x :: r, R, m, lw)) : im_T g d 295 0 [some (.ref 6952), some (vI n), some (vI s)] [] e M K := by
  obtain ⟨t14, t15, t16, t17, t18, t19⟩ := id ht
  have hst' : hst (x :: r) := hw.2.2.2.2.2.2.2
  obtain ⟨o1, o2, o3, o4, o5⟩ := ent_x hw (by omega) (by omega)
  have r6 : rk ty = 3 ↔ ty = 36 := (rk_vals ty).2.2.2.2.2.1
  have hsl : x.2.2.1 = x.1 - 48 := o5.2.2.2.2.2.2.2.2.2.1 hx
  subst hn hs
  refine b_readName_0 (by omega) ?_
  rw [t15]
  refine ⟨fun hty => ?_, fun hn => c_ft h ht h1 h2 (fun _ _ => by rw [stp_s4 hx, if_neg (by omega)]) (by omega) hKf⟩
  have hty36 := r6.mp hty
  have e18 : M 6952 18 = nm := t18 (Or.inr (Or.inr hty36))
  have hk3 : R 0 x.2.1 ≠ 3 := by
    rcases hx with z | z | z
    · exact hi x List.mem_cons_self (Or.inl z)
    · exact hi x List.mem_cons_self (Or.inr z)
    · have := o5.2.2.2.2.2.2.1 z; omega
  have h98k : ∀ y ∈ r, y.1 = 98 → x.1 = 51 → y.2.1 ≠ x.2.1 := fun y hy h98 h51 he => by
    obtain ⟨_, _, z⟩ := hw.2.2.2.2.2.1 y (List.mem_cons_of_mem _ hy) (by omega)
    rcases z with z | z
    · omega
    · have h29 : R 0 y.2.1 = 29 := (z.2.2.2.2.1 (Or.inl h98)).1
      have hk51 : R 0 x.2.1 = 1 ∨ R 0 x.2.1 = 28 := o5.2.2.2.2.2.2.1 h51
      rw [he] at h29; omega
  have go : ∀ (c f : Nat), ((x.1 = 49 ∧ c = 6961 ∧ f = 4) ∨ (x.1 = 50 ∧ c = 6962 ∧ f = 5) ∨ (x.1 = 51 ∧ c = 6963 ∧ f = 6)) → im_T g (d - 1) 282 0 [some (.ref 6952)] [] e (im_u M c x.2.1 nm) (im_r0 (fun e_ M1 => e = e_ ∧ K (.inl none) e M1)) := fun c f hc => by
    have hf : (if x.1 = 49 then 4 else if x.1 = 50 then 5 else 6) = f := by
      rcases hc with z | z | z
      · rw [if_pos z.1]; exact z.2.2.symm
      · rw [if_neg (by omega), if_pos z.1]; exact z.2.2.symm
      · rw [if_neg (by omega), if_neg (by omega)]; exact z.2.2.symm
    have hf3 : f = 4 ∨ f = 5 ∨ f = 6 := by omega
    have hcr : 6961 ≤ c ∧ c ≤ 6963 := by omega
    refine c_use (q := q) ((im_rdn _ _ _ _ (by omega)).trans t17) ⟨rfl, rfl, ?_⟩
    refine hKs _ (by rw [stq_ok (by omega) (by omega), stp_s4 hx, if_pos hty36, hf]) _ (RJ_pop (R' := im_u R f x.2.1 nm) x.2.1 h hst' (by omega) ha ?_ (fun y b b' => by rw [im_u_ne _ _ _ b, im_u_ne _ _ _ (by omega)]) (fun y i b b' => ?_) (fun k b => by rw [im_rdk _ _ _ b, im_rdn _ _ _ _ (by omega)]) (Or.inl o1) (fun i hi f' => ?_) (fun _ _ z => by omega) (fun _ _ hr => ?_) (fun y hy h98 => ⟨by rw [im_rdn _ _ _ _ (by decide), im_rdn _ _ _ _ (by omega)], ?_⟩)) (by rw [im_rdk _ _ _ (by decide), im_rdn _ _ _ _ (by omega)]; exact t19) (im_rds _ _ _ _)
    · rw [hL]
      exact (rst_congr r false (fun y hy => ⟨fun h41 hm1 => ⟨im_rdn _ _ _ _ (by omega), fun _ => im_rdn _ _ _ _ (by omega), fun h98 => by
        by_cases hf6 : f = 6
        · subst hf6; exact im_rdk _ _ _ (h98k y hy h98 (by omega))
        · exact im_rdn _ _ _ _ (by omega)⟩, ent_m1 hw y hy⟩)).symm
    · rw [im_rdn _ _ _ _ b']
      by_cases hy : y = c
      · subst hy; exact im_rdk _ _ _ b
      · exact im_rdn _ _ _ _ hy
    · by_cases hf' : f' = f
      · subst hf'; exact im_rdk _ _ _ hi
      · exact im_rdn _ _ _ _ hf'
    · obtain ⟨b1, b2, b3, b4, b5, b6, b7⟩ := hr
      have hR : ∀ f' : Nat, f' ≠ f → im_u R f x.2.1 nm f' x.2.1 = R f' x.2.1 := fun f' hf => im_rdn _ _ _ _ hf
      have hMn : ∀ (y : Nat) (i : Int), y ≠ 6952 → y ≠ c → im_u (im_u M c x.2.1 nm) 6952 14 q y i = M y i := fun y i y1 y2 => by rw [im_rdn _ _ _ _ y1, im_rdn _ _ _ _ y2]
      have hMc : im_u (im_u M c x.2.1 nm) 6952 14 q c x.2.1 = nm := by rw [im_rdn _ _ _ _ (by omega), im_rds]
      have hRf : im_u R f x.2.1 nm f x.2.1 = nm := im_rds _ _ _ _
      generalize hM' : im_u (im_u M c x.2.1 nm) 6952 14 q = M'
      generalize hR' : im_u R f x.2.1 nm = R'
      rw [hM'] at hMc
      rw [hR'] at hRf
      have hMn' : ∀ (y : Nat) (i : Int), y ≠ 6952 → y ≠ c → M' y i = M y i := fun y i y1 y2 => by rw [← hM']; exact hMn y i y1 y2
      have hRn' : ∀ f' : Nat, f' ≠ f → R' f' x.2.1 = R f' x.2.1 := fun f' hf' => by rw [← hR']; exact hR f' hf'
      have hpl : ∀ j, M' 6955 j = M 6955 j := fun j => hMn' 6955 j (by decide) (by omega)
      unfold rowR
      rw [hRn' 0 (by omega), hRn' 3 (by omega), hRn' 16 (by omega), hRn' 17 (by omega), hRn' 18 (by omega), hRn' 19 (by omega), hRn' 7 (by omega), hMn' 6960 _ (by decide) (by omega), hMn' 6964 _ (by decide) (by omega), hMn' 6965 _ (by decide) (by omega), hMn' 6966 _ (by decide) (by omega), hMn' 6967 _ (by decide) (by omega), hMn' 6968 _ (by decide) (by omega), hMn' 6971 _ (by decide) (by omega), hMn' 6972 _ (by decide) (by omega)]
      refine ⟨b1, fun z => ?_, fun z => ?_, b4, fun z => rnp_congr (b5 z) (fun j _ => hpl j) (Int.le_refl _), fun z => absurd z hk3, fun z => ?_⟩
      · have hb := b2 z
        rcases hc with ⟨u1, u2, u3⟩ | ⟨u1, u2, u3⟩ | ⟨u1, u2, u3⟩
        · subst u2 u3
          exact ⟨hMc.trans hRf.symm, by rw [hMn' 6962 _ (by decide) (by decide), hRn' 5 (by decide)]; exact hb.2⟩
        · subst u2 u3
          exact ⟨by rw [hMn' 6961 _ (by decide) (by decide), hRn' 4 (by decide)]; exact hb.1, hMc.trans hRf.symm⟩
        · subst u2 u3
          exact ⟨by rw [hMn' 6961 _ (by decide) (by decide), hRn' 4 (by decide)]; exact hb.1, by rw [hMn' 6962 _ (by decide) (by decide), hRn' 5 (by decide)]; exact hb.2⟩
      · by_cases hf6 : f = 6
        · have hc63 : c = 6963 := by omega
          subst hf6 hc63
          exact ⟨hMc.trans hRf.symm, (b3 z).2⟩
        · rw [hMn' 6963 _ (by decide) (by omega), hRn' 6 (by omega)]; exact b3 z
      · have hf6 : f ≠ 6 := fun z6 => by
          have := o5.2.2.2.2.2.2.1 (by omega); omega
        rw [hRn' 6 (by omega)]
        obtain ⟨c1, c2, c3, c4⟩ := b7 z
        refine ⟨c1, c2, c3, fun k hk => ?_⟩
        rw [hMn' 6973 _ (by decide) (by omega), hMn' 6974 _ (by decide) (by omega), hRn' (8 + k) (by omega), hRn' (12 + k) (by omega)]
        exact ⟨rnp_congr (c4 k hk).1 (fun j _ => hpl j) (Int.le_refl _), rnp_congr (c4 k hk).2 (fun j _ => hpl j) (Int.le_refl _)⟩
    · by_cases hf6 : f = 6
      · subst hf6; exact im_rdk _ _ _ (h98k y hy h98 (by omega))
      · exact im_rdn _ _ _ _ (by omega)
  rw [e18]
  refine ⟨by constructor <;> omega, fun c1 => ⟨fun c2 => ⟨by constructor <;> omega, go 6963 6 (by omega)⟩, fun c2 => ⟨by constructor <;> omega, go 6962 5 (by omega)⟩⟩, fun c1 => ⟨by constructor <;> omega, go 6961 4 (by omega)⟩⟩
theorem RJ_pool {M1 : im_M} {S : pS} (h : RJ M0 M lo kp pk a S L) (m1 : ∀ (y : Nat) (i : Int), y ≠ 6955 → M1 y i = M y i) (mp : ∀ i, i < M 6952 7 → M1 6955 i = M 6955 i) : RJ M0 M1 lo kp pk a S L := by
  obtain ⟨a1, a2, a3, a4, a5, a6, a7, a8, a9, a10⟩ := h
  have hf : ∀ k, M1 6952 k = M 6952 k := fun k => m1 6952 k (by decide)
  refine ⟨a1.tr ⟨fun y _ b _ => funext (fun i => m1 y i b), fun k _ _ _ _ _ _ => hf k, fun i b => mp i (by omega), fun y i b c _ => m1 y i (by omega), fun y i b _ => m1 y i (by omega)⟩ (hf 20), (hf 39).trans a2, by rw [hf 7]; exact a3, by rw [hf 37]; exact a4, ⟨(hf 45).trans a5.1, stkR_congr L a5.2 (fun y i b c _ _ => m1 y i (by omega))⟩, a6, fun z => (hf 40).trans (a7 z), fun i i0 i1 => ?_, fun y hy h98 => ?_, fun y r' he h104 => ?_⟩
  · rw [hf 7, hf 37]
    exact rowR_congr (a8 i i0 i1) (fun y b c => m1 y i (by omega)) mp (fun y j b _ => m1 y j (by omega)) (fun _ => rfl) (Int.le_refl _) (Int.le_refl _) (fun _ _ z => z)
  · rw [hf 37, m1 6971 _ (by decide)]; exact a9 y hy h98
  · rw [hf 7, hf 37, m1 6973 _ (by decide)]
    have := a10 y r' he h104
    exact ⟨this.1, rnp_congr this.2 mp (Int.le_refl _)⟩
theorem TK_eq {M1 : im_M} (h : TK M p q ty nm) (m1 : ∀ k, M1 6952 k = M 6952 k) : TK M1 p q ty nm := by
  unfold TK
  rw [m1, m1, m1, m1, m1, m1]
  exact h
theorem c_readTime {n nt : Int} {t : Int → Int} (h : RJ M0 M lo kp pk a (x :: r, R, m, lw) L) (ht : TK M p q ty nm) (h1 : -2 ≤ ty) (h2 : ty ≤ 41) (hnm : ty = 35 → 97 ≤ nm) (hw : wfS lo (x :: r, R, m, lw)) (ha : a ≤ q)
    (hrt : rtx M t nt) (hp0 : 0 ≤ p) (hpq : ty = 34 → p < q) (hqn : ty = 34 → q ≤ nt) (hwd : ty = 34 → wrd t p q 34 nm v) (h8 : M 6952 8 = 0 ∨ M 6952 8 = 1) (hkp : 0 ≤ kp) (hkp2 : kp + 3 * a + 302 ≤ 1100000)
    (hx : x.1 = 116) (hn : n = x.2.1) (hL : L = rst R false r) (hd : 3 ≤ d) (hKf : KFR e K M0 lo kp pk p ty nm v (x :: r, R, m, lw)) (hKs : KSR e K M0 lo kp pk q ty nm v (x :: r, R, m, lw)) : im_T g d 297 0 [some (.ref 6952), some (vI n), none, none, none] [] e M K := by
  obtain ⟨t14, t15, t16, t17, t18, t19⟩ := id ht
  have hst' : hst (x :: r) := hw.2.2.2.2.2.2.2
  obtain ⟨o1, o2, o3, o4, o5⟩ := ent_x hw (by omega) (by omega)
  have r4 : rk ty = 1 ↔ ty = 34 := (rk_vals ty).2.2.2.1
  have r5 : rk ty = 4 ↔ ty = 35 := (rk_vals ty).2.2.2.2.1
  have hk3 : R 0 x.2.1 = 3 := o5.2.2.2.2.1 hx
  subst hn
  /- what is common -/
  have go : ∀ (M1 M' : im_M) (f : Nat) (w : Int), RJ M0 M1 lo kp pk a (x :: r, R, m, lw) L → (f = 4 ∨ f = 5) → (∀ y, y ≠ 6952 → (y < 6960 ∨ 6972 < y) → M' y = M1 y) → (∀ (y : Nat) (i : Int), i ≠ x.2.1 → y ≠ 6952 → M' y i = M1 y i) → (∀ k, k ≠ 14 → M' 6952 k = M1 6952 k) → M1 6952 19 = 0 → M' 6952 14 = q → (∀ y : Nat, 6960 ≤ y → y ≤ 6972 → y ≠ 6961 → y ≠ 6969 → y ≠ 6970 → M' y x.2.1 = M1 y x.2.1) → ((f = 5 ∧ w ≠ 0 ∧ M' 6970 x.2.1 = 1 ∧ M' 6961 x.2.1 = w) ∨ (f = 4 ∧ M' 6970 x.2.1 = M1 6970 x.2.1 ∧ M' 6961 x.2.1 = M1 6961 x.2.1 ∧ M' 6969 x.2.1 = w)) → stq lo ty nm v (x :: r, R, m, lw) = .inr (r, im_u R f x.2.1 w, m, lw) → K (.inl none) e M' := fun M1 M' f w hJ hf g1 g2 g3 g19 g14 g4 g5 hsq => by
    refine hKs _ hsq M' (RJ_pop x.2.1 hJ hst' (by omega) ha ?_ g1 g2 g3 (Or.inl o1) (fun i hi f' => ?_) (fun i hi _ => Ne.symm hi) (fun _ _ hr => ?_) (fun y hy h98 => ⟨?_, im_rdn _ _ _ _ (by omega)⟩)) ((g3 19 (by decide)).trans g19) g14
    · rw [hL]
      exact (rst_congr r false (fun y hy => ⟨fun h41 hm1 => ⟨im_rdn _ _ _ _ (by omega), fun _ => im_rdn _ _ _ _ (by omega), fun h98 => im_rdn _ _ _ _ (by omega)⟩, ent_m1 hw y hy⟩)).symm
    · by_cases hf' : f' = f
      · subst hf'; exact im_rdk _ _ _ hi
      · exact im_rdn _ _ _ _ hf'
    · obtain ⟨b1, b2, b3, b4, b5, b6, b7⟩ := hr
      have hRn : ∀ f' : Nat, f' ≠ f → im_u R f x.2.1 w f' x.2.1 = R f' x.2.1 := fun f' hf' => im_rdn _ _ _ _ hf'
      have hRf : im_u R f x.2.1 w f x.2.1 = w := im_rds _ _ _ _
      generalize im_u R f x.2.1 w = R' at hRn hRf
      unfold rowR
      rw [hRn 0 (by omega), hRn 3 (by omega), hRn 6 (by omega), hRn 16 (by omega), hRn 17 (by omega), hRn 18 (by omega), hRn 19 (by omega), g4 6960 (by decide) (by decide) (by decide) (by decide) (by decide), g4 6963 (by decide) (by decide) (by decide) (by decide) (by decide), g4 6964 (by decide) (by decide) (by decide) (by decide) (by decide), g4 6965 (by decide) (by decide) (by decide) (by decide) (by decide), g4 6966 (by decide) (by decide) (by decide) (by decide) (by decide), g4 6967 (by decide) (by decide) (by decide) (by decide) (by decide), g4 6972 (by decide) (by decide) (by decide) (by decide) (by decide)]
      refine ⟨b1, fun z => absurd hk3 z, b3, b4, fun z => by omega, fun z => ?_, fun z => by omega⟩
      rcases g5 with ⟨u1, u2, u3, u4⟩ | ⟨u1, u2, u3, u4⟩
      · subst u1
        rw [hRf]
        exact ⟨fun _ => ⟨u3, u4⟩, fun z => absurd z u2⟩
      · subst u1
        rw [hRn 5 (by decide), hRf, u2, u3, u4]
        exact ⟨(b6 z).1, fun z2 => ⟨((b6 z).2 z2).1, fun _ => rfl⟩⟩
    · by_cases hy2 : y.2.1 = x.2.1
      · rw [hy2]; exact g4 6971 (by decide) (by decide) (by decide) (by decide) (by decide)
      · exact g2 6971 _ hy2 (by decide)
  refine b_readTime_0 (by omega) ?_
  rw [t15]
  refine ⟨fun hn4 => ⟨fun h34 => ?_, fun hn1 => c_ft h ht h1 h2 (fun _ _ => by rw [stp_s5 hx, if_neg (by omega), if_pos (by omega)]) (by omega) hKf⟩, fun h4 => ⟨by constructor <;> omega, ?_⟩⟩
  · have ty34 := r4.mp h34
    have hT := h.2.2.1
    refine c_tokenNumber hrt t16 t17 hp0 (hpq ty34) (hqn ty34) (hwd ty34) h8 (by omega) (by omega) (by omega) (fun M6 k hF hrn hk3' h7 h8' => ⟨_, rfl, rfl, ?_⟩)
    refine c_toLong hrn (by omega) (by omega) (fun w hw' => ⟨_, rfl, rfl, ?_⟩)
    generalize hM1 : im_u M6 6952 7 (M 6952 7) = M1
    have hf : ∀ k, M1 6952 k = M 6952 k := fun k => by
      rw [← hM1]
      by_cases hk7 : k = 7
      · subst hk7; exact im_rds _ _ _ _
      · rw [im_rdk _ _ _ hk7]
        by_cases hk8 : k = 8
        · subst hk8; exact h8'
        · exact hF.2.1 k (fun z => by rcases List.mem_cons.mp z with z | z; exact hk7 z; rcases List.mem_cons.mp z with z | z; exact hk8 z; cases z)
    have hm1 : ∀ (y : Nat) (i : Int), y ≠ 6955 → M1 y i = M y i := fun y i hy => by
      by_cases hy2 : y = 6952
      · subst hy2; exact hf i
      · rw [← hM1, im_rdn _ _ _ _ hy2, hF.1 y (fun z => by cases z) hy hy2]
    have hmp : ∀ i, i < M 6952 7 → M1 6955 i = M 6955 i := fun i hi => by rw [← hM1, im_rdn _ _ _ _ (by decide)]; exact hF.2.2 i hi
    have hJ1 := RJ_pool h hm1 hmp
    have hT1 : TK M1 p q ty nm := TK_eq ht hf
    refine c_isIn hw'.1 (by decide) (by decide) (fun hin => ⟨_, rfl, rfl, by decide, fun _ => ⟨by constructor <;> omega, hw'.1, ?_⟩, fun z => absurd z (by decide)⟩) (fun hin => ⟨_, rfl, rfl, by decide, fun z => absurd rfl z, fun _ => ?_⟩)
    · have hv : 0 ≤ v ∧ v ≤ 1000000000000000 := Decidable.byContradiction (fun z => hw'.2.2 z hin)
      have hwv : w = v := hw'.2.1 hv
      have has : asT v = v := if_pos hv
      refine c_use (q := q) ((im_rdn _ _ _ _ (by decide)).trans hT1.2.2.2.1) ⟨rfl, rfl, ?_⟩
      refine go M1 _ 4 (asT v) hJ1 (Or.inl rfl) (fun y b c => by rw [im_u_ne _ _ _ b, im_u_ne _ _ _ (by omega)]) (fun y i b c => ?_) (fun k b => by rw [im_rdk _ _ _ b, im_rdn _ _ _ _ (by decide)]) hT1.2.2.2.2.2 (im_rds _ _ _ _) (fun y b c c1 c2 c3 => by rw [im_rdn _ _ _ _ (by omega), im_rdn _ _ _ _ c2]) (Or.inr ⟨rfl, by rw [im_rdn _ _ _ _ (by decide), im_rdn _ _ _ _ (by decide)], by rw [im_rdn _ _ _ _ (by decide), im_rdn _ _ _ _ (by decide)], by rw [im_rdn _ _ _ _ (by decide), im_rds, has, hwv]⟩) ?_
      · rw [im_rdn _ _ _ _ c]
        by_cases hy : y = 6969
        · subst hy; exact im_rdk _ _ _ b
        · exact im_rdn _ _ _ _ hy
      · rw [stq_ok (by omega) (by omega), stp_s5 hx, if_neg (by omega), if_neg (by omega), if_neg (by rw [has]; omega)]
    · have hv : ¬ (0 ≤ v ∧ v ≤ 1000000000000000) := fun z => hin (by rw [hw'.2.1 z]; exact z)
      refine c_fl hJ1 hT1 (by decide) ?_ hKf
      rw [stq_ok (by omega) (by omega), stp_s5 hx, if_neg (by omega), if_neg (by omega), if_pos (show asT v = -1 from if_neg hv)]
  · have ty35 := r5.mp h4
    have e18 : M 6952 18 = nm := t18 (Or.inr (Or.inl ty35))
    rw [e18]
    refine c_use (q := q) (by rw [im_rdn _ _ _ _ (by decide), im_rdn _ _ _ _ (by decide)]; exact t17) ⟨rfl, rfl, ?_⟩
    refine go M _ 5 nm h (Or.inr rfl) (fun y b c => by rw [im_u_ne _ _ _ b, im_u_ne _ _ _ (by omega), im_u_ne _ _ _ (by omega)]) (fun y i b c => ?_) (fun k b => by rw [im_rdk _ _ _ b, im_rdn _ _ _ _ (by decide), im_rdn _ _ _ _ (by decide)]) t19 (im_rds _ _ _ _) (fun y b c c1 c2 c3 => by rw [im_rdn _ _ _ _ (by omega), im_rdn _ _ _ _ c1, im_rdn _ _ _ _ c3]) (Or.inl ⟨rfl, by have := hnm ty35; omega, by rw [im_rdn _ _ _ _ (by decide), im_rdn _ _ _ _ (by decide), im_rds], by rw [im_rdn _ _ _ _ (by decide), im_rds]⟩) ?_
    · rw [im_rdn _ _ _ _ c]
      have hu : ∀ (Q : im_M) (c : Nat) (w : Int), im_u Q c x.2.1 w y i = Q y i := fun Q c w => by
        by_cases hy : y = c
        · subst hy; exact im_rdk _ _ _ b
        · exact im_rdn _ _ _ _ hy
      rw [hu, hu]
    · rw [stq_ok (by omega) (by omega), stp_s5 hx, if_pos ty35]
end RPAR4
