/-! THE CLASS looks ahead, as it is called -/
theorem cb_e {M M' : im_M} {b n : Nat} (h : cbx M b n) (h4 : M' b 4 = 0) (hs : ∀ x, b < x → x < b + 6 + 2 * n → M' x = M x) : cb M' b n bE := by
  obtain ⟨β, π, ⟨c1, c2, c3, c4, c5⟩, c6, c7⟩ := h
  refine ⟨π, ⟨h4, Nat.zero_le _, fun i hi => ⟨(c3 i hi).1, by rw [hs (b + 5) (by omega) (by omega)]; exact (c3 i hi).2⟩, c4, fun i hi => absurd hi (Nat.not_lt_zero i)⟩, fun i hi => absurd hi (Nat.not_lt_zero i), cn_congr c7 (hs _ (by omega) ?_) ?_⟩
  · omega
  · exact hs _ (by omega) (by omega)
section CLOOKP
variable {g : im_g} {d : Nat} {e : im_E} {M : im_M} {K : im_K} {w : Wd}
theorem c_P_look {k fr mask fuel e0 : Int} (h : CW M e w 0) (hW : WFP w.gRw w.gM) (hn : ∀ j, 0 ≤ j → j < w.gM → w.gRw 4 j ≤ 9223372036854775807 ∧ w.gRw 5 j ≤ 9223372036854775807 ∧ w.gRw 6 j ≤ 9223372036854775807) (hk : im_i32 k) (hfr : fr = 0 ∨ fr = 1) (hmk : im_i32 mask) (hfu : im_i32 fuel) (hb01 : 0 ≤ k ∧ k < 16 → (w.gIn k).1 = 0 ∨ (w.gIn k).1 = 1) (hrt : 0 ≤ k ∧ k < 16 → w.gRt k = -1 ∨ (0 ≤ w.gRt k ∧ w.gRt k < w.gM))
    (hH : lkC w k fr → (¬ fr = 0 → ¬ lks' w.gRw (w.gRt k) (eN w.gRw w.gM (w.gRt k)) w.gPm) → lkH w k fr e0) (hd : 122 ≤ d)
    (hd0 : w.gJr.2.2.2.2 ≠ 0 → K (.inr xS) (e ++ [im_ex]) M) (hKp : w.gJr.2.2.2.2 = 0 → ¬ lkA k → K (.inr xP) (e ++ [im_ex]) M) (hKa : w.gJr.2.2.2.2 = 0 → lkA k → ¬ lkB mask fuel → K (.inr xA) (e ++ [im_ex]) M) (hKs : w.gJr.2.2.2.2 = 0 → lkA k → lkB mask fuel → ¬ lkC w k fr → K (.inr xS) (e ++ [im_ex]) M)
    (hKu : w.gJr.2.2.2.2 = 0 → lkA k → lkB mask fuel → lkC w k fr → ¬ fr = 0 → lks' w.gRw (w.gRt k) (eN w.gRw w.gM (w.gRt k)) w.gPm → K (.inl (some (vI (-11)))) e M)
    (hK : w.gJr.2.2.2.2 = 0 → lkA k → lkB mask fuel → lkC w k fr → (¬ fr = 0 → ¬ lks' w.gRw (w.gRt k) (eN w.gRw w.gM (w.gRt k)) w.gPm) → ∀ o, srS w.gRw (lkG w k fr) mask fuel 803 0 [(lkL w k fr, ofs w.gRw (lkG w k fr) (lkL w k fr))] (fun _ => (0, 0, 0, 0, 0, 0)) o → ∀ (ex : im_E) M', xcn ex = 0 → (∀ x, 6952 ≤ x → x < 7082 → M' x = M x) → CW M' (e ++ ex) (lkW w o) 0 → K (.inl (some (vI o.1))) (e ++ ex) M') :
    im_T g d 237 0 [some (.ref 0), some (vI k), some (vI fr), some (vI mask), some (vI fuel), none] [] e M K := by
  obtain ⟨_, ⟨⟨p1, p2, p3⟩, rts, ins⟩, ⟨b30, _, _⟩, _, _, _, ⟨⟨⟨x1, x2, x3⟩, _⟩, _⟩, _⟩ := id h
  -- an instance's state
  have goI : w.gJr.2.2.2.2 = 0 → lkA k → lkB mask fuel → lkC w k fr → fr = 0 → ∃ b : Nat, (M 29 k = (b : Int)) ∧ im_state e b ∧ im_T g (d - 1) 107 0 [some (.ref 666), some (.ref b)] [] e M (im_r0 (fun  e_ M426 => e = e_ ∧ ((fr = 0 → ∃ b428 : Nat, ((M426 29 k) = (b428 : Int)) ∧ (im_state e b428) ∧ ∃ n431 : Nat, (im_book e (b428 + 259) n431) ∧ im_T g (d - 1) 238 0 [some (.ref 1793), some (.ref 666), some (.ref (b428 + 259)), some (vI mask), some (vI fuel), none, none, none, none] [] e M426 (im_ri (fun x435 e434 M433 => im_T g (d - 1) 22 0 [some (.ref 7)] [] e434 M433 (im_r0 (fun  e_ M436 => e434 = e_ ∧ (im_i32 x435) ∧ ((¬ x435 = 1 → K (.inl (some (vI x435))) e434 M436) ∧ (x435 = 1 → im_T g (d - 1) 246 0 [some (.ref 1793), some (.ref 7), none, none] [] e434 M436 (im_r0 (fun  e_ M439 => e434 = e_ ∧ K (.inl (some (vI x435))) e434 M439))))))))) ∧ (¬ fr = 0 → im_T g (d - 1) 238 0 [some (.ref 1793), some (.ref 666), some (.ref 30), some (vI mask), some (vI fuel), none, none, none, none] [] e M426 (im_ri (fun x444 e443 M442 => im_T g (d - 1) 22 0 [some (.ref 7)] [] e443 M442 (im_r0 (fun  e_ M445 => e443 = e_ ∧ (im_i32 x444) ∧ ((¬ x444 = 1 → K (.inl (some (vI x444))) e443 M445) ∧ (x444 = 1 → im_T g (d - 1) 246 0 [some (.ref 1793), some (.ref 7), none, none] [] e443 M445 (im_r0 (fun  e_ M448 => e443 = e_ ∧ K (.inl (some (vI x444))) e443 M448)))))))))))) := by
    intro hz hA hB hC hf
    have hk16 : 0 ≤ k ∧ k < 16 := by unfold lkA at hA; omega
    have hl : ¬ fr = 0 → ¬ lks' w.gRw (w.gRt k) (eN w.gRw w.gM (w.gRt k)) w.gPm := fun z => absurd hf z
    obtain ⟨i1, ⟨i2, i3, i4⟩, i5, i6, i7, i8⟩ := ins k.toNat (by omega)
    have hkn : ((k.toNat : Nat) : Int) = k := by omega
    rw [hkn] at i1 i2 i3 i4 i5 i6 i7 i8
    have hst := st_inst (e := e) k.toNat (by omega)
    have eL : lkL w k fr = ((w.gIn k).2.1, (w.gIn k).2.2.1, (w.gIn k).2.2.2.1, (w.gIn k).2.2.2.2.1, (w.gIn k).2.2.2.2.2.1) := if_pos hf
    have eG : lkG w k fr = (w.gIn k).2.2.2.2.2.2 := if_pos hf
    refine ⟨2072 + 305 * k.toNat, i1, hst.1, c_scopy (a := 666) (p := 2072 + 305 * k.toNat) st_666 hst x1 x2 x3 i5 i6 i7 (by omega) (by omega) (fun N n1 _ n4 n5 d1 d2 d3 => ⟨rfl, rfl, fun _ => ⟨2072 + 305 * k.toNat, by rw [n1 29 (by omega)]; exact i1, hst.1, 20, hst.2.2.2.2.1, ?_⟩, fun z => absurd hf z⟩)⟩
    obtain ⟨_, g2, _, g4⟩ := hH hC hl
    refine c_clkGo (giv := lkG w k fr) (l := lkL w k fr) (e0 := e0) h hW g2 hn g4 hB.2 (Or.inr (by omega)) hst.2.2.2.2 (by rw [eG]; exact i8) (by omega) (fun x hx => n1 x (by omega)) ?_ ?_ ?_ ?_ ?_ (fun o ho ex M' x f C => hK hz hA hB hC hl o ho ex M' x f C)
    · rw [eL]; exact d1
    · rw [eL]; exact d2
    · rw [eL]; exact d3
    · rw [eL]; exact n5.trans i3
    · rw [eL]; exact n4.trans i4
  -- a new instance
  have goF : w.gJr.2.2.2.2 = 0 → lkA k → lkB mask fuel → lkC w k fr → ¬ fr = 0 → im_T g (d - 1) 86 0 [some (.ref 13), some (vI (M 28 k)), some (.ref 30), none, none, none] [] e M (im_ri (fun x479 e_ M478 => e = e_ ∧ (im_i32 x479) ∧ ((x479 = 0 → ((fr = 0 → ∃ b484 : Nat, ((M478 29 k) = (b484 : Int)) ∧ (im_state e b484) ∧ im_T g (d - 1) 107 0 [some (.ref 666), some (.ref b484)] [] e M478 (im_r0 (fun  e_ M487 => e = e_ ∧ ((fr = 0 → ∃ b489 : Nat, ((M487 29 k) = (b489 : Int)) ∧ (im_state e b489) ∧ ∃ n492 : Nat, (im_book e (b489 + 259) n492) ∧ im_T g (d - 1) 238 0 [some (.ref 1793), some (.ref 666), some (.ref (b489 + 259)), some (vI mask), some (vI fuel), none, none, none, none] [] e M487 (im_ri (fun x496 e495 M494 => im_T g (d - 1) 22 0 [some (.ref 7)] [] e495 M494 (im_r0 (fun  e_ M497 => e495 = e_ ∧ (im_i32 x496) ∧ ((¬ x496 = 1 → K (.inl (some (vI x496))) e495 M497) ∧ (x496 = 1 → im_T g (d - 1) 246 0 [some (.ref 1793), some (.ref 7), none, none] [] e495 M497 (im_r0 (fun  e_ M500 => e495 = e_ ∧ K (.inl (some (vI x496))) e495 M500))))))))) ∧ (¬ fr = 0 → im_T g (d - 1) 238 0 [some (.ref 1793), some (.ref 666), some (.ref 30), some (vI mask), some (vI fuel), none, none, none, none] [] e M487 (im_ri (fun x505 e504 M503 => im_T g (d - 1) 22 0 [some (.ref 7)] [] e504 M503 (im_r0 (fun  e_ M506 => e504 = e_ ∧ (im_i32 x505) ∧ ((¬ x505 = 1 → K (.inl (some (vI x505))) e504 M506) ∧ (x505 = 1 → im_T g (d - 1) 246 0 [some (.ref 1793), some (.ref 7), none, none] [] e504 M506 (im_r0 (fun  e_ M509 => e504 = e_ ∧ K (.inl (some (vI x505))) e504 M509))))))))))))) ∧ (¬ fr = 0 → im_T g (d - 1) 90 0 [some (.ref 666), some (vI (M478 28 k)), some (vL 0), none] [] e M478 (im_r0 (fun  e_ M513 => e = e_ ∧ ((fr = 0 → ∃ b515 : Nat, ((M513 29 k) = (b515 : Int)) ∧ (im_state e b515) ∧ ∃ n518 : Nat, (im_book e (b515 + 259) n518) ∧ im_T g (d - 1) 238 0 [some (.ref 1793), some (.ref 666), some (.ref (b515 + 259)), some (vI mask), some (vI fuel), none, none, none, none] [] e M513 (im_ri (fun x522 e521 M520 => im_T g (d - 1) 22 0 [some (.ref 7)] [] e521 M520 (im_r0 (fun  e_ M523 => e521 = e_ ∧ (im_i32 x522) ∧ ((¬ x522 = 1 → K (.inl (some (vI x522))) e521 M523) ∧ (x522 = 1 → im_T g (d - 1) 246 0 [some (.ref 1793), some (.ref 7), none, none] [] e521 M523 (im_r0 (fun  e_ M526 => e521 = e_ ∧ K (.inl (some (vI x522))) e521 M526))))))))) ∧ (¬ fr = 0 → im_T g (d - 1) 238 0 [some (.ref 1793), some (.ref 666), some (.ref 30), some (vI mask), some (vI fuel), none, none, none, none] [] e M513 (im_ri (fun x531 e530 M529 => im_T g (d - 1) 22 0 [some (.ref 7)] [] e530 M529 (im_r0 (fun  e_ M532 => e530 = e_ ∧ (im_i32 x531) ∧ ((¬ x531 = 1 → K (.inl (some (vI x531))) e530 M532) ∧ (x531 = 1 → im_T g (d - 1) 246 0 [some (.ref 1793), some (.ref 7), none, none] [] e530 M532 (im_r0 (fun  e_ M535 => e530 = e_ ∧ K (.inl (some (vI x531))) e530 M535))))))))))))))) ∧ (¬ x479 = 0 → K (.inl (some (vI (-11)))) e M478)))) := by
    intro hz hA hB hC hf
    have hk16 : 0 ≤ k ∧ k < 16 := by unfold lkA at hA; omega
    have hne : w.gRt k ≠ -1 := hC.2.2 hf
    obtain ⟨r0, r1⟩ : 0 ≤ w.gRt k ∧ w.gRt k < w.gM := by rcases hrt hk16 with z | z; exact absurd z hne; exact z
    have r28 : M 28 k = w.gRt k := rts k hk16.1 hk16.2
    rw [r28]
    refine c_lacks (R := w.gRw) (m := w.gM) bk_params b30 p1 hW r0 r1 (by omega) (fun hl => ⟨_, rfl, rfl, by decide, fun z => absurd z (by decide), fun _ => hKu hz hA hB hC hf hl⟩) (fun hl => ⟨_, rfl, rfl, by decide, fun _ => ⟨fun z => absurd z hf, fun _ => ?_⟩, fun z => absurd rfl z⟩)
    have hl' : ¬ fr = 0 → ¬ lks' w.gRw (w.gRt k) (eN w.gRw w.gM (w.gRt k)) w.gPm := fun _ => hl
    have eL : lkL w k fr = (w.gRt k, 0, bE, bE, bE) := if_neg hf
    have eG : lkG w k fr = w.gPm := if_neg hf
    rw [r28]
    refine k_State_restart_0 st_666.1 ⟨by decide, by have := hW.2.1; constructor <;> omega, rfl, rfl, fun z => absurd z hf, fun _ => ?_⟩
    have ux : ∀ x, x ≠ 667 → x ≠ 753 → x ≠ 839 → x ≠ 666 → im_u (im_u (im_u (im_u (im_u (im_u M (666 + 1) 4 0) (666 + 87) 4 0) (666 + 173) 4 0) 666 4 0) 666 5 (w.gRt k)) 666 6 1 x = M x := fun x a b c d => by rw [im_u_ne _ _ _ d, im_u_ne _ _ _ d, im_u_ne _ _ _ d, im_u_ne _ _ _ c, im_u_ne _ _ _ b, im_u_ne _ _ _ a]
    have u5 : im_u (im_u (im_u (im_u (im_u (im_u M (666 + 1) 4 0) (666 + 87) 4 0) (666 + 173) 4 0) 666 4 0) 666 5 (w.gRt k)) 666 6 1 666 5 = w.gRt k := by rw [im_rdk _ _ _ (by decide), im_rds]
    have u4 : im_u (im_u (im_u (im_u (im_u (im_u M (666 + 1) 4 0) (666 + 87) 4 0) (666 + 173) 4 0) 666 4 0) 666 5 (w.gRt k)) 666 6 1 666 4 = 0 := by rw [im_rdk _ _ _ (by decide), im_rdk _ _ _ (by decide), im_rds]
    have ua : im_u (im_u (im_u (im_u (im_u (im_u M (666 + 1) 4 0) (666 + 87) 4 0) (666 + 173) 4 0) 666 4 0) 666 5 (w.gRt k)) 666 6 1 667 4 = 0 := by rw [im_rdn _ _ _ _ (by decide), im_rdn _ _ _ _ (by decide), im_rdn _ _ _ _ (by decide), im_rdn _ _ _ _ (by decide), im_rdn _ _ _ _ (by decide)]; exact im_rds _ _ _ _
    have ub : im_u (im_u (im_u (im_u (im_u (im_u M (666 + 1) 4 0) (666 + 87) 4 0) (666 + 173) 4 0) 666 4 0) 666 5 (w.gRt k)) 666 6 1 753 4 = 0 := by rw [im_rdn _ _ _ _ (by decide), im_rdn _ _ _ _ (by decide), im_rdn _ _ _ _ (by decide), im_rdn _ _ _ _ (by decide)]; exact im_rds _ _ _ _
    have uc : im_u (im_u (im_u (im_u (im_u (im_u M (666 + 1) 4 0) (666 + 87) 4 0) (666 + 173) 4 0) 666 4 0) 666 5 (w.gRt k)) 666 6 1 839 4 = 0 := by rw [im_rdn _ _ _ _ (by decide), im_rdn _ _ _ _ (by decide), im_rdn _ _ _ _ (by decide)]; exact im_rds _ _ _ _
    generalize im_u (im_u (im_u (im_u (im_u (im_u M (666 + 1) 4 0) (666 + 87) 4 0) (666 + 173) 4 0) 666 4 0) 666 5 (w.gRt k)) 666 6 1 = N at ux u5 u4 ua ub uc
    obtain ⟨_, g2, _, g4⟩ := hH hC hl'
    refine c_clkGo (giv := lkG w k fr) (l := lkL w k fr) (e0 := e0) h hW g2 hn g4 hB.2 (Or.inl (by decide)) bk_params (by rw [eG]; exact b30) (by omega) (fun x hx => ux x (by omega) (by omega) (by omega) (by omega)) ?_ ?_ ?_ ?_ ?_ (fun o ho ex M' x f C => hK hz hA hB hC hl' o ho ex M' x f C)
    · rw [eL]; exact cb_e x1 ua (fun x p q => ux x (by omega) (by omega) (by omega) (by omega))
    · rw [eL]; exact cb_e x2 ub (fun x p q => ux x (by omega) (by omega) (by omega) (by omega))
    · rw [eL]; exact cb_e x3 uc (fun x p q => ux x (by omega) (by omega) (by omega) (by omega))
    · rw [eL]; exact u5
    · rw [eL]; exact u4
  refine k_P_look_0 (by omega) (c_needPower h hd0 (fun hz => ⟨rfl, c_needPl hk (by decide) (fun hk16 => ⟨rfl, hmk, ?_⟩) (fun hn16 => hKp hz (fun z => hn16 (by unfold lkA at z; omega)))⟩))
  have hA : lkA k := by unfold lkA; omega
  have hfi : im_i32 fr := by rcases hfr with z | z <;> rw [z] <;> decide
  obtain ⟨i1, ⟨i2, i3, i4⟩, _⟩ := ins k.toNat (by omega)
  have hkn : ((k.toNat : Nat) : Int) = k := by omega
  rw [hkn] at i1 i2
  have hst := st_inst (e := e) k.toNat (by omega)
  have hb := hb01 hk16
  have r28 : M 28 k = w.gRt k := rts k hk16.1 hk16.2
  refine ⟨fun m1 m2 => ⟨hfu, fun f1 f2 => c_needArg (by decide) (fun _ => ⟨rfl, hfi, ⟨fun hf => ⟨hk16, 2072 + 305 * k.toNat, i1, hst.1, ?_⟩, fun _ => hk16⟩, fun x hx => ?_⟩) (fun z => absurd z (by decide))⟩, fun hor => c_needArg (by decide) (fun z => absurd rfl z) (fun _ => hKa hz hA (fun z => by unfold lkB at z; omega))⟩
  · have hB : lkB mask fuel := by unfold lkB; omega
    rw [i2]
    refine c_needSt (by rcases hb with z | z <;> rw [z] <;> decide) (fun hne => ⟨rfl, fun _ => ⟨fun _ => goI hz hA hB ?_ hf, fun z => absurd hf z⟩, fun z => absurd hf z⟩) (fun he => hKs hz hA hB (fun z => ?_))
    · exact ⟨hA, fun _ => by omega, fun z => absurd hf z⟩
    · have := z.2.1 hf; omega
  · have hB : lkB mask fuel := by unfold lkB; omega
    rw [r28] at hx
    have hf : ¬ fr = 0 := by rcases hx with z | z <;> exact z.1
    refine c_needSt (by rcases hx with z | z <;> rw [z.2.2] <;> decide) (fun hne => ⟨rfl, fun z => absurd z hf, fun _ => ⟨hk16, goF hz hA hB ?_ hf⟩⟩) (fun he => hKs hz hA hB (fun z => ?_))
    · refine ⟨hA, fun z => absurd z hf, fun _ => ?_⟩
      rcases hx with z | z
      · omega
      · exact z.2.1
    · have := z.2.2 hf
      rcases hx with y | y
      · exact this y.2.1
      · omega
end CLOOKP
