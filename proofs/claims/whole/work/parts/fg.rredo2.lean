/-! THE REFERENCE does a record again: the kinds with money, and all -/
theorem bput_1 {β0 β : Bk} {n : Nat} {a b v : Int} (h : bput β0 n a b v = some β) : 1 ≤ β.1 := by
  unfold bput at h
  by_cases c : hs2 β0 a b
  · rw [if_pos c] at h
    cases h
    obtain ⟨c1, _⟩ := c
    show 1 ≤ β0.1
    have := (ps_ok β0 a b).1
    omega
  · rw [if_neg c] at h
    by_cases c2 : β0.1 < n
    · rw [if_pos c2] at h; cases h
      show 1 ≤ β0.1 + 1
      omega
    · rw [if_neg c2] at h; cases h
section RREDO2
variable {g : im_g} {d : Nat} {e : im_E} {M : im_M} {K : im_K} {w : Wd} {t : Int → Int} {n : Int}
theorem c_red3 {i k b tm : Int} (h : RW M w) (hQ : RcQ w) (hR : RcR w) (hi : im_i32 i) (hb : im_i64 b) (hkb : k = sml b) (htm : im_i64 tm) (hd : 5 ≤ d) (hK : RdK K e M (beO w 1 i k tm)) : im_T g d 343 0 [some (.ref 6952), some (vI i), some (vI k), some (vL tm), none, none] [] e M (im_ri (fun x31 e_ M30 => e = e_ ∧ (im_i32 x31) ∧ ((¬ x31 = 0 → ((∀ x35 : Int, (((¬ x31 = 0) ∧ x35 = 0) ∨ ((x31 = 0) ∧ x35 = 1)) → K (.inl (some (vI x35))) e M30))) ∧ (x31 = 0 → im_T g d 450 0 [some (vL b), none] [] e M30 (im_ri (fun x40 e_ M39 => e = e_ ∧ im_T g d 346 0 [some (.ref 6952), some (vI i), some (vI x40), some (vL tm), none, none, none] [] e M39 (im_r0 (fun  e_ M41 => e = e_ ∧ ((∀ x43 : Int, (((¬ x31 = 0) ∧ x43 = 0) ∨ ((x31 = 0) ∧ x43 = 1)) → K (.inl (some (vI x43))) e M41)))))))))) := by
  obtain ⟨_, ⟨q4, q5, q6⟩, q7, _, q11, _⟩ := hQ
  obtain ⟨_, _, r3, _⟩ := hR
  have hk : im_i32 k := by rw [hkb]; exact sml_i b
  refine c_tryBegin h q4 q6 (fun a b => r3 _ a b) (fun z => q11 k z) hi hk htm hd (fun hno => ⟨_, rfl, rfl, by decide, fun _ x hx => ?_, fun z => absurd z (by decide)⟩) (fun hp hT h0 hrk M2 y F2 e2 hs2 hy hl => ⟨_, rfl, rfl, by constructor <;> omega, fun hne x hx => ?_, fun heq => ?_⟩)
  · have hx0 : x = 0 := by omega
    subst hx0
    have E : (beO w 1 i k tm).1 < 0 ∧ (beO w 1 i k tm).2 = w := by
      unfold beO
      by_cases c1 : 0 ≤ i ∧ i < 16 ∧ 0 ≤ k ∧ k < 16
      · rw [if_neg (Decidable.not_not.mpr c1)]
        by_cases c2 : 0 ≤ tm ∧ tm ≤ 1000000000000000
        · rw [if_neg (Decidable.not_not.mpr c2)]
          have c3 : (w.gIn i).1 ≠ 0 ∨ w.gRt k = -1 := by
            by_cases z : (w.gIn i).1 = 0
            · by_cases z2 : w.gRt k = -1
              · exact Or.inr z2
              · exact absurd ⟨c1, c2, z, z2⟩ hno
            · exact Or.inl z
          rw [if_pos c3]; exact ⟨show (-103 : Int) < 0 by decide, rfl⟩
        · rw [if_pos c2]; exact ⟨show (-102 : Int) < 0 by decide, rfl⟩
      · rw [if_pos c1]; exact ⟨show (-101 : Int) < 0 by decide, rfl⟩
    exact hK.no E.1 (fun _ _ => rfl) (by rw [E.2]; exact h)
  · have hx0 : x = 0 := by omega
    subst hx0
    have E : beO w 1 i k tm = (-11, w) := by
      unfold beO
      rw [if_neg (Decidable.not_not.mpr hp), if_neg (Decidable.not_not.mpr hT), if_neg (fun z => z.elim (fun q => q h0) hrk), ifq_pos (hl.mp (by omega))]
    rw [E] at hK
    exact hK.no (show (-11 : Int) < 0 by decide) F2.fr (rFau_scr h F2 e2.2 hs2)
  · have hnl : ¬ lks' w.gRw (w.gRt k) (eN w.gRw w.gM (w.gRt k)) w.gPm := fun z => by have := hl.mpr z; omega
    have E : beO w 1 i k tm = (0, w.sIn (upI w.gIn i (1, w.gRt k, tm, (0, (w.gIn i).2.2.2.1.2), (0, (w.gIn i).2.2.2.2.1.2), (0, (w.gIn i).2.2.2.2.2.1.2), w.gPm))) := by
      unfold beO
      rw [if_neg (Decidable.not_not.mpr hp), if_neg (Decidable.not_not.mpr hT), if_neg (fun z => z.elim (fun q => q h0) hrk), ifq_neg hnl, entO_1, if_neg (fun z => z rfl)]
      dsimp only
      rw [Wd.sjr]
    rw [E] at hK
    have W2 := rFau_scr h F2 e2.2 hs2
    obtain ⟨_, ⟨_, hr2, _⟩, _⟩ := id W2
    refine c_small hb (by omega) ⟨_, rfl, rfl, ?_⟩
    rw [← hkb]
    refine c_doBegin (w := w) (root := w.gRt k) W2 ⟨hp.1, hp.2.1⟩ hp.2.2 ((hr2 k hp.2.2.1 hp.2.2.2).2 hrk).2.1 htm (fun M4 f4 e4 W4 => ⟨rfl, rfl, fun x hx => ?_⟩)
    have hx1 : x = 1 := by omega
    subst hx1
    exact hK.yes (show (0 : Int) ≤ 0 by decide) (fun y hy => (f4 y hy).trans (F2.fr y hy)) W4
theorem c_red5 {pa tk' : Int} (h : RW M w) (hrt : rtx M t n) (hQ : RcQ w) (hR : RcR w) (hpa : im_i64 pa) (htk : im_i64 tk') (hd : 8 ≤ d) (hK : RdK K e M (miO w 1 pa tk' t n)) : im_T g d 422 0 [some (.ref 6952), some (vL pa), none, some (vL tk'), none, none, none, none, none] [] e M (im_ri (fun x68 e_ M67 => e = e_ ∧ (im_i32 x68) ∧ ((¬ x68 = 0 → K (.inl (some (vI 0))) e M67) ∧ (x68 = 0 → im_T g d 424 0 [some (.ref 6952), some (vL pa), none, some (vL tk'), none, none, none] [] e M67 (im_ri (fun x72 e_ M71 => e = e_ ∧ (im_i32 x72) ∧ ((¬ x72 = 0 → K (.inl (some (vI 0))) e M71) ∧ (x72 = 0 → K (.inl (some (vI 1))) e M71)))))))) := by
  obtain ⟨_, ⟨q4, q5, q6⟩, q7, ⟨q8, q9, q10⟩, q11, _⟩ := hQ
  obtain ⟨⟨r1, r2⟩, _⟩ := hR
  refine c_tryMint h hrt q6 q8 q9 (q10 _ _) hpa htk hd (fun hno => ⟨_, rfl, rfl, by decide, fun _ => ?_, fun z => absurd z (by decide)⟩) (fun n1 n2 f hf M3 F3 e3 _ hfa hs3 => ⟨_, rfl, rfl, by decide, fun _ => ?_, fun z => absurd z (by decide)⟩) (fun n1 n2 v hv M3 r F3 e3 e59 hfa hs3 hr hz => ?_)
  · have E : miO w 1 pa tk' t n = (-102, w) := by unfold miO; rw [ifq_pos hno]
    rw [E] at hK
    exact hK.no (show (-102 : Int) < 0 by decide) (fun _ _ => rfl) h
  · have E : miO w 1 pa tk' t n = (-1, (w.sFc f.1).sFp f.2) := by
      unfold miO; rw [ifq_neg (fun z => z.elim (fun q => q n1) (fun q => q n2)), hf]
    rw [E] at hK
    exact hK.no (show (-1 : Int) < 0 by decide) F3.fr (h.scr F3 hfa hs3)
  · obtain ⟨E1, E2, E3⟩ := miO_eq (ag := 1) n1 n2 hv q8 q9 (q10 pa tk')
    have W3 := h.scr F3 hfa hs3
    have hri : im_i32 r := by
      by_cases z : r = 0
      · rw [z]; decide
      · have := (E1 (by rw [← hr]; exact z)).2
        rw [← hr] at this
        constructor <;> omega
    refine ⟨_, rfl, rfl, hri, fun hne => ?_, fun heq => ?_⟩
    · obtain ⟨E, hc⟩ := E1 (by rw [← hr]; exact hne)
      rw [E] at hK
      exact hK.no (show miC w pa tk' v < 0 by omega) F3.fr W3
    · obtain ⟨β, γ, hβ, hγ, E⟩ := E3 (by rw [← hr]; exact heq) (by rw [entO_1])
      rw [entO_1] at E
      dsimp only at E
      rw [Wd.sjf, sWaMi] at E
      rw [E] at hK
      obtain ⟨z1, z2, T, hT, ha, hb⟩ := hz heq
      obtain ⟨b1, b0⟩ := bcre_r q8 hβ
      obtain ⟨c1, c0⟩ := bcre_r q9 hγ
      obtain ⟨W', hW'⟩ : ∃ x, x = (w.sFc 0).sFp (-1) := ⟨_, rfl⟩
      have eW : W'.gWa = w.gWa := by rw [hW']; rfl
      have eM : W'.gMi = w.gMi := by rw [hW']; rfl
      rw [← hW'] at W3 hK
      refine c_doMint (w := W') (ra := M3 6952 149) (rb := M3 6952 150) (T := T) (xa := hld w.gMi tk' 0 + v) (xb := hld w.gWa pa tk' + v) (β := β) (γ := γ) W3 (by rw [eW]; exact r1) (by rw [eM]; exact r2) hpa htk (by rw [eW]; exact z1) (by rw [eW]; exact z2) rfl ha rfl hb hT (by rw [eW]; exact b1) (by rw [eW]; exact b0) (by rw [eM]; exact c1) (by rw [eM]; exact c0) (by omega) (fun M5 f5 e5 W5 => ⟨_, rfl, rfl, by decide, fun z => absurd rfl z, fun _ => hK.yes (show (0 : Int) ≤ 0 by decide) (fun x hx => (f5 x hx).trans (F3.fr x hx)) W5⟩)
theorem c_red6 {i fr to : Int} {J0 : Ip} {ρ ρ' : Rl} {cp : Int} (h : RW M w) (hrt : rtx M t n) (hQ : RcQ w) (hR : RcR w) (hi : im_i32 i) (hfi : im_i64 fr) (hti : im_i64 to) (hd : 20 ≤ d) (hK : RdK K e M (trO w 1 i fr to t n J0 ρ ρ' cp)) : im_T g d 357 0 [some (.ref 6952), some (vI i), some (vL fr), none, some (vL to), none] [] e M (im_ri (fun x79 e_ M78 => e = e_ ∧ (im_i32 x79) ∧ ((¬ x79 = 0 → K (.inl (some (vI 0))) e M78) ∧ (x79 = 0 → im_T g d 413 0 [some (.ref 6952), some (vI i)] [] e M78 (im_ri (fun x83 e_ M82 => e = e_ ∧ (im_i32 x83) ∧ ((¬ x83 = 0 → K (.inl (some (vI 0))) e M82) ∧ (x83 = 0 → K (.inl (some (vI 1))) e M82)))))))) := by
  obtain ⟨_, ⟨q4, q5, q6⟩, q7, ⟨q8, q9, q10⟩, q11, _⟩ := hQ
  obtain ⟨_, r2, _⟩ := hR
  obtain ⟨e0, hir⟩ : ∃ e0, (0 ≤ i ∧ i < 16 → (w.gIn i).1 = 1 → insR w.gRw w.gM e0 (w.gIn i)) := by
    by_cases z : (0 ≤ i ∧ i < 16) ∧ (w.gIn i).1 = 1
    · obtain ⟨e0, he⟩ := r2 i z.1 z.2
      exact ⟨e0, fun _ _ => he⟩
    · exact ⟨0, fun a b => absurd ⟨a, b⟩ z⟩
  refine c_tryTransact (J0 := J0) (ρ := ρ) (ρ' := ρ') (cp := cp) (e0 := e0) h hrt q4 q6 (fun z => q7 i z) hir hi hfi hti hd (fun hno => ⟨_, rfl, rfl, by decide, fun _ => ?_, fun z => absurd z (by decide)⟩) (fun hI hB f hf M3 F3 e3 _ hfa hs3 => ⟨_, rfl, rfl, by decide, fun _ => ?_, fun z => absurd z (by decide)⟩) (fun hI hB J z hJ hr z0 M3 F3 e3 _ hfa hs3 => ?_) (fun hI hB J s hJ hr M3 F3 e3 e59 hfa hs3 C3 q84 q7' O3 V3 => ⟨_, rfl, rfl, by decide, fun z => absurd rfl z, fun _ => ?_⟩)
  · have E : (trO w 1 i fr to t n J0 ρ ρ' cp).1 < 0 ∧ (trO w 1 i fr to t n J0 ρ ρ' cp).2 = w := by
      unfold trO
      by_cases hI : 0 ≤ i ∧ i < 16
      · have c1 : (w.gIn i).1 = 0 := by
          rcases (q7 i hI).1 with z | z
          · exact z
          · exact absurd ⟨hI.1, hI.2, z⟩ hno
        rw [if_neg (Decidable.not_not.mpr hI), if_pos c1]; exact ⟨show (-103 : Int) < 0 by decide, rfl⟩
      · rw [if_pos hI]; exact ⟨show (-101 : Int) < 0 by decide, rfl⟩
    exact hK.no E.1 (fun _ _ => rfl) (by rw [E.2]; exact h)
  · have E : trO w 1 i fr to t n J0 ρ ρ' cp = (-1, (w.sFc f.1).sFp f.2) := by
      unfold trO; rw [if_neg (Decidable.not_not.mpr hI), if_neg (by omega), hf]
    rw [E] at hK
    exact hK.no (show (-1 : Int) < 0 by decide) F3.fr (h.scr F3 hfa hs3)
  · have E : trO w 1 i fr to t n J0 ρ ρ' cp = (z, (w.sFc 0).sFp (-1)) := by
      unfold trO; rw [if_neg (Decidable.not_not.mpr hI), if_neg (by omega), hJ]
      dsimp only
      rw [hr]
    rw [E] at hK
    have hzr := runO_rng hr
    exact ⟨_, rfl, rfl, by constructor <;> omega, fun _ => hK.no (show z < 0 from z0) F3.fr (h.scr F3 hfa hs3), fun zz => by omega⟩
  · have E : trO w 1 i fr to t n J0 ρ ρ' cp = (0, trW ((w.sFc 0).sFp (-1)) i fr s) := by
      unfold trO; rw [if_neg (Decidable.not_not.mpr hI), if_neg (by omega), hJ]
      dsimp only
      rw [hr]
      dsimp only
      rw [entO_1, if_neg (fun z => z rfl)]
      dsimp only
      rw [Wd.sjf]
    rw [E] at hK
    have W3 := h.scr F3 hfa hs3
    have hPS : PSo s.pay := (runO_inv q4 (show OT (trS (w.gIn i) w.gWa ρ ρ' cp) from ⟨((q7 i hI).2 hB).1, ((q7 i hI).2 hB).2.1, ((q7 i hI).2 hB).2.2.1, ((q7 i hI).2 hB).2.2.2.1⟩) (show VN w.gRw w.gM (trS (w.gIn i) w.gWa ρ ρ' cp) from ((q7 i hI).2 hB).2.2.2.2.1) hr).2.2
    refine c_doTransact (w := (w.sFc 0).sFp (-1)) (fr := fr) W3 hI C3 q84 rfl q7' hPS (by omega) (fun M5 f5 e5 W5 => ⟨_, rfl, rfl, by decide, fun z => absurd rfl z, fun _ => hK.yes (show (0 : Int) ≤ 0 by decide) (fun x hx => (f5 x hx).trans (F3.fr x hx)) W5⟩)
theorem c_red7 {nm : Int} (h : RW M w) (hrt : rtx M t n) (hQ : RcQ w) (hnm : im_i64 nm) (hd : 8 ≤ d) (hK : RdK K e M (paO w 1 nm t n)) : im_T g d 334 0 [some (.ref 6952), some (vL nm), none] [] e M (im_ri (fun x90 e_ M89 => e = e_ ∧ (im_i32 x90) ∧ ((¬ x90 = 0 → K (.inl (some (vI 0))) e M89) ∧ (x90 = 0 → im_T g d 338 0 [some (.ref 6952), some (vL nm), none, none, none] [] e M89 (im_ri (fun x94 e_ M93 => e = e_ ∧ (im_i32 x94) ∧ ((x94 ≤ 0 → K (.inl (some (vI 0))) e M93) ∧ (0 < x94 → K (.inl (some (vI 1))) e M93)))))))) := by
  obtain ⟨_, ⟨q4, q5, q6⟩, q7, _⟩ := hQ
  refine c_tryParameter h hrt q6 hnm hd (fun hno => ⟨_, rfl, rfl, by decide, fun _ => ?_, fun z => absurd z (by decide)⟩) (fun hN f hf M3 F3 e3 _ hfa hs3 => ⟨_, rfl, rfl, by decide, fun _ => ?_, fun z => absurd z (by decide)⟩) (fun hN v hv M3 F3 e3 e59 hfa hs3 hnum => ⟨_, rfl, rfl, by split <;> decide, fun hne => ?_, fun heq => ?_⟩)
  · have E : paO w 1 nm t n = (-102, w) := by unfold paO; rw [ifq_pos hno]
    rw [E] at hK
    exact hK.no (show (-102 : Int) < 0 by decide) (fun _ _ => rfl) h
  · have E : paO w 1 nm t n = (-1, (w.sFc f.1).sFp f.2) := by
      unfold paO; rw [ifq_neg (Classical.not_not.mpr hN), hf]
    rw [E] at hK
    exact hK.no (show (-1 : Int) < 0 by decide) F3.fr (h.scr F3 hfa hs3)
  · have h4 : ¬ hs2 w.gPm nm 0 ∧ 20 ≤ w.gPm.1 := by
      by_cases z : ¬ hs2 w.gPm nm 0 ∧ 20 ≤ w.gPm.1
      · exact z
      · rw [if_neg z] at hne; exact absurd rfl hne
    have E : paO w 1 nm t n = (-9, (w.sFc 0).sFp (-1)) := by
      unfold paO; rw [ifq_neg (Classical.not_not.mpr hN), hv]
      dsimp only
      rw [if_pos h4]
    rw [E] at hK
    exact hK.no (show (-9 : Int) < 0 by decide) F3.fr (h.scr F3 hfa hs3)
  · have h4 : ¬ (¬ hs2 w.gPm nm 0 ∧ 20 ≤ w.gPm.1) := by
      intro z
      rw [if_pos z] at heq; exact absurd heq (by decide)
    have W3 := h.scr F3 hfa hs3
    obtain ⟨T, hT, hrn⟩ := hnum
    cases hb : bput w.gPm 20 nm 0 v with
    | none =>
      exfalso
      unfold bput at hb
      by_cases c1 : hs2 w.gPm nm 0
      · rw [if_pos c1] at hb; cases hb
      · rw [if_neg c1] at hb
        by_cases c2 : w.gPm.1 < 20
        · rw [if_pos c2] at hb; cases hb
        · exact h4 ⟨c1, by omega⟩
    | some β =>
      have E : paO w 1 nm t n = ((β.1 : Int), ((w.sFc 0).sFp (-1)).sPm β) := by
        unfold paO; rw [ifq_neg (Classical.not_not.mpr hN), hv]
        dsimp only
        rw [if_neg h4, entO_1, if_neg (fun z => z rfl), hb]
        dsimp only
        rw [Wd.sjf]
      rw [E] at hK
      have hb1 := bput_1 hb
      obtain ⟨W', hW'⟩ : ∃ x, x = (w.sFc 0).sFp (-1) := ⟨_, rfl⟩
      have eP : W'.gPm = w.gPm := by rw [hW']; rfl
      rw [← hW'] at W3 hK
      refine c_doParameter (w := W') (r := M3 6952 65) (T := T) (v := v) (β := β) W3 hnm rfl hrn hT (by rw [eP]; exact hb) (by omega) (fun M5 f5 e5 W5 => ⟨_, rfl, rfl, ?_, fun z => by omega, fun _ => hK.yes (show (0 : Int) ≤ (β.1 : Int) by omega) (fun x hx => (f5 x hx).trans (F3.fr x hx)) W5⟩)
      have := W5.2.2.1.1.2.1
      have this : β.1 ≤ 20 := this
      constructor <;> omega
theorem c_red8 (h : RW M w) (hK : RdK K e M (fgO w 1)) : K (.inl (some (vI 1))) e (im_u M 6952 62 0) := by
  obtain ⟨_, _, ⟨b1, _, _⟩, _⟩ := id h
  have E : fgO w 1 = ((w.gPm.1 : Int), w.sPm (0, w.gPm.2)) := by
    unfold fgO; rw [entO_1, if_neg (fun z => z rfl)]
    dsimp only
    rw [Wd.sjr]
  rw [E] at hK
  have W3 := h.pm (M' := im_u M 6952 62 0) (β := (0, w.gPm.2)) (fun x a b => im_u_ne _ _ _ a) (fun k hk => im_rdk _ _ _ hk) ⟨im_rds _ _ _ _, Nat.zero_le _, b1.2.2.1, fun k hk => absurd hk (Nat.not_lt_zero k)⟩
  exact hK.yes (show (0 : Int) ≤ (w.gPm.1 : Int) by omega) (fun x hx => im_u_ne _ _ _ (by omega)) W3
theorem c_redo {σ : Sg} {k a b c : Int} (h : RW M w) (hrt : rtx M t n) (hQ : RcQ w) (hR : RcR w) (hk : im_i32 k) (ha : im_i64 a) (hb : im_i64 b) (hc : im_i64 c) (hd : 21 ≤ d) (hK : RdK K e M (redoO σ w k a b c t n)) : im_T g d 449 0 [some (.ref 6952), some (vI k), some (vL a), none, some (vL b), none, some (vL c), none, none, none] [] e M K := by
  have sc := sml_c a
  have hsi := sml_i a
  refine b_redo_0 (by omega) (c_small ha (by omega) ⟨_, rfl, rfl, hk, fun z => ?_, fun z => ?_, fun z => ?_, fun z => ?_, fun z => ?_, fun z => ?_, fun z => ?_, fun z => ?_⟩)
  · have E : redoO σ w k a b c t n = keO w 1 (sml a) t n σ.1 := by unfold redoO; rw [if_pos z, keO_s]
    rw [E] at hK
    exact c_red1 h hrt hQ hR hsi (by omega) hK
  · have E : redoO σ w k a b c t n = drO w 1 (sml a) := by unfold redoO; rw [if_neg (by omega), if_pos z, drO_s]
    rw [E] at hK
    exact c_red2 h (by omega) hK
  · have E : redoO σ w k a b c t n = beO w 1 (sml a) (sml b) c := by unfold redoO; rw [if_neg (by omega), if_neg (by omega), if_pos z, beO_s]
    rw [E] at hK
    exact c_small hb (by omega) ⟨_, rfl, rfl, c_red3 h hQ hR hsi hb rfl hc (by omega) hK⟩
  · have E : redoO σ w k a b c t n = enO w 1 (sml a) := by unfold redoO; rw [if_neg (by omega), if_neg (by omega), if_neg (by omega), if_pos z, enO_s]
    rw [E] at hK
    exact c_red4 h hQ (by omega) (by omega) hK
  · have E : redoO σ w k a b c t n = miO w 1 a b t n := by unfold redoO; rw [if_neg (by omega), if_neg (by omega), if_neg (by omega), if_neg (by omega), if_pos z]
    rw [E] at hK
    exact c_red5 h hrt hQ hR ha hb (by omega) hK
  · have E : redoO σ w k a b c t n = trO w 1 (sml a) b c t n σ.2.1 σ.2.2.1 σ.2.2.2.1 σ.2.2.2.2 := by unfold redoO; rw [if_neg (by omega), if_neg (by omega), if_neg (by omega), if_neg (by omega), if_neg (by omega), if_pos z, trO_s]
    rw [E] at hK
    exact c_red6 h hrt hQ hR hsi hb hc (by omega) hK
  · have E : redoO σ w k a b c t n = paO w 1 a t n := by unfold redoO; rw [if_neg (by omega), if_neg (by omega), if_neg (by omega), if_neg (by omega), if_neg (by omega), if_neg (by omega), if_pos z]
    rw [E] at hK
    exact c_red7 h hrt hQ ha (by omega) hK
  · have E : redoO σ w k a b c t n = fgO w 1 := by unfold redoO; rw [if_neg (by omega), if_neg (by omega), if_neg (by omega), if_neg (by omega), if_neg (by omega), if_neg (by omega), if_neg (by omega)]
    rw [E] at hK
    exact c_red8 h hK
end RREDO2
