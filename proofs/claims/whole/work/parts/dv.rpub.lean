/-! THE REFERENCE calls that are written -/
theorem RW.tape {M M' : im_M} {w : Wd} {t : Int → Int} {n : Int} (h : RW M w) (hs : ∀ x, x ≠ 6952 → x ≠ 6959 → M' x = M x) (hf : ∀ k, k ≠ 2 ∧ k ≠ 13 → M' 6952 k = M 6952 k) (h2 : rTape M' t n) : RW M' ((w.sTp t).sTn n) := by
  obtain ⟨⟨⟨t1, t2, t3⟩, ⟨o1, o2, o3⟩, ⟨f1, f2⟩⟩, ⟨⟨p1, p2, p3, p4⟩, r, i⟩, ⟨b1, b2, b3⟩, ⟨s1, s2⟩, md, ⟨j0, j1, j2, j3, j4⟩, ⟨c1, c2, c3, c4⟩⟩ := h
  exact ⟨⟨h2, ⟨(hf 4 (by omega)).trans o1, fun k k0 k1 => by rw [hs 6954 (by omega) (by omega)]; exact o2 k k0 k1, o3⟩, ⟨(hf 19 (by omega)).trans f1, (hf 20 (by omega)).trans f2⟩⟩, ⟨⟨RP_congr p1 (hf 6 (by omega)) (hf 36 (by omega)) (fun x _ _ => hs x (by omega) (by omega)) (fun i _ => by rw [hs 6955 (by omega) (by omega)]), (hf 38 (by omega)).trans p2, by rw [hf 6 (by omega)]; exact p3, by rw [hf 36 (by omega)]; exact p4⟩, (by unfold rRoots; rw [hs 6984 (by omega) (by omega), hs 6985 (by omega) (by omega), hs 6986 (by omega) (by omega)]; exact r), (fun k k0 k1 => rIn1_congr (i k k0 k1) (fun x _ _ => hs x (by omega) (by omega)))⟩, ⟨rPm_congr b1 (hf 62 (by omega)) (hs _ (by omega) (by omega)) (hs _ (by omega) (by omega)), swl_congr b2 (hf 130 (by omega)) (hs _ (by omega) (by omega)) (hs _ (by omega) (by omega)) (hs _ (by omega) (by omega)), rMi_congr b3 (hf 134 (by omega)) (hs _ (by omega) (by omega)) (hs _ (by omega) (by omega))⟩, ⟨sr5_congr s1 (hf 137 (by omega)) (hs _ (by omega) (by omega)) (hs _ (by omega) (by omega)) (hs _ (by omega) (by omega)) (hs _ (by omega) (by omega)) (hs _ (by omega) (by omega)), sr5_congr s2 (hf 143 (by omega)) (hs _ (by omega) (by omega)) (hs _ (by omega) (by omega)) (hs _ (by omega) (by omega)) (hs _ (by omega) (by omega)) (hs _ (by omega) (by omega))⟩, (hf 175 (by omega)).trans md, ⟨fun x x0 x1 => by rw [hs 7080 (by omega) (by omega)]; exact j0 x x0 x1, (hf 177 (by omega)).trans j1, (hf 178 (by omega)).trans j2, (hf 179 (by omega)).trans j3, (hf 180 (by omega)).trans j4⟩, ⟨by rw [hf 8 (by omega)]; exact c1, by rw [hf 116 (by omega)]; exact c2, by rw [hf 99 (by omega)]; exact c3, by rw [hf 100 (by omega)]; exact c4⟩⟩
section RPUB
variable {g : im_g} {d : Nat} {e : im_E} {M : im_M} {K : im_K} {w : Wd}
/-- the thrown code of a call whose place is checked first: 1 place, 2 state -/
def tc12 (r : Int) : Int := if r = -103 then 2 else if r = -101 then 1 else 0
theorem RW.tkn {M' : im_M} (h : RW M w) (hs : ∀ x, x ≠ 6952 → x ≠ 6959 → M' x = M x) (hf : ∀ k, k ≠ 2 → k ≠ 13 → M' 6952 k = M 6952 k) (h2 : M' 6952 2 = 0) : RW M' w.tk := h.tape hs (fun k hk => hf k hk.1 hk.2) ⟨h2, fun i a b => by omega, by omega, by omega⟩
theorem c_R_transact {i fr to e0 : Int} {J0 : Ip} {ρ ρ' : Rl} {cp : Int} (h : RW M w) (hJo : jOk w.gJr) (hW : WFP w.gRw w.gM) (hde : w.gDe ≤ 16384) (hio : 0 ≤ i ∧ i < 16 → insOk w.gRw w.gM w.gWa (w.gIn i)) (hir : 0 ≤ i ∧ i < 16 → (w.gIn i).1 = 1 → insR w.gRw w.gM e0 (w.gIn i)) (hi : im_i32 i) (hfi : im_i64 fr) (hti : im_i64 to) (hd : 22 ≤ d)
    (hKd : w.gJr.2.2.2.2 ≠ 0 → ∀ M', (∀ x, x < 6952 ∨ 7080 < x → M' x = M x) → RW M' w → M' 6952 0 = 2 → K (.inl (some (vI 0))) e M')
    (hK : w.gJr.2.2.2.2 = 0 → ∀ M' v, (∀ x, x < 6952 ∨ 7080 < x → M' x = M x) → RW M' (trO w.tk 0 i fr to w.gTp w.gTn J0 ρ ρ' cp).2 → M' 6952 0 = tc12 (trO w.tk 0 i fr to w.gTp w.gTn J0 ρ ρ' cp).1 → (tc12 (trO w.tk 0 i fr to w.gTp w.gTn J0 ρ ρ' cp).1 = 0 → v = (trO w.tk 0 i fr to w.gTp w.gTn J0 ρ ρ' cp).1) → K (.inl (some (vI v))) e M') :
    im_T g d 356 0 [some (.ref 6952), some (vI i), some (vL fr), none, some (vL to), none, none] [] e M K := by
  obtain ⟨⟨ht, _, _⟩, ⟨_, _, hin⟩, _, _, _, ⟨_, _, _, _, j4⟩, hsc⟩ := id h
  have cdf : ∀ (N : im_M) (x : Int), (∀ y, y ≠ 6952 → True → im_u N 6952 0 x y = N y) ∧ (∀ k, k ≠ 0 → im_u N 6952 0 x 6952 k = N 6952 k) := fun N x => ⟨fun y a _ => im_u_ne _ _ _ a, fun k hk => im_rdk _ _ _ hk⟩
  refine b_transact_0 (by omega) ?_
  rw [j4]
  refine ⟨fun hz => ?_, fun hz => hKd hz _ (fun x hx => im_u_ne _ _ _ (by omega)) (h.cd (cdf M 2).1 (cdf M 2).2) (im_rds _ _ _ _)⟩
  have hK := hK hz
  refine c_takeTapeR ht (fun M1 a1 a2 a3 r1 => ⟨rfl, rfl, hi, ?_⟩)
  have W1 := h.tkn a1 a2 a3
  have f1 : ∀ x, x < 6952 ∨ 7080 < x → M1 x = M x := fun x hx => a1 x (by omega) (by omega)
  have d1 : M1 6952 180 = 0 := by rw [a2 180 (by decide) (by decide), j4]; exact hz
  unfold trO at hK
  have fin : ∀ (x6 x8 : Int), (x6 = 0 ∨ x6 = 1) → (x8 = 0 ∨ x8 = 1) → (x6 = 1 ↔ 0 ≤ i ∧ i < 16) → (x8 = 1 ↔ (0 ≤ i ∧ i < 16 ∧ (w.gIn i).1 = 1)) → im_T g (d - 1) 264 0 [some (.ref 6952), some (vI 2), some (vI x6), some (vI x8), some (vI 1)] [] e M1 (im_ri (fun x10 e_ M9 => e = e_ ∧ (im_i32 x10) ∧ ((¬ x10 = 0 → im_T g (d - 1) 357 0 [some (.ref 6952), some (vI i), some (vL fr), none, some (vL to), none] [] e M9 (im_ri (fun x14 e_ M13 => e = e_ ∧ (im_i32 x14) ∧ ((¬ x14 = 0 → ((¬ x14 = (-100) → ((0 ≤ x14 → im_T g (d - 1) 413 0 [some (.ref 6952), some (vI i)] [] e M13 (im_ri (fun x20 e_ M19 => e = e_ ∧ K (.inl (some (vI x20))) e M19))) ∧ (x14 < 0 → K (.inl (some (vI x14))) e M13))) ∧ (x14 = (-100) → K (.inl (some (vI 0))) e (im_u M13 6952 0 2)))) ∧ (x14 = 0 → im_T g (d - 1) 307 0 [some (.ref 6952), some (vI 6), some (vI 3), some (vL i), none, some (vL fr), none, some (vL to), none, some (vI 1), none, none, none, none] [] e M13 (im_ri (fun x23 e_ M22 => e = e_ ∧ (im_i32 x23) ∧ ((¬ x23 = (-100) → ((0 ≤ x23 → im_T g (d - 1) 413 0 [some (.ref 6952), some (vI i)] [] e M22 (im_ri (fun x28 e_ M27 => e = e_ ∧ K (.inl (some (vI x28))) e M27))) ∧ (x23 < 0 → K (.inl (some (vI x23))) e M22))) ∧ (x23 = (-100) → K (.inl (some (vI 0))) e (im_u M22 6952 0 2)))))))))) ∧ (x10 = 0 → K (.inl (some (vI 0))) e M9)))) := by
    intro x6 x8 h6 h8 e6 e8
    refine c_may (by decide) h6 h8 (Or.inr rfl) (fun x hx => ⟨_, rfl, rfl, by split <;> decide, fun hne => ?_, fun heq => ?_⟩)
    · have hx0 : x = 0 := by
        by_cases z : x = 0
        · exact z
        · rw [if_neg z] at hne; exact absurd rfl hne
      rw [d1, if_neg (by decide)] at hx
      have hI : 0 ≤ i ∧ i < 16 := e6.mp (by rcases h6 with z | z; rw [if_pos z] at hx; omega; exact z)
      have hB : (w.gIn i).1 = 1 := (e8.mp (by rcases h8 with z | z; rw [if_neg (by have := e6.mpr hI; omega), if_pos z] at hx; omega; exact z)).2.2
      have W2 : RW (im_u M1 6952 0 x) w.tk := W1.cd (cdf M1 x).1 (cdf M1 x).2
      rw [if_neg (Decidable.not_not.mpr hI), if_neg (show ¬ (w.tk.gIn i).1 = 0 from fun z => by have z : (w.gIn i).1 = 0 := z; omega)] at hK
      have r2 : rtx (im_u M1 6952 0 x) w.gTp w.gTn := r1.tx (im_rdk _ _ _ (by decide)) (im_u_ne _ _ _ (by decide))
      have hc0 : im_u M1 6952 0 x 6952 0 = 0 := by rw [im_rds]; exact hx0
      have f2 : ∀ x', x' < 6952 ∨ 7080 < x' → im_u M1 6952 0 x x' = M x' := fun x' hx' => by rw [im_u_ne _ _ _ (by omega)]; exact f1 x' hx'
      generalize im_u M1 6952 0 x = M2 at W2 r2 hc0 f2
      have rs : ∀ M3, RSF M2 M3 → ∀ x', x' < 6952 ∨ 7080 < x' → M3 x' = M x' := fun M3 F x' hx' => (F.1 x' (by omega) (by omega) (by omega) (by omega) (by omega)).trans (f2 x' hx')
      have hdr : w.tk.gJr.2.2.2.2 = 0 := hz
      refine c_tryTransact (w := w.tk) (t := w.gTp) (n := w.gTn) (J0 := J0) (ρ := ρ) (ρ' := ρ') (cp := cp) (e0 := e0) W2 r2 hW hde hio hir hi hfi hti (by omega) (fun hno => absurd ⟨hI.1, hI.2, hB⟩ hno) (fun _ _ f hf M3 F3 e3 _ hfa hs3 => ⟨_, rfl, rfl, by decide, fun _ => ⟨fun _ => ⟨fun z => absurd z (by decide), fun _ => ?_⟩, fun z => absurd z (by decide)⟩, fun z => absurd z (by decide)⟩) (fun _ _ J z hJ hr z0 M3 F3 e3 _ hfa hs3 => ⟨_, rfl, rfl, ?_, ?_⟩) (fun _ _ J s hJ hr M3 F3 e3 e59 hfa hs3 C3 q84 q7 O3 V3 => ⟨_, rfl, rfl, by decide, fun z => absurd rfl z, fun _ => ?_⟩)
      · rw [hf] at hK
        exact hK M3 (-1) (rs M3 F3) (W2.scr F3 hfa hs3) (by rw [e3.2, hc0]; rfl) (fun _ => rfl)
      · have hzr := runO_rng hr
        constructor <;> omega
      · have hzr := runO_rng hr
        rw [hJ] at hK
        dsimp only at hK
        rw [hr] at hK
        dsimp only at hK
        have htc : tc12 z = 0 := by unfold tc12; rw [if_neg (by omega), if_neg (by omega)]
        exact ⟨fun _ => ⟨fun _ => ⟨fun w0 => by omega, fun _ => hK M3 z (rs M3 F3) (W2.scr F3 hfa hs3) (by rw [e3.2, hc0, htc]) (fun _ => rfl)⟩, fun w0 => by omega⟩, fun w0 => by omega⟩
      · rw [hJ] at hK
        dsimp only at hK
        rw [hr] at hK
        dsimp only at hK
        have W3 := W2.scr F3 hfa hs3
        obtain ⟨_, _, _, _, _, j3, _⟩ := id W3
        have r3 : rtx M3 w.gTp w.gTn := r2.tx e3.1 e59
        have hPS : PSo s.pay := (runO_inv hW (show OT (trS (w.gIn i) w.gWa ρ ρ' cp) from ⟨((hio hI).2 hB).1, ((hio hI).2 hB).2.1, ((hio hI).2 hB).2.2.1, ((hio hI).2 hB).2.2.2.1⟩) (show VN w.gRw w.gM (trS (w.gIn i) w.gWa ρ ρ' cp) from ((hio hI).2 hB).2.2.2.2.1) hr).2.2
        have he : entO 0 w.tk.gJr 6 3 i fr to w.gTp w.gTn = jwO w.gJr 6 3 i fr to w.gTp w.gTn := if_pos rfl
        have ei := entO_i (ag := 0) (J := w.tk.gJr) (kd := 6) (many := 3) (a := i) (b := fr) (c := to) (t := w.gTp) (n := w.gTn)
        rw [he] at hK ei
        refine c_rwr (J := w.gJr) (t := w.gTp) (n := w.gTn) (kd := 6) (many := 3) j3 hJo hz (by decide) (by decide) (Or.inr ⟨rfl, r3.1.symm⟩) ⟨r3.2.1, r3.2.2.1⟩ r3.2.2.2 (by constructor <;> omega) hfi hti (by omega) (fun M4 g1 g2 j5 => ⟨_, rfl, rfl, ?_, ?_⟩)
        · split
          · decide
          · constructor <;> omega
        · have W4 := W3.jr (fun x a b => g1 x a b) g2 j5
          have f4 : ∀ x', x' < 6952 ∨ 7080 < x' → M4 x' = M x' := fun x' hx' => (g1 x' (by omega) (by omega)).trans (rs M3 F3 x' hx')
          have hc4 : M4 6952 0 = 0 := by rw [g2 0 (by decide), e3.2]; exact hc0
          by_cases hne : (jwO w.gJr 6 3 i fr to w.gTp w.gTn).1 = 0
          · rw [if_neg (Decidable.not_not.mpr hne)] at hK
            rw [if_neg (by omega), hne]
            refine ⟨fun _ => ⟨fun _ => ?_, fun z => absurd z (by decide)⟩, fun z => absurd z (by decide)⟩
            refine c_doTransact (w := ((w.tk.sFc 0).sFp (-1)).sJr (jwO w.gJr 6 3 i fr to w.gTp w.gTn).2) (fr := fr) W4 hI (C3.jr g1 g2) ((g2 84 (by decide)).trans q84) rfl (by rw [g2 7 (by decide)]; exact q7) hPS (by omega) (fun M5 f5 e5 W5 => ⟨_, rfl, rfl, hK M5 0 (fun x hx => (f5 x hx).trans (f4 x hx)) W5 (by rw [e5, hc4]; rfl) (fun _ => rfl)⟩)
          · rw [if_pos hne] at hK
            by_cases h103 : (jwO w.gJr 6 3 i fr to w.gTp w.gTn).1 = -103
            · rw [if_pos h103]
              refine ⟨fun z => absurd rfl z, fun _ => hK _ 0 (fun x hx => by rw [im_u_ne _ _ _ (by omega)]; exact f4 x hx) (W4.cd (cdf M4 2).1 (cdf M4 2).2) (by rw [im_rds, h103]; rfl) (fun z => ?_)⟩
              rw [h103] at z; exact absurd z (by decide)
            · rw [if_neg h103]
              have h10 : (jwO w.gJr 6 3 i fr to w.gTp w.gTn).1 = -10 := by omega
              refine ⟨fun _ => ⟨fun z => by omega, fun _ => hK M4 _ f4 W4 (by rw [hc4, h10]; rfl) (fun _ => rfl)⟩, fun z => by omega⟩
    · have hx0 : x ≠ 0 := by
        intro z
        rw [if_pos z] at heq; exact absurd heq (by decide)
      rw [d1, if_neg (by decide)] at hx
      have W2 : RW (im_u M1 6952 0 x) w.tk := W1.cd (cdf M1 x).1 (cdf M1 x).2
      have f2 : ∀ x', x' < 6952 ∨ 7080 < x' → im_u M1 6952 0 x x' = M x' := fun x' hx' => by rw [im_u_ne _ _ _ (by omega)]; exact f1 x' hx'
      by_cases hI : 0 ≤ i ∧ i < 16
      · have h6' := e6.mpr hI
        have hB : (w.gIn i).1 = 0 := by
          have := (hio hI).1
          rcases this with z | z
          · exact z
          · have := e8.mpr ⟨hI.1, hI.2, z⟩
            rw [if_neg (by omega), if_neg (by omega), if_neg (by decide)] at hx
            exact absurd hx hx0
        have hB' : (w.tk.gIn i).1 = 0 := hB
        rw [if_neg (Decidable.not_not.mpr hI), if_pos hB'] at hK
        have h8' : x8 = 0 := by
          rcases h8 with z | z
          · exact z
          · have := (e8.mp z).2.2; omega
        rw [if_neg (by omega), if_pos h8'] at hx
        exact hK _ 0 f2 W2 (by rw [im_rds, hx]; rfl) (fun z => absurd z (show tc12 (-103) ≠ 0 by decide))
      · rw [if_pos hI] at hK
        have h6' : x6 = 0 := by
          rcases h6 with z | z
          · exact z
          · exact absurd (e6.mp z) hI
        rw [if_pos h6'] at hx
        exact hK _ 0 f2 W2 (by rw [im_rds, hx]; rfl) (fun z => absurd z (show tc12 (-101) ≠ 0 by decide))
  refine c_isIn (by constructor <;> omega) (by decide) (by decide) (fun hI => ⟨_, rfl, rfl, ?_⟩) (fun hI => ⟨_, rfl, rfl, ?_⟩)
  · refine c_isBegun W1 hi (fun z => (hio z).1) (by omega) (fun hI' hB => ⟨_, rfl, rfl, fin 1 1 (Or.inr rfl) (Or.inr rfl) ⟨fun _ => by omega, fun _ => rfl⟩ ⟨fun _ => ⟨hI'.1, hI'.2, hB⟩, fun _ => rfl⟩⟩) (fun hno => ⟨_, rfl, rfl, fin 1 0 (Or.inr rfl) (Or.inl rfl) ⟨fun _ => by omega, fun _ => rfl⟩ ⟨fun z => absurd z (by decide), fun z => absurd z hno⟩⟩)
  · refine c_isBegun W1 hi (fun z => (hio z).1) (by omega) (fun hI' hB => absurd hI' (by omega)) (fun hno => ⟨_, rfl, rfl, fin 0 0 (Or.inl rfl) (Or.inl rfl) ⟨fun z => absurd z (by decide), fun z => by omega⟩ ⟨fun z => absurd z (by decide), fun z => absurd z hno⟩⟩)
end RPUB
