theorem warnO_nd (s : TS) (y t a b c v : Int) : warnO (s.sNd y) t a b c v = (match warnO s t a b c v with | .inl k => .inl k | .inr s2 => .inr (s2.sNd y)) := by
  unfold warnO
  by_cases h : s.wrn.1 < 60
  · rw [if_pos h, if_pos (show (s.sNd y).wrn.1 < 60 from h)]; rfl
  · rw [if_neg h, if_neg (show ¬ (s.sNd y).wrn.1 < 60 from h)]
/-- the contract behind a case -/
theorem EB.k17 {R : Rw} {m e0 n : Int} (h : EB R m e0 n) (hW : WFP R m) (n0 : 0 ≤ n) (n1 : n < m) (hk : R 0 n = 28 ∨ R 0 n = 29 ∨ R 0 n = 30) : EB R m e0 (R 17 n) := by
  obtain ⟨⟨g1, g2⟩, g3, g4, g5, g6⟩ := kids_k (hW.2.2 n n0 n1).1 hk
  refine h.kid g3 g4 (fun j a b => ?_)
  by_cases h29 : R 0 n = 29
  · have := g2 h29
    have : j = R 17 n := by omega
    rw [this]; omega
  · obtain ⟨b1, b2, b3, ⟨b4, b5, b6⟩, _⟩ := g1 h29
    by_cases c : j = n + 1
    · rw [c]; omega
    · by_cases c2 : j = R 17 n
      · rw [c2]; omega
      · have := b5 j (by omega) (by omega); omega
section RAPPLY
variable {g : im_g} {d : Nat} {e : im_E} {K : im_K} {R : Rw} {m : Int} {giv : Bk} {st en lk : Int} {s : TS}
/-- a refused transaction looks at no more cases -/
theorem c_refd {M : im_M} {i l : Int} (hl : im_i32 l) (h : M 6952 101 < 0) (hd : 1 ≤ d) (hK : K (.inl none) e M) : im_T g d 408 27 [some (.ref 6952), some (vI i), some (vI l)] [] e M K :=
  b_apply_27 hd ⟨hl, fun _ z => by omega, fun _ => ⟨⟨fun z => by omega, fun _ => hK⟩, fun z => by omega⟩⟩
theorem l_rapply {i t a b c v T e0 P : Int} (hW : WFP R m) (hd : 13 ≤ d) {M0 : im_M} {q0 : Int} (hO : OT s) (n0 : 0 ≤ s.nd) (hE : EB R m e0 s.nd) (hP' : P ≤ 1100000) (hP : M0 6952 7 + 700 * (e0 - s.nd) + 400 * s.acc.1 ≤ P) (hI0 : IR M0 i t a b c v T) (hT : T ≤ M0 6952 7) (h36 : M0 6952 36 ≤ 20400) :
    ∀ (cs : List Int) (p l : Int) (f : Nat) (M : im_M), chc R m s.nd p l cs q0 → s.nd ≤ p → (∀ j, s.nd < j → j ≤ p → R 1 s.nd < R 1 j) → cs.length < f → RT M R m giv st en lk s → WX M0 M → M 6952 7 = M0 6952 7 →
    (∀ s', appC R giv st en lk s t a b c v f l = .inr s' → ∀ M', RX M0 M' → RT M' R m giv st en lk s' → OT s' → VN R m s' → EB R m e0 s'.nd → M' 6952 7 + 700 * (e0 - s'.nd) + 400 * s'.acc.1 ≤ P → K (.inl none) e M') →
    (∀ z, appC R giv st en lk s t a b c v f l = .inl z → z < 0 → ∀ M', RZ M0 M' R m giv lk z → K (.inl none) e M') →
    im_T g d 408 27 [some (.ref 6952), some (vI i), some (vI l)] [] e M K := by
  have hm := hW.2.1
  intro cs
  induction cs with
  | nil =>
    intro p l f M hch hp hdp hf hC hX h7 hKs hKe
    have hl : l = -1 := hch.2
    subst hl
    have hap : appC R giv st en lk s t a b c v f (-1) = .inl (-5) := by
      cases f with
      | zero => rfl
      | succ f => rw [appC, if_pos rfl]
    have h101 := hC.2.2.2.1.2.1
    refine b_apply_27 (by omega) ⟨by decide, fun z => absurd rfl z, fun _ => ⟨⟨fun _ => ⟨fun z => absurd rfl z, fun _ => ?_⟩, fun z => by omega⟩, fun z => by omega⟩⟩
    exact c_refuse h101 (by decide) ⟨rfl, rfl, hKe (-5) hap (by decide) _ (hC.rz (RX.wx hX) (-5))⟩
  | cons cc cs ih =>
    intro p l f M hch hp hdp hf hC hX h7 hKs hKe
    have hll : (cc :: cs).length = cs.length + 1 := rfl
    obtain ⟨a1, a2, a3, a4, a5, a6⟩ := hch
    subst a1
    have hlt := nxt_lt a2
    have cn0 : 0 ≤ l := by omega
    have h31 := (hW.2.2 l cn0 a5).1.1.2
    have hkk : R 0 l = 28 ∨ R 0 l = 29 ∨ R 0 l = 30 := by omega
    have hdl := nxt_deep a2 a4 hdp
    have El : EB R m e0 l := hE.kid hlt.1 a5 hdl
    have E17 := El.k17 hW cn0 a5 hkk
    obtain ⟨⟨g1, g2⟩, g3, g4, g5, g6⟩ := kids_k (hW.2.2 l cn0 a5).1 hkk
    have g28 : R 0 l = 28 → l + 2 ≤ R 17 l := fun z => by
      obtain ⟨_, _, _, b4, _⟩ := g1 (by omega)
      have := b4.1
      omega
    clear g1 g2
    have hbg : 0 ≤ R 0 (R 17 l) ∧ R 0 (R 17 l) ≤ 5 := by unfold bgn at g6; omega
    clear g6 a3 h31
    have h101 := hC.2.2.2.1.2.1
    have hlE := El.lt
    have hlE17 := E17.lt
    have h19 : im_i32 (R 19 l) := by
      cases cs with
      | nil => rw [a6.2]; decide
      | cons b cs =>
        obtain ⟨w1, w2, _, _, w5, _⟩ := a6
        have := nxt_lt w2
        rw [w1]; constructor <;> omega
    cases f with
    | zero => omega
    | succ f =>
      have happ : appC R giv st en lk s t a b c v (f + 1) l = (if nmd R l t a b c then (match tkn' R (s.env giv st en) l t v with
        | none => Sum.inl (-8)
        | some true => takeO lk (s.sNd (R 17 l)) t a b c v
        | some false => appC R giv st en lk s t a b c v f (R 19 l)) else appC R giv st en lk s t a b c v f (R 19 l)) := by
        rw [appC, if_neg (by omega)]
        rfl
      rw [happ] at hKs hKe
      have hI := hI0.rx (RX.wx hX) hT
      have e36 : M 6952 36 ≤ 20400 := by rw [hX.2.1 36 (by decide) (by decide) (by decide) (by decide)]; exact h36
      refine im_rng (j := l) sf_6961 cn0 (by show l < 5100; omega) (fun ra => im_rng (j := l) sf_6962 cn0 (by show l < 5100; omega) (fun rb => im_rng (j := l) sf_6963 cn0 (by show l < 5100; omega) (fun rc => ?_)))
      have ra : im_i64 (M 6961 l) := ra
      have rb : im_i64 (M 6962 l) := rb
      have rc : im_i64 (M 6963 l) := rc
      refine b_apply_27 (by omega) ⟨by constructor <;> omega, fun _ _ => ?_, fun z => by omega⟩
      refine c_rtakes hC hW cn0 a5 hkk hI (by omega) e36 El (by omega) (by omega) (fun hnm htk M1 X1 t1 C1 => ⟨_, rfl, rfl, by decide, fun _ => ?_, fun z => absurd z (by decide)⟩) (fun hnt M1 X1 t1 C1 => ⟨_, rfl, rfl, by decide, fun z => absurd rfl z, fun _ => ⟨by constructor <;> omega, ?_⟩⟩) (fun hnm htk M1 Z1 => ⟨_, rfl, rfl, by decide, fun z => absurd rfl z, fun _ => ⟨by constructor <;> omega, ?_⟩⟩)
      · -- taken
        rw [if_pos hnm, htk] at hKs hKe
        dsimp only at hKs hKe
        have X01 := hX.trans X1
        have I1 := hI0.rx (RX.wx X01) hT
        obtain ⟨⟨i0, i1⟩, it, i3, i4, i5⟩ := id I1
        have hr0 : M1 6960 l = R 0 l - 20 := by
          rw [(C1.1 l cn0 a5).1]
          unfold kR
          rw [if_neg (by omega), if_neg (by omega), if_neg (by omega), if_neg (by omega), if_neg (by omega), if_pos (by omega)]
        obtain ⟨q1, q2⟩ := (C1.1 l cn0 a5).2.1 (by omega)
        have htt := hnm.1
        have h101' := C1.2.2.2.1.2.1
        have ok : ∀ {s' : TS}, s'.nd = R 17 l → VN R m s' ∧ EB R m e0 s'.nd := fun {s'} hn => by
          unfold VN
          rw [hn]
          exact ⟨⟨by omega, g4, hbg⟩, E17⟩
        have hti : t = 28 → (M1 6961 l = a ∧ M1 6962 l = b ∧ M1 6963 l = c) ∧ (im_i64 a ∧ im_i64 b ∧ im_i64 c) ∧ rnp M1 0 (M1 6952 7) (M1 6983 i) v := fun h28 => by
          obtain ⟨m1, m2, m3⟩ : R 4 l = a ∧ R 5 l = b ∧ R 6 l = c := by
            rcases hnm.2 with w | w
            · omega
            · exact ⟨w.1, w.2.1, by have := w.2.2; omega⟩
          have q3 : M1 6963 l = R 6 l := ((C1.1 l cn0 a5).2.2.1 (by omega)).1
          have o1 : M1 6961 = M 6961 := X1.1 6961 (by decide) (by decide) (by decide)
          have o2 : M1 6962 = M 6962 := X1.1 6962 (by decide) (by decide) (by decide)
          have o3 : M1 6963 = M 6963 := X1.1 6963 (by decide) (by decide) (by decide)
          have u1 : M1 6961 l = a := q1.trans m1
          have u2 : M1 6962 l = b := q2.trans m2
          have u3 : M1 6963 l = c := q3.trans m3
          refine ⟨⟨u1, u2, u3⟩, ⟨?_, ?_, ?_⟩, rnp_congr (i4 (by omega)).2.2 (fun _ _ => rfl) (by omega)⟩
          · rw [← u1, o1]; exact ra
          · rw [← u2, o2]; exact rb
          · rw [← u3, o3]; exact rc
        clear hnm i4 i5
        have h17 : ∀ {M2 : im_M} {s2 : TS}, RT M2 R m giv st en lk s2 → M2 6965 l = R 17 l := fun {M2 s2} C2 => (C2.1 l cn0 a5).2.2.2.1.2.1
        rw [hr0, h101']
        refine ⟨⟨fun _ => ⟨fun _ => ⟨by constructor <;> omega, fun h8 => ?_⟩, fun z => by omega⟩, fun z => by omega⟩, fun hor => ⟨by constructor <;> omega, fun hn8 => ⟨fun hn9 => ?_, fun h9 => ?_⟩, fun h8 => ⟨⟨i0, i1⟩, ?_⟩⟩⟩
        · have h28 : t = 28 := by omega
          obtain ⟨⟨u1, u2, u3⟩, ⟨v1, v2, v3⟩, hv⟩ := hti h28
          obtain ⟨kk, w1, w2, w3, w4⟩ := id hv
          have hsg := rn_sg w1
          refine ⟨⟨i0, i1⟩, by constructor <;> omega, fun hle => ?_⟩
          have hv0 : v ≤ 0 := sg_le.mp (by rw [← hsg]; exact hle)
          have htake : takeO lk (s.sNd (R 17 l)) t a b c v = warnO (s.sNd (R 17 l)) 1 a b c v := by
            unfold takeO; rw [if_neg (by omega), if_neg (by omega), if_pos hv0]
          rw [htake, warnO_nd] at hKs hKe
          rw [u1, u2, u3]
          refine c_rwarn C1 (by decide) v1 v2 v3 (by constructor <;> omega) (fun _ => hv) (by omega) (fun s2 hs2' M2 X2 f2 g2 C2 => ⟨rfl, rfl, ?_⟩) (fun hw => ⟨rfl, rfl, ?_⟩)
          · rw [hs2'] at hKs
            dsimp only at hKs
            obtain ⟨O2, nd2, ac2, _⟩ := warnO_ok hO hs2'
            rw [h17 C2]
            obtain ⟨C3, X3⟩ := C2.setnd (R 17 l)
            obtain ⟨V3, E3⟩ := ok (s' := s2.sNd (R 17 l)) rfl
            have e7 : im_u M2 6952 83 (R 17 l) 6952 7 = M2 6952 7 := im_rdk _ _ _ (by decide)
            have e72 := g2 7 (by decide)
            exact hKs _ rfl _ (((RX.wx X01).trans X2).trans X3) C3 O2 V3 E3 (by rw [e7]; show M2 6952 7 + 700 * (e0 - R 17 l) + 400 * s2.acc.1 ≤ P; rw [ac2]; omega)
          · rw [hw] at hKe
            exact hKe (-9) rfl (by decide) _ ((C1.rz (RX.wx X01) (-9)).setnd _)
        · have h30 : t = 30 := by omega
          have htake : takeO lk (s.sNd (R 17 l)) t a b c v = .inr (s.sNd (R 17 l)) := by
            unfold takeO; rw [if_neg (by omega), if_pos h30]
          rw [htake] at hKs
          rw [h17 C1]
          obtain ⟨C3, X3⟩ := C1.setnd (R 17 l)
          obtain ⟨V3, E3⟩ := ok (s' := s.sNd (R 17 l)) rfl
          have e7 : im_u M1 6952 83 (R 17 l) 6952 7 = M1 6952 7 := im_rdk _ _ _ (by decide)
          exact hKs _ rfl _ ((RX.wx X01).trans X3) C3 hO V3 E3 (by rw [e7]; show M1 6952 7 + 700 * (e0 - R 17 l) + 400 * s.acc.1 ≤ P; omega)
        · have h29 : t = 29 := by omega
          subst h29
          have htake : takeO lk (s.sNd (R 17 l)) 29 a b c v = (match bput s.cho 40 a b v with
            | none => .inl (-9)
            | some β => .inr ((s.sNd (R 17 l)).sCho β)) := by
            unfold takeO; rw [if_pos rfl]; rfl
          rw [htake] at hKs hKe
          refine c_rchoose C1 I1 (by omega) (by omega) (fun β hβ M2 X2 t2 C2 => ⟨rfl, rfl, ?_⟩) (fun hw M2 Z2 => ⟨rfl, rfl, ?_⟩)
          · rw [hβ] at hKs
            rw [h17 C2]
            obtain ⟨C3, X3⟩ := C2.setnd (R 17 l)
            obtain ⟨V3, E3⟩ := ok (s' := (s.sNd (R 17 l)).sCho β) rfl
            have e7 : im_u M2 6952 83 (R 17 l) 6952 7 = M2 6952 7 := im_rdk _ _ _ (by decide)
            exact hKs _ rfl _ (((RX.wx X01).trans X2).trans X3) C3 ⟨hO.1, bput_ok hO.2.1 hβ, hO.2.2⟩ V3 E3 (by rw [e7]; show M2 6952 7 + 700 * (e0 - R 17 l) + 400 * s.acc.1 ≤ P; omega)
          · rw [hw] at hKe
            exact hKe (-9) rfl (by decide) _ ((Z2.pre (RX.wx X01)).setnd _)
        · have h28 : t = 28 := by omega
          have hl2 := g28 (by omega)
          obtain ⟨⟨u1, u2, u3⟩, ⟨v1, v2, v3⟩, hv⟩ := hti h28
          obtain ⟨kk, w1, w2, w3, w4⟩ := id hv
          have hsg := rn_sg w1
          have hv0 : ¬ v ≤ 0 := fun z => by
            have := sg_le.mpr z
            rcases hor with w | w
            · exact w.2.2 h8
            · rw [hsg] at w; omega
          have htake : takeO lk (s.sNd (R 17 l)) t a b c v = (if lk = 0 then (if hld s.wal b c < v then .inl (-7) else (match bcre s.acc 40 a c v with
            | .inl k => .inl k
            | .inr β => .inr (((s.sNd (R 17 l)).sWal (bdeb s.wal b c v)).sAcc β)))
            else (match bcre s.acc 40 a c v with
            | .inl k => .inl k
            | .inr β => .inr ((s.sNd (R 17 l)).sAcc β))) := by
            unfold takeO; rw [if_neg (by omega), if_neg (by omega), if_neg hv0]; rfl
          rw [htake] at hKs hKe
          rw [u2, u3]
          -- it goes to the account
          have toA : ∀ {M2 : im_M} {s2 : TS}, RT M2 R m giv st en lk s2 → RX M1 M2 → M2 6952 7 ≤ M1 6952 7 + 303 → s2.acc = s.acc → OT s2 → (∀ β, bcre s.acc 40 a c v = .inr β → ∀ M', RX M0 M' → RT M' R m giv st en lk ((s2.sAcc β).sNd (R 17 l)) → OT ((s2.sAcc β).sNd (R 17 l)) → VN R m ((s2.sAcc β).sNd (R 17 l)) → EB R m e0 (R 17 l) → M' 6952 7 + 700 * (e0 - R 17 l) + 400 * (β.1 : Nat) ≤ P → K (.inl none) e M') → (∀ z, bcre s.acc 40 a c v = .inl z → z < 0 → ∀ M', RZ M0 M' R m giv lk z → K (.inl none) e M') → im_T g (d - 1) 374 0 [some (.ref 6952), some (vL (M2 6961 l)), none, some (vL (M2 6963 l)), none, some (vI (M2 6983 i)), none, none] [] e M2 (im_r0 (fun e_ M99 => e = e_ ∧ K (.inl none) e (im_u M99 6952 83 (M99 6965 l)))) := fun {M2 s2} C2 X2 t2 ac2 O2 hks hke => by
            have o1 : M2 6961 = M1 6961 := X2.1 6961 (by decide) (by decide) (by decide) (by decide)
            have o3 : M2 6963 = M1 6963 := X2.1 6963 (by decide) (by decide) (by decide) (by decide)
            have o4 : M2 6983 = M1 6983 := X2.1 6983 (by decide) (by decide) (by decide) (by decide)
            rw [o1, o3, o4, u1, u3]
            have hv2 : rnp M2 0 (M2 6952 7) (M1 6983 i) v := rnp_congr hv (fun j hj => X2.2.2.1 j hj) X2.2.2.2
            refine c_toAccount C2 hv2 v1 v3 (by omega) (by omega) (fun β hβ M3 X3 t3 C3 => ⟨rfl, rfl, ?_⟩) (fun z hz z0 M3 Z3 => ⟨rfl, rfl, ?_⟩)
            · rw [ac2] at hβ
              rw [h17 C3]
              obtain ⟨C4, X4⟩ := C3.setnd (R 17 l)
              obtain ⟨V4, E4⟩ := ok (s' := (s2.sAcc β).sNd (R 17 l)) rfl
              have e7 : im_u M3 6952 83 (R 17 l) 6952 7 = M3 6952 7 := im_rdk _ _ _ (by decide)
              have hcn := bcre_cnt hβ
              exact hks β hβ _ ((((RX.wx X01).trans X2).trans X3).trans X4) C4 ⟨bcre_ok hO.1.1 hO.1.2 (by omega) hβ, O2.2⟩ V4 E4 (by rw [e7]; omega)
            · rw [ac2] at hz
              exact hke z hz z0 _ ((Z3.pre ((RX.wx X01).trans X2)).setnd _)
          refine c_fromWallet C1 hO.2.2.2.1 hO.2.2.2.2 hv (by omega) v2 v3 (by omega) (by omega) (fun h1 => ⟨rfl, rfl, fun z => absurd h101' z, fun _ => ?_⟩) (fun h0 hle M2 X2 t2 C2 => ⟨rfl, rfl, fun z => absurd C2.2.2.2.1.2.1 z, fun _ => ?_⟩) (fun h0 hlt' M2 Z2 => ⟨rfl, rfl, fun _ => ?_, fun z => ?_⟩)
          · rw [if_neg (by omega)] at hKs hKe
            refine toA C1 (RX.rf M1) (by omega) rfl hO (fun β hβ M' X' C' O' V' E' P1 => ?_) (fun z hz z0 M' Z' => ?_)
            · rw [hβ] at hKs
              exact hKs _ rfl M' X' C' O' V' E' P1
            · rw [hz] at hKe
              exact hKe z rfl z0 M' Z'
          · rw [if_pos h0, if_neg hle] at hKs hKe
            refine toA C2 X2 t2 rfl ⟨hO.1, hO.2.1, hO.2.2.1, bdeb_ok hO.2.2.2.1 hO.2.2.2.2 (hld_le hle)⟩ (fun β hβ M' X' C' O' V' E' P1 => ?_) (fun z hz z0 M' Z' => ?_)
            · rw [hβ] at hKs
              exact hKs _ rfl M' X' C' O' V' E' P1
            · rw [hz] at hKe
              exact hKe z rfl z0 M' Z'
          · rw [if_pos h0, if_pos hlt'] at hKe
            exact hKe (-7) rfl (by decide) _ ((Z2.pre (RX.wx X01)).setnd _)
          · rw [Z2.2.1] at z
            exact absurd z (by decide)
      · -- the next case
        have e19 : M1 6967 l = R 19 l := (C1.1 l cn0 a5).2.2.2.1.2.2.2
        rw [e19]
        have hnext : ∀ x, appC R giv st en lk s t a b c v f (R 19 l) = x → (if nmd R l t a b c then (match tkn' R (s.env giv st en) l t v with
          | none => Sum.inl (-8)
          | some true => takeO lk (s.sNd (R 17 l)) t a b c v
          | some false => appC R giv st en lk s t a b c v f (R 19 l)) else appC R giv st en lk s t a b c v f (R 19 l)) = x := fun x hx => by
          by_cases hnm : nmd R l t a b c
          · rw [if_pos hnm, hnt hnm]; exact hx
          · rw [if_neg hnm]; exact hx
        exact ih l _ f M1 a6 (by omega) hdl (by omega) C1 (hX.trans X1) (by omega) (fun s' hs' => hKs s' (hnext _ hs')) (fun z hz => hKe z (hnext _ hz))
      · rw [if_pos hnm, htk] at hKe
        have e19 : M1 6967 l = R 19 l := by
          rw [Z1.1.1 6967 (by decide) (by decide) (by decide) (by decide)]
          exact (hC.1 l cn0 a5).2.2.2.1.2.2.2
        rw [e19]
        exact c_refd h19 (by rw [Z1.2.1]; decide) (by omega) (hKe (-8) rfl (by decide) M1 (Z1.pre (RX.wx hX)))
end RAPPLY
