/-! THE CLASS pays, warns, lets -/
def CX (M : im_M) (e : im_E) (R : Rw) (m E : Int) (giv : Bk) (st en lk : Int) (bs bp np : Nat) : Prop := ∃ (s' : TS) (fl' : Int), CT M e R m E giv st en lk fl' s' bs bp np
theorem CT.node {M : im_M} {e : im_E} {R : Rw} {m E : Int} {giv : Bk} {st en lk fl : Int} {s : TS} {bs bp np : Nat} (h : CT M e R m E giv st en lk fl s bs bp np) (x : Int) : CT (im_u M bs 5 x) e R m E giv st en lk fl (s.sNd x) bs bp np ∧ XT bs M (im_u M bs 5 x) := by
  obtain ⟨⟨a1, a2, a3, a4, ⟨b1, b2, b3, b4⟩, a6, a7⟩, c2, c3, ⟨c4, c5, c6, c7⟩, c8, c9, c10, ⟨w, c11⟩, ⟨c12, c13, c14⟩⟩ := h
  have hs : ∀ y, y ≠ bs → im_u M bs 5 x y = M y := fun y hy => im_u_ne _ _ _ hy
  have f931 : im_u M bs 5 x 931 = M 931 := hs 931 (by omega)
  refine ⟨⟨⟨by rw [f931]; exact a1, a2, a3, a4, ⟨cbk_congr b1 (fun y y1 y2 => hs y (by omega)), cbk_congr b2 (fun y y1 y2 => hs y (by omega)), cbk_congr b3 (fun y y1 y2 => hs y (by omega)), cbk_congr b4 (fun y y1 y2 => hs y (by clear c13; omega))⟩, by rw [f931]; exact a6, a7⟩, CP_congr c2 (fun y y1 y2 => hs y (by omega)), c3.congr (hs 932 (by omega)) (fun y y1 y2 => hs y (by omega)), ⟨by rw [f931]; exact c4, by rw [f931]; exact c5, by rw [f931]; exact c6, im_rds _ _ _ _⟩, cwb_congr c8 (fun y y1 y2 => hs y (by omega)), rw6_congr c9 (fun y y1 y2 => hs y (by omega)), rw6_congr c10 (fun y y1 y2 => hs y (by omega)), ⟨w, cn_congr c11 (hs _ (by omega)) (hs _ (by omega))⟩, ⟨c12, c13, c14⟩⟩, ⟨fun y y0 _ _ _ _ _ _ => hs y (by omega), fun k _ _ => by rw [f931], fun k hk => im_rdk _ _ _ hk⟩⟩
theorem CT.cpd {M : im_M} {e : im_E} {R : Rw} {m E : Int} {giv : Bk} {st en lk fl : Int} {s : TS} {bs bp np : Nat} (h : CT M e R m E giv st en lk fl s bs bp np) (x : Int) : CT (im_u M 931 13 x) e R m E giv st en lk fl (s.sCp x) bs bp np ∧ XT bs M (im_u M 931 13 x) := by
  obtain ⟨⟨a1, a2, a3, a4, ⟨b1, b2, b3, b4⟩, a6, a7⟩, c2, c3, ⟨c4, c5, c6, c7⟩, c8, c9, c10, ⟨w, c11⟩, ⟨c12, c13, c14⟩⟩ := h
  have hs : ∀ y, y ≠ 931 → im_u M 931 13 x y = M y := fun y hy => im_u_ne _ _ _ hy
  have hf : ∀ k, k ≠ 13 → im_u M 931 13 x 931 k = M 931 k := fun k hk => im_rdk _ _ _ hk
  have fbs : im_u M 931 13 x bs = M bs := hs bs (by omega)
  refine ⟨⟨⟨by rw [hf 4 (by decide), hf 5 (by decide)]; exact a1, a2, a3, a4, ⟨cbk_congr b1 (fun y y1 y2 => hs y (by omega)), cbk_congr b2 (fun y y1 y2 => hs y (by omega)), cbk_congr b3 (fun y y1 y2 => hs y (by omega)), cbk_congr b4 (fun y y1 y2 => hs y (by omega))⟩, by rw [hf 10 (by decide), hf 11 (by decide)]; exact a6, a7⟩, CP_congr c2 (fun y y1 y2 => hs y (by omega)), c3.congr (hs 932 (by omega)) (fun y y1 y2 => hs y (by omega)), ⟨by rw [hf 12 (by decide)]; exact c4, by rw [hf 6 (by decide)]; exact c5, im_rds _ _ _ _, by rw [fbs]; exact c7⟩, cwb_congr c8 (fun y y1 y2 => hs y (by omega)), rw6_congr c9 (fun y y1 y2 => hs y (by omega)), rw6_congr c10 (fun y y1 y2 => hs y (by omega)), ⟨w, cn_congr c11 (hs _ (by omega)) (hs _ (by omega))⟩, ⟨c12, c13, c14⟩⟩, ⟨fun y _ y1 _ _ _ _ _ => hs y y1, fun k _ hk => hf k hk, fun k hk => by rw [fbs]⟩⟩
section CPAY
variable {g : im_g} {d : Nat} {e : im_E} {M : im_M} {K : im_K} {R : Rw} {m E : Int} {giv : Bk} {st en lk fl : Int} {s : TS} {bs bp np : Nat}
theorem c_payOut {sort a b c v : Int} (hC : CT M e R m E giv st en lk fl s bs bp np) (hO : OT s) (hv : cn M 934 v) (hv0 : 0 < v) (hle : hs2 s.acc a c → v ≤ s.acc.2.2.2 (ps s.acc a c)) (hsort : sort = 0 ∨ sort = 1) (ha : im_i64 a) (hb : im_i64 b) (hc : im_i64 c) (hd : 4 ≤ d)
    (hKs : ∀ s', payO lk s sort a b c v = .inr s' → ∀ M', XT bs M M' → CT M' e R m E giv st en lk fl s' bs bp np → K (.inl (some (vI 0))) e M')
    (hKe : ∀ k, payO lk s sort a b c v = .inl k → k ≠ 0 → im_i32 k → ∀ M', XT bs M M' → CX M' e R m E giv st en lk bs bp np → K (.inl (some (vI k))) e M') :
    im_T g d 117 0 [some (.ref 931), some (vI sort), some (vL a), none, some (vL b), none, some (vL c), none] [] e M K := by
  obtain ⟨⟨o1, o2⟩, o3, o4, ⟨o5, o6⟩⟩ := id hO
  have hlk := hC.2.2.2.2.2.2.2.2.2.1
  have hbs3 := hC.1.2.2.1
  obtain ⟨t1, t2, t3, t4, t5⟩ := hC.1.2.1
  have hpa := hC.2.2.2.2.2.1
  have hi1 : im_i32 sort := by rcases hsort with z | z <;> rw [z] <;> decide
  unfold payO at hKs hKe
  refine k_Machine_payOut_0 (by omega) (c_addR (w := v) rw_1333 hpa nm_934 (by omega) hv (fun _ => rfl) hi1 ha hb hc (by omega) (fun hk M1 f1 f2 => ⟨_, rfl, rfl, by decide, fun _ => ?_, fun z => absurd z (by decide)⟩) (fun hk => ⟨_, rfl, rfl, by decide, fun z => absurd rfl z, fun _ => ?_⟩))
  · rw [if_pos hk] at hKs hKe
    obtain ⟨C1, X1⟩ := hC.pay (fun x hx => f1 x (by omega)) f2
    have hv1 : cn M1 934 v := cn_congr hv (f1 _ (by decide)) (f1 _ (by decide))
    refine ⟨bs, C1.1.1.1, t1, c_debitB t2 C1.1.2.2.2.2.1.1 nm_934 (by omega) hv1 (by omega) ha hc hle (by omega) (fun M2 f3 f4 => ⟨rfl, rfl, hi1, ?_⟩)⟩
    obtain ⟨C2, X2⟩ := C1.acc (fun x hx => f3 x (by omega)) f4
    have X12 := X1.trans X2
    have hv2 : cn M2 934 v := cn_congr hv1 (f3 _ (by omega)) (f3 _ (by omega))
    have e6 : M2 931 6 = lk := C2.2.2.2.1.2.1
    refine ⟨fun hs => ?_, fun hs => ?_⟩
    · rw [if_neg hs] at hKs hKe
      rw [e6]
      refine ⟨fun h0 => ?_, fun h0 => ?_⟩
      · rw [if_pos h0] at hKs hKe
        refine c_creditB bk_1207 (C2.2.2.2.2.1.1 h0) nm_934 (by omega) hv2 (by omega) o6 hb hc (by omega) (fun β hβ M3 f5 f6 => ⟨_, rfl, rfl, ?_⟩) (fun k hk' k0 ki M3 f5 f6 => ⟨_, rfl, rfl, ?_⟩)
        · have hβ : bcre s.wal 60 b c v = .inr β := hβ
          rw [hβ] at hKs
          obtain ⟨C3, X3⟩ := C2.wal (fun x hx => f5 x (by omega)) f6
          exact hKs _ rfl M3 (X12.trans X3) C3
        · have hk' : bcre s.wal 60 b c v = .inl k := hk'
          rw [hk'] at hKe
          obtain ⟨β, f7⟩ := f6
          obtain ⟨C3, X3⟩ := C2.wal (fun x hx => f5 x (by omega)) f7
          exact hKe k rfl k0 ki M3 (X12.trans X3) ⟨_, _, C3⟩
      · rw [if_neg h0] at hKs hKe
        exact hKs _ rfl M2 X12 C2
    · rw [if_pos hs] at hKs hKe
      refine ⟨bs, C2.1.1.1, t1, c_creditB t2 C2.1.2.2.2.2.1.1 nm_934 (by omega) hv2 (by omega) (bdeb_ok o1 o2 hle).2 hb hc (by omega) (fun β hβ M3 f5 f6 => ⟨_, rfl, rfl, ?_⟩) (fun k hk' k0 ki M3 f5 f6 => ⟨_, rfl, rfl, ?_⟩)⟩
      · have hβ : bcre (bdeb s.acc a c v) 40 b c v = .inr β := hβ
        rw [hβ] at hKs
        obtain ⟨C3, X3⟩ := C2.acc (fun x hx => f5 x (by omega)) f6
        exact hKs _ rfl M3 (X12.trans X3) C3
      · have hk' : bcre (bdeb s.acc a c v) 40 b c v = .inl k := hk'
        rw [hk'] at hKe
        obtain ⟨β, f7⟩ := f6
        obtain ⟨C3, X3⟩ := C2.acc (fun x hx => f5 x (by omega)) f7
        exact hKe k rfl k0 ki M3 (X12.trans X3) ⟨_, _, C3⟩
  · rw [if_neg hk] at hKe
    exact hKe (-9) rfl (by decide) (by decide) M (XT.rf _ _) ⟨_, _, hC⟩
end CPAY
