/-! THE REFERENCE does a transaction -/
theorem JX.rsf {M M' : im_M} (h : JX M M') : RSF M M' := ⟨fun x a b c d f => h.1 x a (by omega) (by omega), fun x i a b c => by rw [h.1 x (by omega) (by omega) (by omega)], fun x i a b => by rw [h.1 x (by omega) (by omega) (by omega)], h.2.2.1, fun k hk => h.2.1 k (by omega) (by omega) (by omega)⟩
theorem RT.jr {M M' : im_M} {R : Rw} {m : Int} {giv : Bk} {st en : Int} {s : TS} (h : RT M R m giv st en 0 s) (hs : ∀ x, x ≠ 6952 → x ≠ 7080 → M' x = M x) (hf : ∀ k, k < 177 ∨ 181 < k → M' 6952 k = M 6952 k) : RT M' R m giv st en 0 s := by
  obtain ⟨c1, ⟨r1, r2, r3, ⟨r4, r5, r6⟩, r7, r8, r9⟩, c3, c4, ⟨c5, _, c6⟩, ⟨c7, c8, c9⟩, d1, d2⟩ := h
  have e7 := hf 7 (by decide)
  have hp : ∀ T i, i < T → M' 6955 i = M 6955 i := fun _ i _ => by rw [hs 6955 (by decide) (by decide)]
  refine ⟨RP_congr c1 (hf 6 (by decide)) (hf 36 (by decide)) (fun x a b => hs x (by omega) (by omega)) (fun i _ => by rw [hs 6955 (by decide) (by decide)]), ⟨?_, ?_, ?_, ⟨?_, r5, r6⟩, ?_, r8, r9⟩, ?_, ?_, ⟨?_, Or.inl rfl, ?_⟩, ⟨?_, ?_, fun z => ?_⟩, ?_, ?_⟩
  · rw [e7]; exact rb2_congr r1 (hf _ (by decide)) (hs _ (by decide) (by decide)) (hs _ (by decide) (by decide)) (hs _ (by decide) (by decide)) (hp _) (Int.le_refl _)
  · rw [e7]; exact rb2_congr r2 (hf _ (by decide)) (hs _ (by decide) (by decide)) (hs _ (by decide) (by decide)) (hs _ (by decide) (by decide)) (hp _) (Int.le_refl _)
  · rw [e7]; exact rb1_congr r3 (hf _ (by decide)) (hs _ (by decide) (by decide)) (hs _ (by decide) (by decide)) (hp _) (Int.le_refl _)
  · rw [e7]; exact rb1_congr r4 (hf _ (by decide)) (hs _ (by decide) (by decide)) (hs _ (by decide) (by decide)) (hp _) (Int.le_refl _)
  · rw [hf 99 (by decide), hf 100 (by decide)]; exact r7
  · rw [e7, hf 6 (by decide)]; exact c3
  · rw [hf 83 (by decide), hf 101 (by decide), hf 103 (by decide)]; exact c4
  · rw [hf 102 (by decide)]; exact c5
  · rw [hf 8 (by decide)]; exact c6
  · rw [hf 116 (by decide)]; exact c7
  · rw [hf 116 (by decide)]; exact c8
  · rw [e7]; exact rwl_congr (c9 z) (hf _ (by decide)) (hs _ (by decide) (by decide)) (hs _ (by decide) (by decide)) (hs _ (by decide) (by decide)) (hp _) (Int.le_refl _)
  · rw [e7]; exact rr5_congr d1 (hf _ (by decide)) (hs _ (by decide) (by decide)) (hs _ (by decide) (by decide)) (hs _ (by decide) (by decide)) (hs _ (by decide) (by decide)) (hs _ (by decide) (by decide)) (hp _) (Int.le_refl _)
  · rw [e7]; exact rr5_congr d2 (hf _ (by decide)) (hs _ (by decide) (by decide)) (hs _ (by decide) (by decide)) (hs _ (by decide) (by decide)) (hs _ (by decide) (by decide)) (hs _ (by decide) (by decide)) (hp _) (Int.le_refl _)
theorem RT.scr {M : im_M} {R : Rw} {m : Int} {giv : Bk} {st en lk : Int} {s : TS} (h : RT M R m giv st en lk s) : rScr M := by
  obtain ⟨c1, ⟨r1, r2, r3, ⟨r4, r5, r6⟩, ⟨r7, r7'⟩, r8, r9⟩, c3, c4, ⟨c5, _, c6⟩, ⟨c7, c8, c9⟩, d1, d2⟩ := h
  exact ⟨c6, ⟨c7, c8⟩, by rw [r7]; exact r8, by rw [r7']; exact r9⟩
/-- what an instance that is begun may rely on, in the reference -/
def insR (R : Rw) (m e0 : Int) (I : Ins) : Prop := sbk I.2.2.2.2.2.2 ∧ EB R m e0 I.2.1 ∧ e0 - I.2.1 ≤ 1000 ∧ TP R m e0 I.2.2.2.2.2.2
section RTRAN
variable {g : im_g} {d : Nat} {e : im_E} {M : im_M} {K : im_K} {w : Wd} {t : Int → Int} {n : Int}
theorem c_isBegun {i : Int} (h : RW M w) (hi : im_i32 i) (hb : 0 ≤ i ∧ i < 16 → (w.gIn i).1 = 0 ∨ (w.gIn i).1 = 1) (hd : 1 ≤ d) (hK1 : 0 ≤ i ∧ i < 16 → (w.gIn i).1 = 1 → K (.inl (some (vI 1))) e M) (hK0 : ¬ (0 ≤ i ∧ i < 16 ∧ (w.gIn i).1 = 1) → K (.inl (some (vI 0))) e M) : im_T g d 349 0 [some (.ref 6952), some (vI i)] [] e M K := by
  obtain ⟨_, ⟨_, _, hin⟩, _⟩ := h
  refine b_isBegun_0 hd ⟨hi, c_isIn (by constructor <;> omega) (by decide) (by decide) (fun hI => ⟨_, rfl, rfl, by decide, fun _ => ⟨⟨hI.1, by omega⟩, fun hne => ?_⟩, fun hor => hK0 ?_⟩) (fun hI => ⟨_, rfl, rfl, by decide, fun z => absurd rfl z, fun _ => hK0 (by omega)⟩)⟩
  · have := (hin i hI.1 (by omega)).1.1
    rw [this] at hne
    exact hK1 ⟨hI.1, by omega⟩ (by have := hb ⟨hI.1, by omega⟩; omega)
  · have := (hin i hI.1 (by omega)).1.1
    rw [this] at hor
    omega
theorem c_tryTransact {i fr to e0 : Int} {J0 : Ip} {ρ ρ' : Rl} {cp : Int} (h : RW M w) (hrt : rtx M t n) (hW : WFP w.gRw w.gM) (hde : w.gDe ≤ 16384) (hio : 0 ≤ i ∧ i < 16 → insOk w.gRw w.gM w.gWa (w.gIn i)) (hir : 0 ≤ i ∧ i < 16 → (w.gIn i).1 = 1 → insR w.gRw w.gM e0 (w.gIn i)) (hi : im_i32 i) (hfi : im_i64 fr) (hti : im_i64 to) (hd : 20 ≤ d)
    (hKn : ¬ (0 ≤ i ∧ i < 16 ∧ (w.gIn i).1 = 1) → K (.inl (some (vI (-101)))) e M)
    (hKf : 0 ≤ i ∧ i < 16 → (w.gIn i).1 = 1 → ∀ f, inpT t n J0 = .inl f → ∀ M', RSF M M' → (M' 6952 13 = M 6952 13 ∧ M' 6952 0 = M 6952 0) → M' 6959 = M 6959 → rFau M' f.1 f.2 → rScr M' → K (.inl (some (vI (-1)))) e M')
    (hKz : 0 ≤ i ∧ i < 16 → (w.gIn i).1 = 1 → ∀ J z, inpT t n J0 = .inr J → trR w i fr to J ρ ρ' cp = .inl z → z < 0 → ∀ M', RSF M M' → (M' 6952 13 = M 6952 13 ∧ M' 6952 0 = M 6952 0) → M' 6959 = M 6959 → rFau M' 0 (-1) → rScr M' → K (.inl (some (vI z))) e M')
    (hKs : 0 ≤ i ∧ i < 16 → (w.gIn i).1 = 1 → ∀ J s, inpT t n J0 = .inr J → trR w i fr to J ρ ρ' cp = .inr s → ∀ M', RSF M M' → (M' 6952 13 = M 6952 13 ∧ M' 6952 0 = M 6952 0) → M' 6959 = M 6959 → rFau M' 0 (-1) → rScr M' → RT M' w.gRw w.gM (w.gIn i).2.2.2.2.2.2 (max fr (w.gIn i).2.2.1) to 0 s → M' 6952 84 = max fr (w.gIn i).2.2.1 → M' 6952 7 ≤ 1100000 → OT s → VN w.gRw w.gM s → K (.inl (some (vI 0))) e M') :
    im_T g d 357 0 [some (.ref 6952), some (vI i), some (vL fr), none, some (vL to), none] [] e M K := by
  refine b_tryTransact_0 (by omega) (c_isBegun h hi (fun z => (hio z).1) (by omega) (fun hI hb => ⟨_, rfl, rfl, by decide, fun _ => ?_, fun z => absurd z (by decide)⟩) (fun hno => ⟨_, rfl, rfl, by decide, fun z => absurd rfl z, fun _ => hKn hno⟩))
  obtain ⟨⟨_, _, _⟩, ⟨⟨p1, p2, ⟨p3, p3'⟩, p4, p4'⟩, _, hin⟩, ⟨_, hwa, _⟩, _, _, _, ⟨s8, s116, s99, s100⟩⟩ := id h
  obtain ⟨oa, oc, ol, ow, ov, ole⟩ := (hio hI).2 hb
  obtain ⟨g1, g2, g3, g4⟩ := hir hI hb
  refine c_readInputs (I0 := J0) hrt s8 p3 (by omega) (by omega) (fun c pp hc M1 J1 h19 c0 h20 => ⟨rfl, rfl, fun z => by omega, fun _ => hKf hI hb (c, pp) hc M1 J1.rsf ⟨J1.2.1 13 (by decide) (by decide) (by decide), J1.2.1 0 (by decide) (by decide) (by decide)⟩ (J1.1 6959 (by decide) (by decide) (by decide)) ⟨h19, h20⟩ ⟨by rw [J1.2.1 8 (by decide) (by decide) (by decide)]; exact s8, by rw [J1.2.1 116 (by decide) (by decide) (by decide)]; exact s116, by rw [J1.2.1 99 (by decide) (by decide) (by decide)]; exact s99, by rw [J1.2.1 100 (by decide) (by decide) (by decide)]; exact s100⟩⟩) (fun J hJ M1 L1 h19 h20 => ⟨rfl, rfl, fun _ => ?_, fun z => by omega⟩)
  obtain ⟨J1, h46, hJn, hE, h7⟩ := L1
  have hI1 := rIn1_congr (M' := M1) (hin i hI.1 hI.2) (fun x a b => J1.1 x (by omega) (by omega) (by omega))
  obtain ⟨⟨u1, u2, u3⟩, S1, S2, S3, S4, S5⟩ := hI1
  have k6 := J1.2.1 6 (by decide) (by decide) (by decide)
  have k67 := J1.2.2.2
  refine c_rtakeState ⟨hI.1, hI.2⟩ S1 S2 S3 S4 S5 (by omega) (by omega) (by omega) (fun M2 G2 q83 q84 R1 R2 R3 R4 => ⟨rfl, rfl, ?_⟩)
  obtain ⟨G2a, G2b, G2c, G2d, G2e⟩ := G2
  have hwa2 : swl M2 w.gWa := swl_congr hwa (by rw [G2b 130 (by decide) (by decide) (by decide) (by decide) (by decide) (by decide) (by decide)]; exact J1.2.1 130 (by decide) (by decide) (by decide)) (by rw [G2a _ (by decide) (by decide) (by decide)]; exact J1.1 _ (by decide) (by decide) (by decide)) (by rw [G2a _ (by decide) (by decide) (by decide)]; exact J1.1 _ (by decide) (by decide) (by decide)) (by rw [G2a _ (by decide) (by decide) (by decide)]; exact J1.1 _ (by decide) (by decide) (by decide))
  refine c_rtakeWallets hwa2 (by omega) (by omega) (by omega) (fun M3 w3a w3b w3c w3d w3 => ⟨rfl, rfl, ?_⟩)
  generalize hM4 : im_u M3 6952 102 0 = M4
  have e4x : ∀ x, x ≠ 6952 → M4 x = M3 x := fun x hx => by rw [← hM4, im_u_ne _ _ _ hx]
  have e4k : ∀ k, k ≠ 102 → M4 6952 k = M3 6952 k := fun k hk => by rw [← hM4, im_rdk _ _ _ hk]
  have e4l : M4 6952 102 = 0 := by rw [← hM4, im_rds]
  clear hM4
  -- frames from the start
  have fx : ∀ x, x ≠ 6952 → x ≠ 6955 → (x < 6979 ∨ 6983 < x) → (x < 7011 ∨ 7020 < x) → (x < 7031 ∨ 7033 < x) → M4 x = M x := fun x a b c d f => by
    rw [e4x x a, w3a x a b (by omega) (by omega) (by omega), G2a x a b d]; exact J1.1 x a b c
  have fk : ∀ k, k ≠ 102 → k ≠ 7 → k ≠ 116 → k ≠ 83 → k ≠ 84 → k ≠ 85 → k ≠ 89 → k ≠ 93 → k ≠ 96 → k ≠ 46 → (k < 14 ∨ 20 < k) → M4 6952 k = M 6952 k := fun k a b c d f g' h' i' j' l' o' => by
    rw [e4k k a, w3b k b c, G2b k b d f g' h' i' j']; exact J1.2.1 k b l' o'
  have fp : ∀ j, j < M 6952 6 → M4 6955 j = M 6955 j := fun j hj => by
    rw [e4x 6955 (by decide), w3c j (by omega), G2c j (by omega)]; exact J1.2.2.1 j hj
  have e7 : M4 6952 7 = M3 6952 7 := e4k 7 (by decide)
  have hb7 : M4 6952 7 ≤ 49152 + 12080 + 42280 + 18120 := by omega
  have F4 : RSF M M4 := ⟨fun x a b c d f => fx x a (by omega) (by omega) (by omega) (by omega), fun x k a b c => by rw [fx x (by omega) (by omega) (by omega) (by omega) (by omega)], fun x k a b => by rw [fx x (by omega) (by omega) (by omega) (by omega) (by omega)], fp, fun k hk => fk k (by omega) (by omega) (by omega) (by omega) (by omega) (by omega) (by omega) (by omega) (by omega) (by omega) (by omega)⟩
  have e19 : M4 6952 19 = 0 := by rw [e4k 19 (by decide), w3b 19 (by decide) (by decide), G2b 19 (by decide) (by decide) (by decide) (by decide) (by decide) (by decide) (by decide)]; exact h19
  have e20 : M4 6952 20 = -1 := by rw [e4k 20 (by decide), w3b 20 (by decide) (by decide), G2b 20 (by decide) (by decide) (by decide) (by decide) (by decide) (by decide) (by decide)]; exact h20
  have e46 : M4 6952 46 = ((J.1.toNat : Nat) : Int) := by rw [e4k 46 (by decide), w3b 46 (by decide) (by decide), G2b 46 (by decide) (by decide) (by decide) (by decide) (by decide) (by decide) (by decide), h46]; omega
  have p23 : ∀ j, j < M2 6952 7 → M4 6955 j = M2 6955 j := fun j hj => by rw [e4x 6955 (by decide)]; exact w3c j hj
  -- the books as they are now
  have B1 : rb2 M4 85 7011 7012 7013 (w.gIn i).2.2.2.1 (M4 6952 7) := rb2_congr R1 (by rw [e4k _ (by decide), w3b _ (by decide) (by decide)]) (by rw [e4x _ (by decide), w3a _ (by decide) (by decide) (by decide) (by decide) (by decide)]) (by rw [e4x _ (by decide), w3a _ (by decide) (by decide) (by decide) (by decide) (by decide)]) (by rw [e4x _ (by decide), w3a _ (by decide) (by decide) (by decide) (by decide) (by decide)]) p23 (by omega)
  have B2 : rb2 M4 89 7014 7015 7016 (w.gIn i).2.2.2.2.1 (M4 6952 7) := rb2_congr R2 (by rw [e4k _ (by decide), w3b _ (by decide) (by decide)]) (by rw [e4x _ (by decide), w3a _ (by decide) (by decide) (by decide) (by decide) (by decide)]) (by rw [e4x _ (by decide), w3a _ (by decide) (by decide) (by decide) (by decide) (by decide)]) (by rw [e4x _ (by decide), w3a _ (by decide) (by decide) (by decide) (by decide) (by decide)]) p23 (by omega)
  have B3 : rb1 M4 93 7017 7018 (w.gIn i).2.2.2.2.2.1 (M4 6952 7) := rb1_congr R3 (by rw [e4k _ (by decide), w3b _ (by decide) (by decide)]) (by rw [e4x _ (by decide), w3a _ (by decide) (by decide) (by decide) (by decide) (by decide)]) (by rw [e4x _ (by decide), w3a _ (by decide) (by decide) (by decide) (by decide) (by decide)]) p23 (by omega)
  have B4 : rb1 M4 96 7019 7020 (w.gIn i).2.2.2.2.2.2 (M4 6952 7) := rb1_congr R4 (by rw [e4k _ (by decide), w3b _ (by decide) (by decide)]) (by rw [e4x _ (by decide), w3a _ (by decide) (by decide) (by decide) (by decide) (by decide)]) (by rw [e4x _ (by decide), w3a _ (by decide) (by decide) (by decide) (by decide) (by decide)]) p23 (by omega)
  have B5 : rwl M4 w.gWa (M4 6952 7) := rwl_congr w3 (e4k _ (by decide)) (e4x _ (by decide)) (e4x _ (by decide)) (e4x _ (by decide)) (fun j _ => by rw [e4x 6955 (by decide)]) (by omega)
  have rsx : ∀ x, x ≠ 6952 → rs0 M4 x = M4 x := fun x a => by
    unfold rs0; rw [im_u_ne _ _ _ a, im_u_ne _ _ _ a, im_u_ne _ _ _ a, im_u_ne _ _ _ a]
  have rsk : ∀ k, k ≠ 101 → k ≠ 104 → k ≠ 110 → k ≠ 103 → rs0 M4 6952 k = M4 6952 k := fun k a b c d => by
    unfold rs0; rw [im_rdk _ _ _ d, im_rdk _ _ _ c, im_rdk _ _ _ b, im_rdk _ _ _ a]
  have r101 : rs0 M4 6952 101 = 0 := by unfold rs0; rw [im_rdk _ _ _ (by decide), im_rdk _ _ _ (by decide), im_rdk _ _ _ (by decide), im_rds]
  have r104 : rs0 M4 6952 104 = 0 := by unfold rs0; rw [im_rdk _ _ _ (by decide), im_rdk _ _ _ (by decide), im_rds]
  have r110 : rs0 M4 6952 110 = 0 := by unfold rs0; rw [im_rdk _ _ _ (by decide), im_rds]
  have r103 : rs0 M4 6952 103 = 0 := by unfold rs0; rw [im_rds]
  have r7 : rs0 M4 6952 7 = M4 6952 7 := rsk 7 (by decide) (by decide) (by decide) (by decide)
  have w116 := w3.1
  have w60 := w3.2.1
  have hRT : RT (rs0 M4) w.gRw w.gM (w.gIn i).2.2.2.2.2.2 (M 6952 99) (M 6952 100) 0 (trS (w.gIn i) w.gWa ρ ρ' cp).fresh := by
    have hp : ∀ T j, j < T → rs0 M4 6955 j = M4 6955 j := fun _ j _ => by rw [rsx 6955 (by decide)]
    refine ⟨?_, ⟨?_, ?_, ?_, ⟨?_, S5, g1⟩, ⟨?_, ?_⟩, s99, s100⟩, ⟨?_, ?_⟩, ⟨?_, r101, r103⟩, ⟨?_, Or.inl rfl, ?_⟩, ⟨?_, ?_, fun _ => ?_⟩, ⟨r104, Nat.zero_le _, fun k hk => absurd hk (Nat.not_lt_zero k)⟩, ⟨r110, Nat.zero_le _, fun k hk => absurd hk (Nat.not_lt_zero k)⟩⟩
    · exact RP_congr (RP_rsf p1 p2 F4) (rsk 6 (by decide) (by decide) (by decide) (by decide)) (rsk 36 (by decide) (by decide) (by decide) (by decide)) (fun x a b => rsx x (by omega)) (hp _)
    · rw [r7]; exact rb2_congr B1 (rsk _ (by decide) (by decide) (by decide) (by decide)) (rsx _ (by decide)) (rsx _ (by decide)) (rsx _ (by decide)) (hp _) (Int.le_refl _)
    · rw [r7]; exact rb2_congr B2 (rsk _ (by decide) (by decide) (by decide) (by decide)) (rsx _ (by decide)) (rsx _ (by decide)) (rsx _ (by decide)) (hp _) (Int.le_refl _)
    · rw [r7]; exact rb1_congr B3 (rsk _ (by decide) (by decide) (by decide) (by decide)) (rsx _ (by decide)) (rsx _ (by decide)) (hp _) (Int.le_refl _)
    · rw [r7]; exact rb1_congr B4 (rsk _ (by decide) (by decide) (by decide) (by decide)) (rsx _ (by decide)) (rsx _ (by decide)) (hp _) (Int.le_refl _)
    · rw [rsk 99 (by decide) (by decide) (by decide) (by decide)]; exact fk 99 (by decide) (by decide) (by decide) (by decide) (by decide) (by decide) (by decide) (by decide) (by decide) (by decide) (by decide)
    · rw [rsk 100 (by decide) (by decide) (by decide) (by decide)]; exact fk 100 (by decide) (by decide) (by decide) (by decide) (by decide) (by decide) (by decide) (by decide) (by decide) (by decide) (by decide)
    · rw [r7, rsk 6 (by decide) (by decide) (by decide) (by decide), F4.2.2.2.2 6 (by omega)]; omega
    · rw [r7]; omega
    · rw [rsk 83 (by decide) (by decide) (by decide) (by decide), e4k 83 (by decide), w3b 83 (by decide) (by decide), q83]; exact u2
    · rw [rsk 102 (by decide) (by decide) (by decide) (by decide)]; exact e4l
    · rw [rsk 8 (by decide) (by decide) (by decide) (by decide), fk 8 (by decide) (by decide) (by decide) (by decide) (by decide) (by decide) (by decide) (by decide) (by decide) (by decide) (by decide)]; exact s8
    · rw [rsk 116 (by decide) (by decide) (by decide) (by decide), e4k 116 (by decide), w116]; omega
    · rw [rsk 116 (by decide) (by decide) (by decide) (by decide), e4k 116 (by decide), w116]; omega
    · rw [r7]; exact rwl_congr B5 (rsk _ (by decide) (by decide) (by decide) (by decide)) (rsx _ (by decide)) (rsx _ (by decide)) (rsx _ (by decide)) (hp _) (Int.le_refl _)
  have hacc := S1.2.1
  have h84 : M4 6952 84 = (w.gIn i).2.2.1 := by rw [e4k 84 (by decide), w3b 84 (by decide) (by decide), q84]; exact u3
  have ruf : ∀ M5, RU M4 M5 → RSF M M5 ∧ (M5 6952 13 = M 6952 13 ∧ M5 6952 0 = M 6952 0) ∧ M5 6959 = M 6959 ∧ rFau M5 0 (-1) := fun M5 U => by
    refine ⟨F4.trans ⟨fun x a b c d f => U.1 x a (by omega) (by omega) (by omega), fun x k a b c => by rw [U.1 x (by omega) (by omega) (by omega) (by omega)], fun x k a b => by rw [U.1 x (by omega) (by omega) (by omega) (by omega)], fun k hk => U.2.2.1 k (by have := F4.2.2.2.2 6 (by omega); omega), fun k hk => U.2.1 k (by omega) (by omega) (by omega) (by omega) (by omega) (by omega) (by omega) (by omega) (by omega) (by omega) (by omega) (by omega) (by omega) (by omega) (by omega) (by omega)⟩, ⟨?_, ?_⟩, ?_, ?_, ?_⟩
    · rw [U.2.1 13 (by decide) (by decide) (by decide) (by decide) (by decide) (by decide) (by decide) (by decide) (by decide) (by decide) (by decide) (by decide) (by decide) (by decide) (by decide) (by decide)]; exact fk 13 (by decide) (by decide) (by decide) (by decide) (by decide) (by decide) (by decide) (by decide) (by decide) (by decide) (by decide)
    · rw [U.2.1 0 (by decide) (by decide) (by decide) (by decide) (by decide) (by decide) (by decide) (by decide) (by decide) (by decide) (by decide) (by decide) (by decide) (by decide) (by decide) (by decide)]; exact fk 0 (by decide) (by decide) (by decide) (by decide) (by decide) (by decide) (by decide) (by decide) (by decide) (by decide) (by decide)
    · rw [U.1 6959 (by decide) (by decide) (by decide) (by decide)]; exact fx 6959 (by decide) (by decide) (by decide) (by decide) (by decide)
    · rw [U.2.1 19 (by decide) (by decide) (by decide) (by decide) (by decide) (by decide) (by decide) (by decide) (by decide) (by decide) (by decide) (by decide) (by decide) (by decide) (by decide) (by decide)]; exact e19
    · rw [U.2.1 20 (by decide) (by decide) (by decide) (by decide) (by decide) (by decide) (by decide) (by decide) (by decide) (by decide) (by decide) (by decide) (by decide) (by decide) (by decide) (by decide)]; exact e20
  refine c_rrun (d := d - 1) (n0 := J.1.toNat) (T := M1 6952 7) (e0 := e0) (P := 1100000) (t := J.2.1) (a := J.2.2.1) (b := J.2.2.2.1) (c := J.2.2.2.2.1) (v := J.2.2.2.2.2) (s := trS (w.gIn i) w.gWa ρ ρ' cp) hW g4 (by omega) (by omega) (Int.le_refl _) e46 (by rw [F4.2.2.2.2 36 (by omega)]; omega) (by omega) (fun k k0 k1 => ?_) hRT ⟨oa, oc, ol, ow⟩ ov g2 ?_ h84 ole hfi hti (fun s hs M5 U5 q5 C5 O5 V5 E5 P5 => ⟨_, rfl, rfl, ?_⟩) (fun z hz z0 M5 V5 => ⟨_, rfl, rfl, ?_⟩)
  · have hh : IR M1 k (J.2.1 k) (J.2.2.1 k) (J.2.2.2.1 k) (J.2.2.2.2.1 k) (J.2.2.2.2.2 k) (M1 6952 7) := hE k k0 (by omega)
    have ex : ∀ x, 6979 ≤ x → x ≤ 6983 → M4 x = M1 x := fun x a b => by rw [e4x x (by omega), w3a x (by omega) (by omega) (by omega) (by omega) (by omega), G2a x (by omega) (by omega) (by omega)]
    unfold IR at hh ⊢
    rw [ex 6979 (by decide) (by decide), ex 6980 (by decide) (by decide), ex 6981 (by decide) (by decide), ex 6982 (by decide) (by decide), ex 6983 (by decide) (by decide)]
    exact ⟨hh.1, hh.2.1, hh.2.2.1, fun z => ⟨(hh.2.2.2.1 z).1, (hh.2.2.2.1 z).2.1, rnp_congr (hh.2.2.2.1 z).2.2 (fun j hj => by rw [e4x 6955 (by decide), w3c j (by omega)]; exact G2c j hj) (Int.le_refl _)⟩, hh.2.2.2.2⟩
  · have : (trS (w.gIn i) w.gWa ρ ρ' cp).nd = (w.gIn i).2.1 := rfl
    have h2 : (trS (w.gIn i) w.gWa ρ ρ' cp).acc.1 = (w.gIn i).2.2.2.1.1 := rfl
    rw [this, h2]
    omega
  · obtain ⟨a1, a2, a3, a4⟩ := ruf M5 U5
    have hlt := E5.lt
    exact hKs hI hb J s hJ hs M5 a1 a2 a3 a4 C5.scr C5 q5 (by omega) O5 V5
  · obtain ⟨v1, v2, v3, v4, v5, v6, v7⟩ := V5
    obtain ⟨a1, a2, a3, a4⟩ := ruf M5 v1
    exact hKz hI hb J z hJ hz z0 M5 a1 a2 a3 a4 ⟨v3, v5, v6, v7⟩
end RTRAN
