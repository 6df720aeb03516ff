/-! THE REFERENCE between calls -/
def rTape (M : im_M) (t : Int → Int) (n : Int) : Prop := M 6952 2 = n ∧ (∀ i, 0 ≤ i → i < n → M 6953 i = t i ∧ 0 ≤ t i ∧ t i < 256) ∧ (0 ≤ n ∧ n ≤ 16384)
def rOut (M : im_M) (t : Int → Int) (n : Int) : Prop := M 6952 4 = n ∧ (∀ i, 0 ≤ i → i < n → M 6954 i = t i ∧ 0 ≤ t i ∧ t i < 256) ∧ (0 ≤ n ∧ n ≤ 16384)
def rFau (M : im_M) (c p : Int) : Prop := M 6952 19 = c ∧ M 6952 20 = p
def rPool (M : im_M) (R : Rw) (m de : Int) : Prop := RP M R m ∧ M 6952 38 = m ∧ (0 ≤ M 6952 6 ∧ M 6952 6 ≤ 3 * de) ∧ (0 ≤ M 6952 36 ∧ 2 * M 6952 36 ≤ de)
def rRoots (M : im_M) (R : Rw) (m : Int) (rt : Int → Int) : Prop := ∀ k, 0 ≤ k → k < 16 → (rt k = -1 → M 6984 k = 0) ∧ (rt k ≠ -1 → M 6984 k = 1 ∧ M 6985 k = rt k ∧ M 6986 k = eN R m (rt k) - rt k)
def rIn1 (M : im_M) (i : Int) (I : Ins) : Prop := (M 6994 i = I.1 ∧ M 6995 i = I.2.1 ∧ M 6996 i = I.2.2.1) ∧ SB2 M 6997 6998 6999 7000 40 i I.2.2.2.1 ∧ SB2 M 7001 7002 7003 7004 40 i I.2.2.2.2.1 ∧ SB1 M 7005 7006 7007 40 i I.2.2.2.2.2.1 ∧ SB1 M 7008 7009 7010 20 i I.2.2.2.2.2.2 ∧ I.2.2.2.2.2.2.1 ≤ 20
def rIns (M : im_M) (In : Int → Ins) : Prop := ∀ i, 0 ≤ i → i < 16 → rIn1 M i (In i)
def rPm (M : im_M) (pm : Bk) : Prop := M 6952 62 = pm.1 ∧ pm.1 ≤ 20 ∧ pm.2.2.1 = z0 ∧ ∀ k : Nat, k < pm.1 → M 6992 k = pm.2.1 k ∧ sn M 6993 k (pm.2.2.2 k)
def rMi (M : im_M) (mi : Bk) : Prop := M 6952 134 = mi.1 ∧ mi.1 ≤ 60 ∧ (∀ i : Nat, i < mi.1 → hs2 mi (M 7045 i) 0 ∧ sn M 7046 i (hld mi (M 7045 i) 0)) ∧ (∀ i j : Nat, i < mi.1 → j < mi.1 → M 7045 i = M 7045 j → i = j) ∧ (∀ a, hs2 mi a 0 → ∃ i : Nat, i < mi.1 ∧ M 7045 i = a)
def rScr (M : im_M) : Prop := (M 6952 8 = 0 ∨ M 6952 8 = 1) ∧ (0 ≤ M 6952 116 ∧ M 6952 116 ≤ 60) ∧ (0 ≤ M 6952 99 ∧ M 6952 99 ≤ 1000000000000000) ∧ (0 ≤ M 6952 100 ∧ M 6952 100 ≤ 1000000000000000)
/-- all of it -/
def RW (M : im_M) (w : Wd) : Prop := (rTape M w.gTp w.gTn ∧ rOut M w.gOb w.gOn ∧ rFau M w.gFc w.gFp) ∧ (rPool M w.gRw w.gM w.gDe ∧ rRoots M w.gRw w.gM w.gRt ∧ rIns M w.gIn) ∧ (rPm M w.gPm ∧ swl M w.gWa ∧ rMi M w.gMi) ∧ (sr5 M 137 7047 7048 7049 7050 7051 w.gPy ∧ sr5 M 143 7052 7053 7054 7055 7056 w.gWr) ∧ M 6952 175 = w.gMd ∧ rJr M w.gJr ∧ rScr M
/-- only what is none's to keep changes -/
def RSF (M M' : im_M) : Prop := (∀ x, x ≠ 6952 → (x < 6955 ∨ 6983 < x) → (x < 6987 ∨ 6991 < x) → (x < 7011 ∨ 7041 < x) → (x < 7057 ∨ 7079 < x) → M' x = M x) ∧ (∀ (x : Nat) (i : Int), 6960 ≤ x → x ≤ 6972 → i < M 6952 38 → M' x i = M x i) ∧ (∀ (x : Nat) (i : Int), x = 6973 ∨ x = 6974 → i < M 6952 36 → M' x i = M x i) ∧ (∀ i, i < M 6952 6 → M' 6955 i = M 6955 i) ∧ (∀ k : Int, k = 2 ∨ k = 4 ∨ k = 6 ∨ k = 36 ∨ k = 38 ∨ k = 62 ∨ k = 130 ∨ k = 134 ∨ k = 137 ∨ k = 143 ∨ k = 175 ∨ (177 ≤ k ∧ k ≤ 180) → M' 6952 k = M 6952 k)
theorem RSF.rf (M : im_M) : RSF M M := ⟨fun _ _ _ _ _ _ => rfl, fun _ _ _ _ _ => rfl, fun _ _ _ _ => rfl, fun _ _ => rfl, fun _ _ => rfl⟩
theorem RSF.trans {M M1 M2 : im_M} (h : RSF M M1) (h' : RSF M1 M2) : RSF M M2 := by
  obtain ⟨a1, a2, a3, a4, a5⟩ := h
  obtain ⟨b1, b2, b3, b4, b5⟩ := h'
  have e38 := a5 38 (by omega)
  have e36 := a5 36 (by omega)
  have e6 := a5 6 (by omega)
  exact ⟨fun x p q r s t => (b1 x p q r s t).trans (a1 x p q r s t), fun x i p q r => (b2 x i p q (by omega)).trans (a2 x i p q r), fun x i p q => (b3 x i p (by omega)).trans (a3 x i p q), fun i p => (b4 i (by omega)).trans (a4 i p), fun k p => (b5 k p).trans (a5 k p)⟩
theorem rIn1_congr {M M' : im_M} {i : Int} {I : Ins} (h : rIn1 M i I) (hs : ∀ x, 6994 ≤ x → x ≤ 7010 → M' x = M x) : rIn1 M' i I := by
  obtain ⟨h1, h2, h3, h4, h5, h6⟩ := h
  exact ⟨by rw [hs 6994 (by decide) (by decide), hs 6995 (by decide) (by decide), hs 6996 (by decide) (by decide)]; exact h1, SB2_congr h2 (hs _ (by decide) (by decide)) (hs _ (by decide) (by decide)) (hs _ (by decide) (by decide)) (hs _ (by decide) (by decide)), SB2_congr h3 (hs _ (by decide) (by decide)) (hs _ (by decide) (by decide)) (hs _ (by decide) (by decide)) (hs _ (by decide) (by decide)), SB1_congr h4 (hs _ (by decide) (by decide)) (hs _ (by decide) (by decide)) (hs _ (by decide) (by decide)), SB1_congr h5 (hs _ (by decide) (by decide)) (hs _ (by decide) (by decide)) (hs _ (by decide) (by decide)), h6⟩
theorem rPm_congr {M M' : im_M} {pm : Bk} (h : rPm M pm) (h0 : M' 6952 62 = M 6952 62) (h1 : M' 6992 = M 6992) (h2 : M' 6993 = M 6993) : rPm M' pm := by
  obtain ⟨a, b, c, d⟩ := h
  exact ⟨h0.trans a, b, c, fun k hk => ⟨by rw [h1]; exact (d k hk).1, sn_congr (d k hk).2 (fun i _ _ => by rw [h2])⟩⟩
theorem rMi_congr {M M' : im_M} {pm : Bk} (h : rMi M pm) (h0 : M' 6952 134 = M 6952 134) (h1 : M' 7045 = M 7045) (h2 : M' 7046 = M 7046) : rMi M' pm := by
  obtain ⟨a, b, c, d, f⟩ := h
  refine ⟨h0.trans a, b, fun k hk => ?_, ?_, ?_⟩
  · rw [h1]; exact ⟨(c k hk).1, sn_congr (c k hk).2 (fun i _ _ => by rw [h2])⟩
  · rw [h1]; exact d
  · rw [h1]; exact f
theorem swl_congr {M M' : im_M} {wa : Bk} (h : swl M wa) (h0 : M' 6952 130 = M 6952 130) (h1 : M' 7042 = M 7042) (h2 : M' 7043 = M 7043) (h3 : M' 7044 = M 7044) : swl M' wa := by
  obtain ⟨a, b, c, d, f⟩ := h
  refine ⟨h0.trans a, b, fun k hk => ?_, ?_, ?_⟩
  · rw [h1, h2]; exact ⟨(c k hk).1, sn_congr (c k hk).2 (fun i _ _ => by rw [h3])⟩
  · rw [h1, h2]; exact d
  · rw [h1, h2]; exact f
theorem sr5_congr {M M' : im_M} {fk : Int} {c1 c2 c3 c4 c5 : Nat} {ρ : Rl} (h : sr5 M fk c1 c2 c3 c4 c5 ρ) (h0 : M' 6952 fk = M 6952 fk) (h1 : M' c1 = M c1) (h2 : M' c2 = M c2) (h3 : M' c3 = M c3) (h4 : M' c4 = M c4) (h5 : M' c5 = M c5) : sr5 M' fk c1 c2 c3 c4 c5 ρ := by
  obtain ⟨a, b, c⟩ := h
  refine ⟨h0.trans a, b, fun i hi => ?_⟩
  rw [h1, h2, h3, h4]
  exact ⟨(c i hi).1, fun z => sn_congr ((c i hi).2 z) (fun i _ _ => by rw [h5])⟩
theorem RP_rsf {M M' : im_M} {R : Rw} {m : Int} (h : RP M R m) (h38 : M 6952 38 = m) (hf : RSF M M') : RP M' R m := fun i i0 i1 => by
  obtain ⟨a1, a2, a3, a4, a5⟩ := hf
  have := h i i0 i1
  rw [a5 6 (by omega), a5 36 (by omega)]
  exact rowR_congr this (fun x a b => a2 x i a b (by omega)) a4 (fun x j a b => a3 x j a b) (fun _ => rfl) (Int.le_refl _) (Int.le_refl _) (fun _ _ z => z)
theorem RW.scr {M M' : im_M} {w : Wd} {c p : Int} (h : RW M w) (hf : RSF M M') (h19 : rFau M' c p) (hs : rScr M') : RW M' ((w.sFc c).sFp p) := by
  obtain ⟨⟨⟨t1, t2, t3⟩, ⟨o1, o2, o3⟩, _⟩, ⟨⟨p1, p2, p3, p4⟩, r, i⟩, ⟨b1, b2, b3⟩, ⟨s1, s2⟩, md, ⟨j0, j1, j2, j3, j4⟩, _⟩ := h
  obtain ⟨a1, a2, a3, a4, a5⟩ := id hf
  have A : ∀ x, x ≠ 6952 → (x < 6955 ∨ 6983 < x) → (x < 6987 ∨ 6991 < x) → (x < 7011 ∨ 7041 < x) → (x < 7057 ∨ 7079 < x) → M' x = M x := a1
  refine ⟨⟨⟨(a5 2 (by omega)).trans t1, fun k k0 k1 => by rw [A 6953 (by decide) (by decide) (by decide) (by decide) (by decide)]; exact t2 k k0 k1, t3⟩, ⟨(a5 4 (by omega)).trans o1, fun k k0 k1 => by rw [A 6954 (by decide) (by decide) (by decide) (by decide) (by decide)]; exact o2 k k0 k1, o3⟩, h19⟩, ⟨⟨RP_rsf p1 p2 hf, (a5 38 (by omega)).trans p2, by rw [a5 6 (by omega)]; exact p3, by rw [a5 36 (by omega)]; exact p4⟩, fun k k0 k1 => ?_, fun k k0 k1 => rIn1_congr (i k k0 k1) (fun x x1 x2 => A x (by omega) (by omega) (by omega) (by omega) (by omega))⟩, ⟨rPm_congr b1 (a5 62 (by omega)) (A _ (by decide) (by decide) (by decide) (by decide) (by decide)) (A _ (by decide) (by decide) (by decide) (by decide) (by decide)), swl_congr b2 (a5 130 (by omega)) (A _ (by decide) (by decide) (by decide) (by decide) (by decide)) (A _ (by decide) (by decide) (by decide) (by decide) (by decide)) (A _ (by decide) (by decide) (by decide) (by decide) (by decide)), rMi_congr b3 (a5 134 (by omega)) (A _ (by decide) (by decide) (by decide) (by decide) (by decide)) (A _ (by decide) (by decide) (by decide) (by decide) (by decide))⟩, ⟨sr5_congr s1 (a5 137 (by omega)) (A _ (by decide) (by decide) (by decide) (by decide) (by decide)) (A _ (by decide) (by decide) (by decide) (by decide) (by decide)) (A _ (by decide) (by decide) (by decide) (by decide) (by decide)) (A _ (by decide) (by decide) (by decide) (by decide) (by decide)) (A _ (by decide) (by decide) (by decide) (by decide) (by decide)), sr5_congr s2 (a5 143 (by omega)) (A _ (by decide) (by decide) (by decide) (by decide) (by decide)) (A _ (by decide) (by decide) (by decide) (by decide) (by decide)) (A _ (by decide) (by decide) (by decide) (by decide) (by decide)) (A _ (by decide) (by decide) (by decide) (by decide) (by decide)) (A _ (by decide) (by decide) (by decide) (by decide) (by decide))⟩, (a5 175 (by omega)).trans md, ⟨fun x x0 x1 => by rw [A 7080 (by decide) (by decide) (by decide) (by decide) (by decide)]; exact j0 x x0 x1, (a5 177 (by omega)).trans j1, (a5 178 (by omega)).trans j2, (a5 179 (by omega)).trans j3, (a5 180 (by omega)).trans j4⟩, hs⟩
  rw [A 6984 (by decide) (by decide) (by decide) (by decide) (by decide), A 6985 (by decide) (by decide) (by decide) (by decide) (by decide), A 6986 (by decide) (by decide) (by decide) (by decide) (by decide)]
  exact r k k0 k1
