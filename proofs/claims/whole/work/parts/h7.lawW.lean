/-! THE LAW: the written calls -/
section LAWE
variable {g : im_g} {d : Nat} {e : im_E} {M : im_M} {K : im_K} {w : Wd} {p4 : Int}
theorem la_keep (hL : LwI e M w) (hg : g.2 ≤ 384) (hp : 0 ≤ p4 ∧ p4 + 6 ≤ g.2) (hd : 130 ≤ d) (hN : LN g d e p4 K) : im_T g d 452 499 (lwL p4) [] e M K := by
  obtain ⟨hC, hR, hI⟩ := hL
  obtain ⟨w0, hw0⟩ := hC.2.2.2.2.2.2.1.2.2.1
  have hO := keO_w (w := w.tk) (ag := 0) (k := (scr g (p4 + 1))) (t := w.gTp) (n := w.gTn) (w0 := w0) hI.1 hI.2 hC.tn
  have hI2 := WI_ok hO
  have ref : ∀ (ex : im_E) (M3 : im_M) (x6 : Int), xcn ex ≤ 1 → RW M3 w → (w.gJr.2.2.2.2 ≠ 0 → CW M3 (e ++ ex) w 0 ∧ x6 = 2) → (w.gJr.2.2.2.2 = 0 → CW M3 (e ++ ex) (keO w.tk 0 (scr g (p4 + 1)) w.gTp w.gTn w0).2 0 ∧ x6 = tc12 (keO w.tk 0 (scr g (p4 + 1)) w.gTp w.gTn w0).1 ∧ (x6 = 0 → M3 7081 0 = nqI (keO w.tk 0 (scr g (p4 + 1)) w.gTp w.gTn w0).1)) → im_T g (d - 1) 270 0 [some (.ref 6952), some (vI (scr g (p4 + 1))), none] [] (e ++ ex) M3 (RKi g d (e ++ ex) p4 K x6) := by
    intro ex M3 x6 hx R3 hD hZ
    refine c_R_keep (w0 := w0) R3 hI.1 hI.W hI.m4 hI.de hI.rt WI.ee (fun S hS => GX_root (prsT_gx hS hC.tn hI.W.1 hI.W.2.1)) (scr_r _ _) (by omega) (fun hz M' f R' c => ?_) (fun hz M' v f R' c hv => ?_)
    · obtain ⟨C3, h6⟩ := hD hz
      exact rk_i (by omega) (c.trans h6.symm) (fun z => by omega) (hN ex M' w hx ⟨C3.r f, R', hI⟩)
    · obtain ⟨C3, h6, h7⟩ := hZ hz
      exact rk_i (by rw [h6]; exact (tc_r _).2.1) (c.trans h6.symm) (fun z => by rw [hv (h6.symm.trans z)]; exact o_7081 f (h7 z)) (hN ex M' _ hx ⟨C3.r f, R', hI2⟩)
  refine w_law_499 (by omega) ⟨by omega, ⟨by omega, by omega⟩, w_keep_0 (by omega) ?_⟩
  refine c_P_keep hC hI.1 hI.W hI.m4 hI.de (scr_r _ _) hw0 hO.1.1 (by omega) (fun hz => Or.inr ⟨_, rfl, (Or.inr rfl), (fun z => absurd z (by decide)), (fun _ => ⟨2, rfl, [im_ex], rfl, ref [im_ex] M 2 xcn_1 hR (fun _ => ⟨hC.app, rfl⟩) (fun z => absurd z hz)⟩)⟩) (fun hz M' f C' => ⟨(fun q => Or.inr ⟨_, rfl, (Or.inr rfl), (fun z => absurd z (by decide)), (fun _ => ⟨2, rfl, [im_ex], rfl, ref [im_ex] M' 2 xcn_1 (hR.n f) (fun z => absurd hz z) (fun _ => ⟨C'.app, by rw [q]; rfl, fun z => absurd z (by decide)⟩)⟩)⟩), (fun q => absurd q (keO_c (w := w.tk) hC.tn hI.W)), (fun q => Or.inr ⟨_, rfl, (Or.inl rfl), (fun _ => ⟨1, rfl, [im_ex], rfl, ref [im_ex] M' 1 xcn_1 (hR.n f) (fun z => absurd hz z) (fun _ => ⟨C'.app, by rw [q]; rfl, fun z => absurd z (by decide)⟩)⟩), (fun z => absurd z (by decide))⟩), fun n1 n2 n3 => Or.inl ⟨nqI (keO w.tk 0 (scr g (p4 + 1)) w.gTp w.gTn w0).1, by rw [← nqI_v], rfl, nqI_r _, 0, rfl, [], (List.append_nil e).symm, ref [] (im_u M' 7081 0 (nqI (keO w.tk 0 (scr g (p4 + 1)) w.gTp w.gTn w0).1)) 0 xcn_0 (hR.o f) (fun z => absurd hz z) (fun _ => ⟨by rw [List.append_nil]; exact C'.o, ?_, fun _ => im_rds _ _ _ _⟩)⟩⟩)
  unfold tc12
  (repeat' split) <;> first | rfl | (exfalso; contradiction)
theorem la_drop (hL : LwI e M w) (hg : g.2 ≤ 384) (hp : 0 ≤ p4 ∧ p4 + 6 ≤ g.2) (hd : 130 ≤ d) (hN : LN g d e p4 K) : im_T g d 452 596 (lwL p4) [] e M K := by
  obtain ⟨hC, hR, hI⟩ := hL
  have hO := drO_w (w := w) (ag := 0) (k := (scr g (p4 + 1))) hI.1 hI.2
  have hI2 := WI_ok hO
  have ref : ∀ (ex : im_E) (M3 : im_M) (x6 : Int), xcn ex ≤ 1 → RW M3 w → (w.gJr.2.2.2.2 ≠ 0 → CW M3 (e ++ ex) w 0 ∧ x6 = 2) → (w.gJr.2.2.2.2 = 0 → CW M3 (e ++ ex) (drO w 0 (scr g (p4 + 1))).2 0 ∧ x6 = tc12 (drO w 0 (scr g (p4 + 1))).1 ∧ (x6 = 0 → M3 7081 0 = nqI (drO w 0 (scr g (p4 + 1))).1)) → im_T g (d - 1) 314 0 [some (.ref 6952), some (vI (scr g (p4 + 1))), none] [] (e ++ ex) M3 (RKi g d (e ++ ex) p4 K x6) := by
    intro ex M3 x6 hx R3 hD hZ
    refine c_R_drop R3 hI.1 (scr_r _ _) (by omega) (fun hz M' f R' c => ?_) (fun hz M' v f R' c hv => ?_)
    · obtain ⟨C3, h6⟩ := hD hz
      exact rk_i (by omega) (c.trans h6.symm) (fun z => by omega) (hN ex M' w hx ⟨C3.r f, R', hI⟩)
    · obtain ⟨C3, h6, h7⟩ := hZ hz
      exact rk_i (by rw [h6]; exact (tc_r _).2.1) (c.trans h6.symm) (fun z => by rw [hv (h6.symm.trans z)]; exact o_7081 f (h7 z)) (hN ex M' _ hx ⟨C3.r f, R', hI2⟩)
  refine w_law_596 (by omega) ⟨by omega, ⟨by omega, by omega⟩, w_drop_0 (by omega) ?_⟩
  refine c_P_drop hC hI.1 (scr_r _ _) hO.1.1 (by omega) (fun hz => Or.inr ⟨_, rfl, (Or.inr rfl), (fun z => absurd z (by decide)), (fun _ => ⟨2, rfl, [im_ex], rfl, ref [im_ex] M 2 xcn_1 hR (fun _ => ⟨hC.app, rfl⟩) (fun z => absurd z hz)⟩)⟩) (fun hz M' f C' => ⟨(fun q => Or.inr ⟨_, rfl, (Or.inr rfl), (fun z => absurd z (by decide)), (fun _ => ⟨2, rfl, [im_ex], rfl, ref [im_ex] M' 2 xcn_1 (hR.n f) (fun z => absurd hz z) (fun _ => ⟨C'.app, by rw [q]; rfl, fun z => absurd z (by decide)⟩)⟩)⟩), (fun q => absurd q drO_c), (fun q => Or.inr ⟨_, rfl, (Or.inl rfl), (fun _ => ⟨1, rfl, [im_ex], rfl, ref [im_ex] M' 1 xcn_1 (hR.n f) (fun z => absurd hz z) (fun _ => ⟨C'.app, by rw [q]; rfl, fun z => absurd z (by decide)⟩)⟩), (fun z => absurd z (by decide))⟩), fun n1 n2 n3 => Or.inl ⟨nqI (drO w 0 (scr g (p4 + 1))).1, by rw [← nqI_v], rfl, nqI_r _, 0, rfl, [], (List.append_nil e).symm, ref [] (im_u M' 7081 0 (nqI (drO w 0 (scr g (p4 + 1))).1)) 0 xcn_0 (hR.o f) (fun z => absurd hz z) (fun _ => ⟨by rw [List.append_nil]; exact C'.o, ?_, fun _ => im_rds _ _ _ _⟩)⟩⟩)
  unfold tc12
  (repeat' split) <;> first | rfl | (exfalso; contradiction)
theorem la_parameter (hL : LwI e M w) (hg : g.2 ≤ 384) (hp : 0 ≤ p4 ∧ p4 + 6 ≤ g.2) (hd : 130 ≤ d) (hN : LN g d e p4 K) : im_T g d 452 775 (lwL p4) [] e M K := by
  obtain ⟨hC, hR, hI⟩ := hL
  have hO := paO_w (w := w.tk) (ag := 0) (nm := (xlor (xlshl (scr g (p4 + 1)) 32) (xland (scr g (p4 + 2)) 4294967295))) (t := w.gTp) (n := w.gTn) hI.1 hI.2 hC.tn
  have hI2 := WI_ok hO
  have ref : ∀ (ex : im_E) (M3 : im_M) (x6 : Int), xcn ex ≤ 1 → RW M3 w → (w.gJr.2.2.2.2 ≠ 0 → CW M3 (e ++ ex) w 0 ∧ x6 = 2) → (w.gJr.2.2.2.2 = 0 → CW M3 (e ++ ex) (paO w.tk 0 (xlor (xlshl (scr g (p4 + 1)) 32) (xland (scr g (p4 + 2)) 4294967295)) w.gTp w.gTn).2 0 ∧ x6 = tcA2 (paO w.tk 0 (xlor (xlshl (scr g (p4 + 1)) 32) (xland (scr g (p4 + 2)) 4294967295)) w.gTp w.gTn).1 ∧ (x6 = 0 → M3 7081 0 = nqI (paO w.tk 0 (xlor (xlshl (scr g (p4 + 1)) 32) (xland (scr g (p4 + 2)) 4294967295)) w.gTp w.gTn).1)) → im_T g (d - 1) 332 0 [some (.ref 6952), some (vL (xlor (xlshl (scr g (p4 + 1)) 32) (xland (scr g (p4 + 2)) 4294967295))), none, none] [] (e ++ ex) M3 (RKi g d (e ++ ex) p4 K x6) := by
    intro ex M3 x6 hx R3 hD hZ
    refine c_R_parameter R3 hI.1 hI.de (xlor_r _ _) (by omega) (fun hz M' f R' c => ?_) (fun hz M' v f R' c hv => ?_)
    · obtain ⟨C3, h6⟩ := hD hz
      exact rk_i (by omega) (c.trans h6.symm) (fun z => by omega) (hN ex M' w hx ⟨C3.r f, R', hI⟩)
    · obtain ⟨C3, h6, h7⟩ := hZ hz
      exact rk_i (by rw [h6]; exact (tc_r _).2.2.1) (c.trans h6.symm) (fun z => by rw [hv (h6.symm.trans z)]; exact o_7081 f (h7 z)) (hN ex M' _ hx ⟨C3.r f, R', hI2⟩)
  refine w_law_775 (by omega) ⟨by omega, ⟨by omega, by omega⟩, ⟨by omega, by omega⟩, w_parameter_0 (by omega) ?_⟩
  refine c_P_parameter hC hI.1 (xlor_r _ _) hO.1.1 (by omega) (fun hz => Or.inr ⟨_, rfl, (Or.inr rfl), (fun z => absurd z (by decide)), (fun _ => ⟨2, rfl, [im_ex], rfl, ref [im_ex] M 2 xcn_1 hR (fun _ => ⟨hC.app, rfl⟩) (fun z => absurd z hz)⟩)⟩) (fun hz M' f C' => ⟨(fun q => Or.inr ⟨_, rfl, (Or.inr rfl), (fun z => absurd z (by decide)), (fun _ => ⟨2, rfl, [im_ex], rfl, ref [im_ex] M' 2 xcn_1 (hR.n f) (fun z => absurd hz z) (fun _ => ⟨C'.app, by rw [q]; rfl, fun z => absurd z (by decide)⟩)⟩)⟩), (fun q => Or.inr ⟨_, rfl, (Or.inl rfl), (fun _ => ⟨1, rfl, [im_ex], rfl, ref [im_ex] M' 1 xcn_1 (hR.n f) (fun z => absurd hz z) (fun _ => ⟨C'.app, by rw [q]; rfl, fun z => absurd z (by decide)⟩)⟩), (fun z => absurd z (by decide))⟩), (fun q => absurd q paO_c), fun n1 n2 n3 => Or.inl ⟨nqI (paO w.tk 0 (xlor (xlshl (scr g (p4 + 1)) 32) (xland (scr g (p4 + 2)) 4294967295)) w.gTp w.gTn).1, by rw [← nqI_v], rfl, nqI_r _, 0, rfl, [], (List.append_nil e).symm, ref [] (im_u M' 7081 0 (nqI (paO w.tk 0 (xlor (xlshl (scr g (p4 + 1)) 32) (xland (scr g (p4 + 2)) 4294967295)) w.gTp w.gTn).1)) 0 xcn_0 (hR.o f) (fun z => absurd hz z) (fun _ => ⟨by rw [List.append_nil]; exact C'.o, ?_, fun _ => im_rds _ _ _ _⟩)⟩⟩)
  unfold tcA2
  (repeat' split) <;> first | rfl | (exfalso; contradiction)
theorem la_forget (hL : LwI e M w) (hg : g.2 ≤ 384) (hp : 0 ≤ p4 ∧ p4 + 6 ≤ g.2) (hd : 130 ≤ d) (hN : LN g d e p4 K) : im_T g d 452 863 (lwL p4) [] e M K := by
  obtain ⟨hC, hR, hI⟩ := hL
  have hO := fgO_w (w := w) (ag := 0) hI.1 hI.2
  have hI2 := WI_ok hO
  have ref : ∀ (ex : im_E) (M3 : im_M) (x6 : Int), xcn ex ≤ 1 → RW M3 w → (w.gJr.2.2.2.2 ≠ 0 → CW M3 (e ++ ex) w 0 ∧ x6 = 1) → (w.gJr.2.2.2.2 = 0 → CW M3 (e ++ ex) (fgO w 0).2 0 ∧ x6 = tc1 (fgO w 0).1 ∧ (x6 = 0 → M3 7081 0 = nqI (fgO w 0).1)) → im_T g (d - 1) 341 0 [some (.ref 6952), none, none] [] (e ++ ex) M3 (RKi g d (e ++ ex) p4 K x6) := by
    intro ex M3 x6 hx R3 hD hZ
    refine c_R_forget R3 hI.1 (by omega) (fun hz M' f R' c => ?_) (fun hz M' v f R' c hv => ?_)
    · obtain ⟨C3, h6⟩ := hD hz
      exact rk_i (by omega) (c.trans h6.symm) (fun z => by omega) (hN ex M' w hx ⟨C3.r f, R', hI⟩)
    · obtain ⟨C3, h6, h7⟩ := hZ hz
      exact rk_i (by rw [h6]; exact (tc_r _).1) (c.trans h6.symm) (fun z => by rw [hv (h6.symm.trans z)]; exact o_7081 f (h7 z)) (hN ex M' _ hx ⟨C3.r f, R', hI2⟩)
  refine w_law_863 (by omega) (w_forget_0 (by omega) ?_)
  refine c_P_forget hC hI.1 hO.1.1 (by omega) (fun hz => Or.inr ⟨_, rfl, rfl, (fun _ => ⟨1, rfl, [im_ex], rfl, ref [im_ex] M 1 xcn_1 hR (fun _ => ⟨hC.app, rfl⟩) (fun z => absurd z hz)⟩)⟩) (fun hz M' f C' => ⟨(fun q => Or.inr ⟨_, rfl, rfl, (fun _ => ⟨1, rfl, [im_ex], rfl, ref [im_ex] M' 1 xcn_1 (hR.n f) (fun z => absurd hz z) (fun _ => ⟨C'.app, by rw [q]; rfl, fun z => absurd z (by decide)⟩)⟩)⟩), (fun q => absurd q fgO_c.1), (fun q => absurd q fgO_c.2), fun n1 n2 n3 => Or.inl ⟨nqI (fgO w 0).1, by rw [← nqI_v], rfl, nqI_r _, 0, rfl, [], (List.append_nil e).symm, ref [] (im_u M' 7081 0 (nqI (fgO w 0).1)) 0 xcn_0 (hR.o f) (fun z => absurd hz z) (fun _ => ⟨by rw [List.append_nil]; exact C'.o, ?_, fun _ => im_rds _ _ _ _⟩)⟩⟩)
  unfold tc1
  (repeat' split) <;> first | rfl | (exfalso; contradiction)
theorem la_begin (hL : LwI e M w) (hg : g.2 ≤ 384) (hp : 0 ≤ p4 ∧ p4 + 6 ≤ g.2) (hd : 130 ≤ d) (hN : LN g d e p4 K) : im_T g d 452 907 (lwL p4) [] e M K := by
  obtain ⟨hC, hR, hI⟩ := hL
  have hO := beO_w (w := w) (ag := 0) (i := (scr g (p4 + 1))) (k := (scr g (p4 + 2))) (tm := (xlor (xlshl (scr g (p4 + 3)) 32) (xland (scr g (p4 + 4)) 4294967295))) hI.1 hI.2
  have hI2 := WI_ok hO
  have ref : ∀ (ex : im_E) (M3 : im_M) (x6 : Int), xcn ex ≤ 1 → RW M3 w → (w.gJr.2.2.2.2 ≠ 0 → CW M3 (e ++ ex) w 0 ∧ x6 = 3) → (w.gJr.2.2.2.2 = 0 → CW M3 (e ++ ex) (beO w 0 (scr g (p4 + 1)) (scr g (p4 + 2)) (xlor (xlshl (scr g (p4 + 3)) 32) (xland (scr g (p4 + 4)) 4294967295))).2 0 ∧ x6 = tc123 (beO w 0 (scr g (p4 + 1)) (scr g (p4 + 2)) (xlor (xlshl (scr g (p4 + 3)) 32) (xland (scr g (p4 + 4)) 4294967295))).1 ∧ (x6 = 0 → M3 7081 0 = nqI (beO w 0 (scr g (p4 + 1)) (scr g (p4 + 2)) (xlor (xlshl (scr g (p4 + 3)) 32) (xland (scr g (p4 + 4)) 4294967295))).1)) → im_T g (d - 1) 342 0 [some (.ref 6952), some (vI (scr g (p4 + 1))), some (vI (scr g (p4 + 2))), some (vL (xlor (xlshl (scr g (p4 + 3)) 32) (xland (scr g (p4 + 4)) 4294967295))), none, none, none] [] (e ++ ex) M3 (RKi g d (e ++ ex) p4 K x6) := by
    intro ex M3 x6 hx R3 hD hZ
    refine c_R_begin R3 hI.1 hI.W hI.de (fun z => hI.b1 z) (fun _ z => ends_ex _ z) (fun z => hI.rt _ z.1 z.2) (scr_r _ _) (scr_r _ _) (xlor_r _ _) (by omega) (fun hz M' f R' c => ?_) (fun hz M' v f R' c hv => ?_)
    · obtain ⟨C3, h6⟩ := hD hz
      exact rk_i (by omega) (c.trans h6.symm) (fun z => by omega) (hN ex M' w hx ⟨C3.r f, R', hI⟩)
    · obtain ⟨C3, h6, h7⟩ := hZ hz
      exact rk_i (by rw [h6]; exact (tc_r _).2.2.2) (c.trans h6.symm) (fun z => by rw [hv (h6.symm.trans z)]; exact o_7081 f (h7 z)) (hN ex M' _ hx ⟨C3.r f, R', hI2⟩)
  refine w_law_907 (by omega) ⟨by omega, ⟨by omega, by omega⟩, ⟨by omega, by omega⟩, ⟨by omega, by omega⟩, ⟨by omega, by omega⟩, w_begin_0 (by omega) ?_⟩
  refine c_P_begin hC hI.1 hI.W (fun z => hI.b1 z) (fun z => hI.rt _ z.1 z.2) (scr_r _ _) (scr_r _ _) (xlor_r _ _) hO.1.1 (by omega) (fun hz => Or.inr ⟨_, rfl, (Or.inr (Or.inr rfl)), (fun z => absurd z (by decide)), (fun z => absurd z (by decide)), (fun _ => ⟨3, rfl, [im_ex], rfl, ref [im_ex] M 3 xcn_1 hR (fun _ => ⟨hC.app, rfl⟩) (fun z => absurd z hz)⟩)⟩) (fun hz M' f C' => ⟨(fun q => Or.inr ⟨_, rfl, (Or.inr (Or.inr rfl)), (fun z => absurd z (by decide)), (fun z => absurd z (by decide)), (fun _ => ⟨3, rfl, [im_ex], rfl, ref [im_ex] M' 3 xcn_1 (hR.n f) (fun z => absurd hz z) (fun _ => ⟨C'.app, by rw [q]; rfl, fun z => absurd z (by decide)⟩)⟩)⟩), (fun q => Or.inr ⟨_, rfl, (Or.inr (Or.inl rfl)), (fun z => absurd z (by decide)), (fun _ => ⟨2, rfl, [im_ex], rfl, ref [im_ex] M' 2 xcn_1 (hR.n f) (fun z => absurd hz z) (fun _ => ⟨C'.app, by rw [q]; rfl, fun z => absurd z (by decide)⟩)⟩), (fun z => absurd z (by decide))⟩), (fun q => Or.inr ⟨_, rfl, (Or.inl rfl), (fun _ => ⟨1, rfl, [im_ex], rfl, ref [im_ex] M' 1 xcn_1 (hR.n f) (fun z => absurd hz z) (fun _ => ⟨C'.app, by rw [q]; rfl, fun z => absurd z (by decide)⟩)⟩), (fun z => absurd z (by decide)), (fun z => absurd z (by decide))⟩), fun n1 n2 n3 => Or.inl ⟨nqI (beO w 0 (scr g (p4 + 1)) (scr g (p4 + 2)) (xlor (xlshl (scr g (p4 + 3)) 32) (xland (scr g (p4 + 4)) 4294967295))).1, by rw [← nqI_v], rfl, nqI_r _, 0, rfl, [], (List.append_nil e).symm, ref [] (im_u M' 7081 0 (nqI (beO w 0 (scr g (p4 + 1)) (scr g (p4 + 2)) (xlor (xlshl (scr g (p4 + 3)) 32) (xland (scr g (p4 + 4)) 4294967295))).1)) 0 xcn_0 (hR.o f) (fun z => absurd hz z) (fun _ => ⟨by rw [List.append_nil]; exact C'.o, ?_, fun _ => im_rds _ _ _ _⟩)⟩⟩)
  unfold tc123
  (repeat' split) <;> first | rfl | (exfalso; contradiction)
theorem la_end (hL : LwI e M w) (hg : g.2 ≤ 384) (hp : 0 ≤ p4 ∧ p4 + 6 ≤ g.2) (hd : 130 ≤ d) (hN : LN g d e p4 K) : im_T g d 452 1019 (lwL p4) [] e M K := by
  obtain ⟨hC, hR, hI⟩ := hL
  have hO := enO_w (w := w) (ag := 0) (i := (scr g (p4 + 1))) hI.1 hI.2
  have hI2 := WI_ok hO
  have ref : ∀ (ex : im_E) (M3 : im_M) (x6 : Int), xcn ex ≤ 1 → RW M3 w → (w.gJr.2.2.2.2 ≠ 0 → CW M3 (e ++ ex) w 0 ∧ x6 = 2) → (w.gJr.2.2.2.2 = 0 → CW M3 (e ++ ex) (enO w 0 (scr g (p4 + 1))).2 0 ∧ x6 = tc12 (enO w 0 (scr g (p4 + 1))).1 ∧ (x6 = 0 → M3 7081 0 = nqI (enO w 0 (scr g (p4 + 1))).1)) → im_T g (d - 1) 347 0 [some (.ref 6952), some (vI (scr g (p4 + 1))), none] [] (e ++ ex) M3 (RKi g d (e ++ ex) p4 K x6) := by
    intro ex M3 x6 hx R3 hD hZ
    refine c_R_end R3 hI.1 hI.W (fun z => hI.in1 z) (scr_r _ _) (by omega) (fun hz M' f R' c => ?_) (fun hz M' v f R' c hv => ?_)
    · obtain ⟨C3, h6⟩ := hD hz
      exact rk_i (by omega) (c.trans h6.symm) (fun z => by omega) (hN ex M' w hx ⟨C3.r f, R', hI⟩)
    · obtain ⟨C3, h6, h7⟩ := hZ hz
      exact rk_i (by rw [h6]; exact (tc_r _).2.1) (c.trans h6.symm) (fun z => by rw [hv (h6.symm.trans z)]; exact o_7081 f (h7 z)) (hN ex M' _ hx ⟨C3.r f, R', hI2⟩)
  refine w_law_1019 (by omega) ⟨by omega, ⟨by omega, by omega⟩, w_end_0 (by omega) ?_⟩
  refine c_P_end hC hI.1 hI.W (fun z => hI.in1 z) (scr_r _ _) hO.1.1 (by omega) (fun hz => Or.inr ⟨_, rfl, (Or.inr rfl), (fun z => absurd z (by decide)), (fun _ => ⟨2, rfl, [im_ex], rfl, ref [im_ex] M 2 xcn_1 hR (fun _ => ⟨hC.app, rfl⟩) (fun z => absurd z hz)⟩)⟩) (fun hz M' f C' => ⟨(fun q => Or.inr ⟨_, rfl, (Or.inr rfl), (fun z => absurd z (by decide)), (fun _ => ⟨2, rfl, [im_ex], rfl, ref [im_ex] M' 2 xcn_1 (hR.n f) (fun z => absurd hz z) (fun _ => ⟨C'.app, by rw [q]; rfl, fun z => absurd z (by decide)⟩)⟩)⟩), (fun q => absurd q enO_c), (fun q => Or.inr ⟨_, rfl, (Or.inl rfl), (fun _ => ⟨1, rfl, [im_ex], rfl, ref [im_ex] M' 1 xcn_1 (hR.n f) (fun z => absurd hz z) (fun _ => ⟨C'.app, by rw [q]; rfl, fun z => absurd z (by decide)⟩)⟩), (fun z => absurd z (by decide))⟩), fun n1 n2 n3 => Or.inl ⟨nqI (enO w 0 (scr g (p4 + 1))).1, by rw [← nqI_v], rfl, nqI_r _, 0, rfl, [], (List.append_nil e).symm, ref [] (im_u M' 7081 0 (nqI (enO w 0 (scr g (p4 + 1))).1)) 0 xcn_0 (hR.o f) (fun z => absurd hz z) (fun _ => ⟨by rw [List.append_nil]; exact C'.o, ?_, fun _ => im_rds _ _ _ _⟩)⟩⟩)
  unfold tc12
  (repeat' split) <;> first | rfl | (exfalso; contradiction)
theorem la_transact (hL : LwI e M w) (hg : g.2 ≤ 384) (hp : 0 ≤ p4 ∧ p4 + 6 ≤ g.2) (hd : 130 ≤ d) (hN : LN g d e p4 K) : im_T g d 452 1075 (lwL p4) [] e M K := by
  obtain ⟨hC, hR, hI⟩ := hL
  obtain ⟨J0, hJ0⟩ := hC.2.2.2.2.2.2.1.2.1
  obtain ⟨ρ1, hρ1⟩ := hC.2.2.2.2.2.2.1.1.2.2.2.1
  obtain ⟨ρ2, hρ2⟩ := hC.2.2.2.2.2.2.1.1.2.2.2.2.1
  obtain ⟨e0, he0⟩ : ∃ e0, 0 ≤ (scr g (p4 + 1)) ∧ (scr g (p4 + 1)) < 16 → (w.gIn (scr g (p4 + 1))).1 = 1 → insR w.gRw w.gM e0 (w.gIn (scr g (p4 + 1))) := by
    by_cases c : (0 ≤ (scr g (p4 + 1)) ∧ (scr g (p4 + 1)) < 16) ∧ (w.gIn (scr g (p4 + 1))).1 = 1
    · obtain ⟨e0, h⟩ := hI.2.insR c.1 c.2
      exact ⟨e0, fun _ _ => h⟩
    · exact ⟨0, fun a b => absurd ⟨a, b⟩ c⟩
  have hO := trO_w (w := w.tk) (ag := 0) (i := (scr g (p4 + 1))) (fr := (xlor (xlshl (scr g (p4 + 2)) 32) (xland (scr g (p4 + 3)) 4294967295))) (to := (xlor (xlshl (scr g (p4 + 4)) 32) (xland (scr g (p4 + 5)) 4294967295))) (t := w.gTp) (n := w.gTn) (J0 := J0) (ρ := ρ1) (ρ' := ρ2) (cp := M 931 13) hI.1 hI.2 hC.tn
  have hI2 := WI_ok hO
  have ref : ∀ (ex : im_E) (M3 : im_M) (x6 : Int), xcn ex ≤ 1 → RW M3 w → (w.gJr.2.2.2.2 ≠ 0 → CW M3 (e ++ ex) w 0 ∧ x6 = 2) → (w.gJr.2.2.2.2 = 0 → CW M3 (e ++ ex) (trO w.tk 0 (scr g (p4 + 1)) (xlor (xlshl (scr g (p4 + 2)) 32) (xland (scr g (p4 + 3)) 4294967295)) (xlor (xlshl (scr g (p4 + 4)) 32) (xland (scr g (p4 + 5)) 4294967295)) w.gTp w.gTn J0 ρ1 ρ2 (M 931 13)).2 0 ∧ x6 = tc12 (trO w.tk 0 (scr g (p4 + 1)) (xlor (xlshl (scr g (p4 + 2)) 32) (xland (scr g (p4 + 3)) 4294967295)) (xlor (xlshl (scr g (p4 + 4)) 32) (xland (scr g (p4 + 5)) 4294967295)) w.gTp w.gTn J0 ρ1 ρ2 (M 931 13)).1 ∧ (x6 = 0 → M3 7081 0 = nqI (trO w.tk 0 (scr g (p4 + 1)) (xlor (xlshl (scr g (p4 + 2)) 32) (xland (scr g (p4 + 3)) 4294967295)) (xlor (xlshl (scr g (p4 + 4)) 32) (xland (scr g (p4 + 5)) 4294967295)) w.gTp w.gTn J0 ρ1 ρ2 (M 931 13)).1)) → im_T g (d - 1) 356 0 [some (.ref 6952), some (vI (scr g (p4 + 1))), some (vL (xlor (xlshl (scr g (p4 + 2)) 32) (xland (scr g (p4 + 3)) 4294967295))), none, some (vL (xlor (xlshl (scr g (p4 + 4)) 32) (xland (scr g (p4 + 5)) 4294967295))), none, none] [] (e ++ ex) M3 (RKi g d (e ++ ex) p4 K x6) := by
    intro ex M3 x6 hx R3 hD hZ
    refine c_R_transact (e0 := e0) (J0 := J0) (ρ := ρ1) (ρ' := ρ2) (cp := M 931 13) R3 hI.1 hI.W hI.de (fun z => hI.in1 z) he0 (scr_r _ _) (xlor_r _ _) (xlor_r _ _) (by omega) (fun hz M' f R' c => ?_) (fun hz M' v f R' c hv => ?_)
    · obtain ⟨C3, h6⟩ := hD hz
      exact rk_i (by omega) (c.trans h6.symm) (fun z => by omega) (hN ex M' w hx ⟨C3.r f, R', hI⟩)
    · obtain ⟨C3, h6, h7⟩ := hZ hz
      exact rk_i (by rw [h6]; exact (tc_r _).2.1) (c.trans h6.symm) (fun z => by rw [hv (h6.symm.trans z)]; exact o_7081 f (h7 z)) (hN ex M' _ hx ⟨C3.r f, R', hI2⟩)
  refine w_law_1075 (by omega) ⟨by omega, ⟨by omega, by omega⟩, ⟨by omega, by omega⟩, ⟨by omega, by omega⟩, ⟨by omega, by omega⟩, ⟨by omega, by omega⟩, w_transact_0 (by omega) ?_⟩
  refine c_P_transact hC hI.1 hI.W (fun z => hI.in1 z) (scr_r _ _) (xlor_r _ _) (xlor_r _ _) hJ0 hρ1 hρ2 rfl (by omega) (fun hz => Or.inr ⟨_, rfl, (Or.inr rfl), (fun z => absurd z (by decide)), (fun _ => ⟨2, rfl, [im_ex], rfl, ref [im_ex] M 2 xcn_1 hR (fun _ => ⟨hC.app, rfl⟩) (fun z => absurd z hz)⟩)⟩) (fun hz M' f C' => ⟨(fun q => Or.inr ⟨_, rfl, (Or.inr rfl), (fun z => absurd z (by decide)), (fun _ => ⟨2, rfl, [im_ex], rfl, ref [im_ex] M' 2 xcn_1 (hR.n f) (fun z => absurd hz z) (fun _ => ⟨C'.app, by rw [q]; rfl, fun z => absurd z (by decide)⟩)⟩)⟩), (fun q => absurd q trO_c), (fun q => Or.inr ⟨_, rfl, (Or.inl rfl), (fun _ => ⟨1, rfl, [im_ex], rfl, ref [im_ex] M' 1 xcn_1 (hR.n f) (fun z => absurd hz z) (fun _ => ⟨C'.app, by rw [q]; rfl, fun z => absurd z (by decide)⟩)⟩), (fun z => absurd z (by decide))⟩), fun n1 n2 n3 => Or.inl ⟨nqI (trO w.tk 0 (scr g (p4 + 1)) (xlor (xlshl (scr g (p4 + 2)) 32) (xland (scr g (p4 + 3)) 4294967295)) (xlor (xlshl (scr g (p4 + 4)) 32) (xland (scr g (p4 + 5)) 4294967295)) w.gTp w.gTn J0 ρ1 ρ2 (M 931 13)).1, by rw [← nqI_v], rfl, nqI_r _, 0, rfl, [], (List.append_nil e).symm, ref [] (im_u M' 7081 0 (nqI (trO w.tk 0 (scr g (p4 + 1)) (xlor (xlshl (scr g (p4 + 2)) 32) (xland (scr g (p4 + 3)) 4294967295)) (xlor (xlshl (scr g (p4 + 4)) 32) (xland (scr g (p4 + 5)) 4294967295)) w.gTp w.gTn J0 ρ1 ρ2 (M 931 13)).1)) 0 xcn_0 (hR.o f) (fun z => absurd hz z) (fun _ => ⟨by rw [List.append_nil]; exact C'.o, ?_, fun _ => im_rds _ _ _ _⟩)⟩⟩)
  unfold tc12
  (repeat' split) <;> first | rfl | (exfalso; contradiction)
theorem la_mint (hL : LwI e M w) (hg : g.2 ≤ 384) (hp : 0 ≤ p4 ∧ p4 + 6 ≤ g.2) (hd : 130 ≤ d) (hN : LN g d e p4 K) : im_T g d 452 1803 (lwL p4) [] e M K := by
  obtain ⟨hC, hR, hI⟩ := hL
  have hO := miO_w (w := w.tk) (ag := 0) (pa := (xlor (xlshl (scr g (p4 + 1)) 32) (xland (scr g (p4 + 2)) 4294967295))) (tk' := (xlor (xlshl (scr g (p4 + 3)) 32) (xland (scr g (p4 + 4)) 4294967295))) (t := w.gTp) (n := w.gTn) hI.1 hI.2 hC.tn
  have hI2 := WI_ok hO
  have ref : ∀ (ex : im_E) (M3 : im_M) (x6 : Int), xcn ex ≤ 1 → RW M3 w → (w.gJr.2.2.2.2 ≠ 0 → CW M3 (e ++ ex) w 0 ∧ x6 = 2) → (w.gJr.2.2.2.2 = 0 → CW M3 (e ++ ex) (miO w.tk 0 (xlor (xlshl (scr g (p4 + 1)) 32) (xland (scr g (p4 + 2)) 4294967295)) (xlor (xlshl (scr g (p4 + 3)) 32) (xland (scr g (p4 + 4)) 4294967295)) w.gTp w.gTn).2 0 ∧ x6 = tcA2 (miO w.tk 0 (xlor (xlshl (scr g (p4 + 1)) 32) (xland (scr g (p4 + 2)) 4294967295)) (xlor (xlshl (scr g (p4 + 3)) 32) (xland (scr g (p4 + 4)) 4294967295)) w.gTp w.gTn).1 ∧ (x6 = 0 → M3 7081 0 = nqI (miO w.tk 0 (xlor (xlshl (scr g (p4 + 1)) 32) (xland (scr g (p4 + 2)) 4294967295)) (xlor (xlshl (scr g (p4 + 3)) 32) (xland (scr g (p4 + 4)) 4294967295)) w.gTp w.gTn).1)) → im_T g (d - 1) 421 0 [some (.ref 6952), some (vL (xlor (xlshl (scr g (p4 + 1)) 32) (xland (scr g (p4 + 2)) 4294967295))), none, some (vL (xlor (xlshl (scr g (p4 + 3)) 32) (xland (scr g (p4 + 4)) 4294967295))), none, none] [] (e ++ ex) M3 (RKi g d (e ++ ex) p4 K x6) := by
    intro ex M3 x6 hx R3 hD hZ
    refine c_R_mint R3 hI.1 hI.de hI.sb.1.1 hI.sb.2.1 hI.sb.1.2 hI.sb.2.2 (hI.2.con _ _) (xlor_r _ _) (xlor_r _ _) (by omega) (fun hz M' f R' c => ?_) (fun hz M' v f R' c hv => ?_)
    · obtain ⟨C3, h6⟩ := hD hz
      exact rk_i (by omega) (c.trans h6.symm) (fun z => by omega) (hN ex M' w hx ⟨C3.r f, R', hI⟩)
    · obtain ⟨C3, h6, h7⟩ := hZ hz
      exact rk_i (by rw [h6]; exact (tc_r _).2.2.1) (c.trans h6.symm) (fun z => by rw [hv (h6.symm.trans z)]; exact o_7081 f (h7 z)) (hN ex M' _ hx ⟨C3.r f, R', hI2⟩)
  refine w_law_1803 (by omega) ⟨by omega, ⟨by omega, by omega⟩, ⟨by omega, by omega⟩, ⟨by omega, by omega⟩, ⟨by omega, by omega⟩, w_mint_0 (by omega) ?_⟩
  refine c_P_mint hC hI.1 hI.sb.1.2 hI.sb.2.2 (hI.2.con _ _) (xlor_r _ _) (xlor_r _ _) hO.1.1 (by omega) (fun hz => Or.inr ⟨_, rfl, (Or.inr rfl), (fun z => absurd z (by decide)), (fun _ => ⟨2, rfl, [im_ex], rfl, ref [im_ex] M 2 xcn_1 hR (fun _ => ⟨hC.app, rfl⟩) (fun z => absurd z hz)⟩)⟩) (fun hz M' f C' => ⟨(fun q => Or.inr ⟨_, rfl, (Or.inr rfl), (fun z => absurd z (by decide)), (fun _ => ⟨2, rfl, [im_ex], rfl, ref [im_ex] M' 2 xcn_1 (hR.n f) (fun z => absurd hz z) (fun _ => ⟨C'.app, by rw [q]; rfl, fun z => absurd z (by decide)⟩)⟩)⟩), (fun q => Or.inr ⟨_, rfl, (Or.inl rfl), (fun _ => ⟨1, rfl, [im_ex], rfl, ref [im_ex] M' 1 xcn_1 (hR.n f) (fun z => absurd hz z) (fun _ => ⟨C'.app, by rw [q]; rfl, fun z => absurd z (by decide)⟩)⟩), (fun z => absurd z (by decide))⟩), (fun q => absurd q miO_c), fun n1 n2 n3 => Or.inl ⟨nqI (miO w.tk 0 (xlor (xlshl (scr g (p4 + 1)) 32) (xland (scr g (p4 + 2)) 4294967295)) (xlor (xlshl (scr g (p4 + 3)) 32) (xland (scr g (p4 + 4)) 4294967295)) w.gTp w.gTn).1, by rw [← nqI_v], rfl, nqI_r _, 0, rfl, [], (List.append_nil e).symm, ref [] (im_u M' 7081 0 (nqI (miO w.tk 0 (xlor (xlshl (scr g (p4 + 1)) 32) (xland (scr g (p4 + 2)) 4294967295)) (xlor (xlshl (scr g (p4 + 3)) 32) (xland (scr g (p4 + 4)) 4294967295)) w.gTp w.gTn).1)) 0 xcn_0 (hR.o f) (fun z => absurd hz z) (fun _ => ⟨by rw [List.append_nil]; exact C'.o, ?_, fun _ => im_rds _ _ _ _⟩)⟩⟩)
  unfold tcA2
  (repeat' split) <;> first | rfl | (exfalso; contradiction)
end LAWE
