section AMY
variable {l : Launch} {G : am_G} {nam : Nat → MethodName} {cco : Nat → ByteArray} {U : List Cond} {hhh : Nat → List (Nat × Nat × Nat × Nat)} {Ev : State → Heap → Prop} {D : va_G} {cl : List vw_C} {cy : Nat → ClassId} {b : Nat} {sa : Nat → Option Nat}
/-- the end of a method's body, as its contract has it -/
theorem am_end_met {p : Program} {e : Jvm.Env} {R : Room} {s : State} {m : MethodId} {args : Array Value} {below : List Frame} {meth : Method} {c : Code} {M d n0 t0 : Nat} {o : am_Out} {h' : am_H} (h11 : am_H11 l G nam cco U hhh Ev b) (X : am_Cx G nam cco U hhh Ev b p R s m args meth c M d) (hrc : h'.length ≤ R.cells + n0) (hrs : am_sl h' ≤ R.slots + t0) :
    am_End l G cco D cl cy b sa p e R s m args below meth c (vx_MQ below (am_Qc D cl cy b sa o h') (am_XC D cl cy b sa o h') args s (h'.length - n0) (am_sl h' - t0) (fun q => b ≤ q)) M n0 t0 o h' := by
  obtain ⟨hx, hb, hml, hown, hts, hE, hlk, hr, hin, htb, htb2, hfr, hlo, hbs⟩ := id X
  refine ⟨fun v ho pc1 ins st1 ls1 H1 locs1 c1 s1 hd hrt hw hS hc ht => ?_, fun E ho => ⟨fun pc1 st1 ls1 h1 H1 locs1 c1 s1 hth hcat htab hh hw hS hsz hc ht => ?_, fun pc1 rest1 ls1 H1 locs1 c1 s1 q9 ce htab hw hS hq hv hcl hc ht => ?_⟩⟩
  · subst ho
    have e1 : h'.length - n0 = c1 := by omega
    have e2 : am_sl h' - t0 = s1 := by omega
    rw [e1, e2]
    have hF : ∀ t : State, t.heap = H1 → va_F (fun q => b ≤ q) s t := fun t h9 => ⟨by rw [h9]; exact hS.1, fun q g1 g2 => by rw [h9]; exact hS.2.1 q g1 g2⟩
    refine vx_ret ?_
    cases ins <;> simp only [am_rt] at hrt <;> first | (cases hrt; done) | skip
    case ireturn =>
      split at hrt
      · rename_i v9 ty hty
        split at hrt
        · rename_i hn
          cases hrt
          exact W.zret hx hb (hr.trans hty) hn (fun t h9 _ => ⟨⟨some (.int v9), rfl, rfl, by rw [h9]; exact hw⟩, hF t h9⟩) hS.2.2 hd hlk
        · cases hrt
      · cases hrt
    case lreturn =>
      split at hrt
      · rename_i v9 hty
        cases hrt
        exact W.lret hx hb (hr.trans hty) (fun t h9 _ => ⟨⟨some (.long v9), rfl, rfl, by rw [h9]; exact hw⟩, hF t h9⟩) hS.2.2 hd hlk
      · cases hrt
    case areturn =>
      split at hrt
      · rename_i i9 n9 hty
        cases hrt
        exact W.aret hx hb (hr.trans hty) (Or.inl ⟨_, rfl⟩) (Or.inr ⟨_, rfl⟩) (fun t h9 _ => ⟨⟨some (.ref i9), rfl, rfl, by rw [h9]; exact hw⟩, hF t h9⟩) hS.2.2 hd hlk
      · rename_i i9 n9 hty
        cases hrt
        exact W.aret hx hb (hr.trans hty) (Or.inr ⟨_, rfl⟩) (Or.inr ⟨_, rfl⟩) (fun t h9 _ => ⟨⟨some (.ref i9), rfl, rfl, by rw [h9]; exact hw⟩, hF t h9⟩) hS.2.2 hd hlk
      · rename_i i9 n9 hty
        cases hrt
        exact W.aret hx hb (hr.trans hty) (Or.inl ⟨_, rfl⟩) (am_r_fl b sa i9) (fun t h9 _ => ⟨⟨some (.float i9), rfl, rfl, by rw [h9]; exact hw⟩, hF t h9⟩) hS.2.2 hd hlk
      · cases hrt
    case return_ =>
      split at hrt
      · rename_i hty
        cases hrt
        exact W.vret hx hb (hr.trans hty) (fun t h9 _ => ⟨⟨none, rfl, rfl, by rw [h9]; exact hw⟩, hF t h9⟩) hS.2.2 hd hlk
      · cases hrt
  · have hl9 : h'.length = h1.length + 1 := by rw [hh, List.length_append]; rfl
    have hs9 : am_sl h' = am_sl h1 + 6 := by rw [hh, am_sl_push]; rfl
    refine h11 M pc1 E hth p e R s m args below meth c H1 locs1 c1 s1 d (h'.length - n0) (am_sl h' - t0) _ _ ls1 _ X hS hsz (by rw [am_cat_r]; exact hcat) htab (by omega) (by omega) (fun t _ g1 g2 => ?_) (by omega) (by omega)
    refine ⟨⟨ho, ?_⟩, Nat.le_trans hS.1 (by omega), fun q z1 z2 => (g2 q (Nat.lt_of_lt_of_le z1 hS.1)).trans (hS.2.1 q z1 z2)⟩
    rw [hh]
    exact hw.push (fun z => by cases z) g1 g2
  · refine vx_widen (k := h'.length - n0) (n := am_sl h' - t0) (by omega) (by omega) ?_
    refine vx_out (E := E) (fun x hx9 => (htb htab x hx9).elim) hlk hq hv hcl (fun t h9 _ => ⟨⟨ho, by rw [h9]; exact hw⟩, by rw [h9]; exact hS.1, fun q z1 z2 => by rw [h9]; exact hS.2.1 q z1 z2⟩) hS.2.2 (Nat.le_refl _) (Nat.le_refl _)
theorem am_met {f : Nat} (h6 : am_H6 Ev D cl cy b) (h9 : am_H9 G nam) (h11 : am_H11 l G nam cco U hhh Ev b) (hS : am_SIM l G nam cco U hhh Ev D cl cy b sa f) : am_MET l G nam cco U hhh Ev D cl cy b sa f := by
  intro d M vs h o h' hrun hlen
  have hle := am_run_le G _ _ _ _ _ _ _ _ _ hrun
  have core : ∀ (p : Program) (e : Jvm.Env) (s : State) (m : MethodId) (args : Array Value) (below : List Frame) (meth : Method) (c : Code), am_Cx G nam cco U hhh Ev b p (am_rm d (h'.length - h.length) (am_sl h' - am_sl h)) s m args meth c M d → am_Pc Ev D cl cy b sa vs h args s →
      W p l e (am_rm d (h'.length - h.length) (am_sl h' - am_sl h)) s m args below meth c s.heap [] 0 0 (vx_MQ below (am_Qc D cl cy b sa o h') (am_XC D cl cy b sa o h') args s (h'.length - h.length) (am_sl h' - am_sl h) (fun q => b ≤ q)) (entryFrame m args (am_mxl G M)) := by
    intro p e s m args below meth c X hP
    obtain ⟨ha, hw, -⟩ := hP
    subst ha
    have hl := lv_entry (vs.map (am_r b sa)) (n := am_mxl G M) (by rw [am_sl_r]; exact hlen)
    rw [lg_entry_eq]
    generalize (lg_sl (vs.map (am_r b sa)) ++ List.replicate (am_mxl G M - (lg_sl (vs.map (am_r b sa))).length) Slot.unset).toArray = ls at hl ⊢
    rw [← am_args_r] at hl
    have hrc : h'.length ≤ (am_rm d (h'.length - h.length) (am_sl h' - am_sl h)).cells + h.length := by show h'.length ≤ h'.length - h.length + h.length; omega
    have hrs : am_sl h' ≤ (am_rm d (h'.length - h.length) (am_sl h' - am_sl h)).slots + am_sl h := by show am_sl h' ≤ am_sl h' - am_sl h + am_sl h; omega
    exact hS d M 0 _ [] h o h' hrun p e _ s m _ below meth c s.heap [] 0 0 h.length (am_sl h) _ ls X hl hw va_S.rf (by omega) (by omega) hrc hrs (am_end_met h11 X hrc hrs)
  by_cases htab : am_tab G M = true
  · have hws : am_ws G nam cco U hhh M = Cond.codeWith (nam M) (cco M) (am_mxl G M) (am_rty G M) (hhh M) :: U := by unfold am_ws am_cw; rw [if_pos htab]
    refine vx_ofWH (h9 M).1 hws ?_
    intro p e s m args below meth c s₁ B hml hP
    have hts := atoms_spec (ws := am_ws G nam cco U hhh M) B.pre
    refine core p e s m args below meth c ⟨B.exec, B.bytes, hml, findClass_of_methodNamed B.named, fun w hw => hts w (List.mem_cons_of_mem _ hw), hP.2.2, B.notSynchronized, B.returns, fun z => (name_of_methodNamed B.named B.method).1.trans ((h9 M).2 z), fun z => (by rw [htab] at z; cases z), fun _ => vx_table (x := nam M) B (hts _ (by rw [hws]; exact List.mem_cons_self)), Nat.le_refl _, Nat.le_refl _, by have := hP.2.1.1; omega⟩ hP
  · have htab : am_tab G M = false := by simpa using htab
    have hws : am_ws G nam cco U hhh M = Cond.code (nam M) (cco M) (am_mxl G M) (am_rty G M) :: U := by unfold am_ws am_cw; rw [if_neg (by rw [htab]; decide)]
    refine vx_ofW (h9 M).1 hws ?_
    intro p e s m args below meth c s₁ B hml hta hP
    have hts := atoms_spec (ws := am_ws G nam cco U hhh M) B.pre
    refine core p e s m args below meth c ⟨B.exec, B.bytes, hml, findClass_of_methodNamed B.named, fun w hw => hts w (List.mem_cons_of_mem _ hw), hP.2.2, B.notSynchronized, B.returns, fun z => (name_of_methodNamed B.named B.method).1.trans ((h9 M).2 z), fun _ => hta, fun z => (by rw [htab] at z; cases z), Nat.le_refl _, Nat.le_refl _, by have := hP.2.1.1; omega⟩ hP
end AMY
