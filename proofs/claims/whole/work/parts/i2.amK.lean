section AMX
variable {l : Launch} {G : am_G} {nam : Nat → MethodName} {cco : Nat → ByteArray} {U : List Cond} {hhh : Nat → List (Nat × Nat × Nat × Nat)} {Ev : State → Heap → Prop} {D : va_G} {cl : List vw_C} {cy : Nat → ClassId} {b : Nat} {sa : Nat → Option Nat}
/-- a call: the callee's contract gives what is behind it -/
theorem am_call {f d M pc y ix k : Nat} {vs r st : List Value} {h h1 : am_H} {o1 : am_Out} {ins : Instr} (h1' : am_H1 G cco) (h6 : am_H6 Ev D cl cy b) (h7 : am_H7 G nam cco U hhh Ev cl sa) (h8 : am_H8 U) (hMT : am_MET l G nam cco U hhh Ev D cl cy b sa f)
    (hi : am_inv G M ins st h = some (k, y, ix, vs, r)) (hk3 : ¬ k = 3) (hlen9 : (lg_sl vs).length ≤ am_mxl G y) (hrun : am_run G f d y 0 (lv_args 0 vs) [] h = some (o1, h1)) (hnt : (k = 2 ∨ k = 6 ∨ k = 7 ∨ k = 8) → ∃ v, o1 = .inl v)
    {p : Program} {e : Jvm.Env} {R : Room} {s : State} {m : MethodId} {args : Array Value} {below : List Frame} {meth : Method} {c : Code} {H : Heap} {locs : List Loc} {cells slots n0 t0 : Nat} {Q : State → Prop} {ls : Array Slot} (X : am_Cx G nam cco U hhh Ev b p R s m args meth c M (d + 1)) (hd : decode (cco M) pc = .ok (ins, 3)) (hsz : ls.size = c.maxLocals) (hw : am_W D cl cy b sa h H) (hS : va_S (fun q => b ≤ q) s.heap H locs) (hc : cells + n0 = h.length) (ht : slots + t0 = am_sl h) (hrc : h1.length ≤ R.cells + n0) (hrs : am_sl h1 ≤ R.slots + t0)
    (kv : ∀ (v : Option Value) (H1 : Heap) (locs1 : List Loc) (c1 s1 : Nat), o1 = .inl v → am_W D cl cy b sa h1 H1 → va_S (fun q => b ≤ q) s.heap H1 locs1 → c1 + n0 = h1.length → s1 + t0 = am_sl h1 → W p l e R s m args below meth c H1 locs1 c1 s1 Q (F0 m (pc + 3) ls ((v.toList ++ r).map (am_r b sa))))
    (kx : ∀ (E : String) (H1 : Heap) (locs1 : List Loc) (c1 s1 : Nat) (q9 : Addr) (ce : Cell), o1 = .inr E → am_W D cl cy b sa h1 H1 → va_S (fun q => b ≤ q) s.heap H1 locs1 → H1[q9]? = some ce → ce.vm = .none → s.vm.findClass E = some ce.cls → c1 + n0 = h1.length → s1 + t0 = am_sl h1 → vx_W p l e R s m args below meth c H1 locs1 c1 s1 Q (F0 m pc ls (r.map (am_r b sa))) q9) :
    W p l e R s m args below meth c H locs cells slots Q (F0 m pc ls (st.map (am_r b sa))) := by
  obtain ⟨hx, hb, hml, hown, hts, hE, hlk, hr, hin, htb, htb2, hfr, hlo, hbs⟩ := id X
  have hle := am_run_le G _ _ _ _ _ _ _ _ _ hrun
  have hle1 := hle.1
  have hle2 := hle.2
  have hM := hMT d y vs h o1 h1 hrun hlen9
  have hbl : FrameBlind (am_Pc Ev D cl cy b sa vs h) := am_blind Ev D cl cy b sa h6
  have hpre : ∀ S : State, S.heap = H → s.WarmedH S.vm → am_Pc Ev D cl cy b sa vs h (vs.map (am_r b sa)).toArray S := fun S g1 g2 => am_pre Ev D cl cy b sa h6 hE hS hw S g1 g2
  have kv' : ∀ (v : Option Value) (H1 : Heap) (locs1 : List Loc), o1 = .inl v → am_W D cl cy b sa h1 H1 → va_S (fun q => b ≤ q) s.heap H1 locs1 → W p l e R s m args below meth c H1 locs1 (cells + (h1.length - h.length)) (slots + (am_sl h1 - am_sl h)) Q (F0 m (pc + 3) ls ((v.map (am_r b sa)).toList ++ r.map (am_r b sa))) := by
    intro v H1 locs1 g1 g2 g3
    have k9 := kv v H1 locs1 (cells + (h1.length - h.length)) (slots + (am_sl h1 - am_sl h)) g1 g2 g3 (by omega) (by omega)
    rw [List.map_append] at k9
    cases v <;> exact k9
  have kx' : ∀ (E : String) (H1 : Heap) (locs1 : List Loc) (q9 : Addr) (ce : Cell), o1 = .inr E → am_W D cl cy b sa h1 H1 → va_S (fun q => b ≤ q) s.heap H1 locs1 → H1[q9]? = some ce → ce.vm = .none → s.vm.findClass E = some ce.cls → vx_W p l e R s m args below meth c H1 locs1 (cells + (h1.length - h.length)) (slots + (am_sl h1 - am_sl h)) Q (F0 m pc ls (r.map (am_r b sa))) q9 := fun E H1 locs1 q9 ce g1 g2 g3 g4 g5 g6 => kx E H1 locs1 _ _ q9 ce g1 g2 g3 g4 g5 g6 (by omega) (by omega)
  have hfit : cells + (h1.length - h.length) ≤ R.cells ∧ slots + (am_sl h1 - am_sl h) ≤ R.slots := ⟨by omega, by omega⟩
  have hfix : CallFix p m c (cco M) (am_mxl G M) s args U (nam M).cls := ⟨hx, hb, hml, hown, hts⟩
  have hroom : ∀ z, z ≤ 40 → (am_rm d (h1.length - h.length) (am_sl h1 - am_sl h)).frames + 1 ≤ R.frames ∧ 8 + (z + 11) + (am_rm d (h1.length - h.length) (am_sl h1 - am_sl h)).locals ≤ R.locals := fun z hz => ⟨by show d + 16 + 1 ≤ R.frames; omega, by show 8 + (z + 11) + (200 + 60 * d) ≤ R.locals; omega⟩
  have hsz' : ls.size = am_mxl G M := hsz.trans hml
  cases ins <;> simp only [am_inv] at hi <;> first | (cases hi; done) | skip
  case invokestatic jx =>
    split at hi
    · rename_i k9 y9 n ci hcal
      split at hi
      · rename_i hq
        cases hi
        obtain ⟨hk, hn, hct⟩ := hq
        obtain ⟨-, g2, g0, g6, -⟩ := h7 _ _ _ _ _ _ hcal
        obtain ⟨gc, gi, gm, gd⟩ := g2 hk3
        have hG : GoodIn U (am_ws G nam cco U hhh y) := am_goodU U h8 (am_ws_in G nam cco U hhh gc)
        have hst : (F0 m pc ls (st.map (am_r b sa))).stack = ((st.take n).reverse.map (am_r b sa)).reverse ++ (st.drop n).map (am_r b sa) := by
          show st.map (am_r b sa) = _
          rw [← List.map_reverse, List.reverse_reverse, ← List.map_append, List.take_append_drop]
        have hnl : ((st.take n).reverse.map (am_r b sa)).length = n := by rw [List.length_map, List.length_reverse, List.length_take]; omega
        have hcat : 2 * (F0 m pc ls (st.map (am_r b sa))).monitorRoom + (((st.drop n).map (am_r b sa)).map fun v => v.category).sum ≤ 8 := lv_room (by rw [am_cat_r]; exact hct)
        by_cases hk0 : k = 0
        · obtain ⟨gl, gs⟩ := g0 hk0
          by_cases htab : am_tab G y = true
          · have hws : am_ws G nam cco U hhh y = Cond.codeWith (nam y) (cco y) (am_mxl G y) (am_rty G y) (hhh y) :: U := by unfold am_ws am_cw; rw [if_pos htab]
            have hG9 : GoodIn U (va_wsS (nam M).cls ix (nam y) (am_ws G nam cco U hhh y)) := am_goodU U h8 (fun w hw9 => by
              rcases List.mem_append.mp hw9 with z | z
              · simp only [List.mem_cons, List.not_mem_nil, or_false] at z
                rcases z with rfl | rfl | rfl
                · exact gl
                · exact gs
                · exact gi
              · exact am_ws_in G nam cco U hhh gc w z)
            exact am_callK l D cl cy b sa (vx_runSX hfix hM (vx_cwSW n hts hG9 hws rfl rfl gd (hroom _ gm)) ⟨hbl, hpre⟩ rfl hnl hsz' hst hcat hd hfit) hS kv' kx'
          · have htab : am_tab G y = false := by simpa using htab
            have hws : am_ws G nam cco U hhh y = Cond.code (nam y) (cco y) (am_mxl G y) (am_rty G y) :: U := by unfold am_ws am_cw; rw [if_neg (by rw [htab]; decide)]
            exact am_callK l D cl cy b sa (vx_runS hfix hM ⟨callB_of n hts hG hws rfl rfl (hts _ gi) (hts _ gl) gd (hroom _ gm), hts _ gs⟩ ⟨hbl, hpre⟩ rfl hnl hsz' hst hcat hd hfit) hS kv' kx'
        · have hk6 : k = 6 := by omega
          obtain ⟨htab, gs, host, hne⟩ := g6 hk6
          obtain ⟨v9, ho⟩ := hnt (Or.inr (Or.inl hk6))
          subst ho
          have hws : am_ws G nam cco U hhh y = Cond.code (nam y) (cco y) (am_mxl G y) (am_rty G y) :: U := by unfold am_ws am_cw; rw [if_neg (by rw [htab]; decide)]
          exact am_callR l D cl cy b sa (va_runSN hfix (am_plain l D cl cy b sa hM) ⟨va_cnB n hts hG hws rfl rfl (hne s s.heap hE) (hts _ gi) gd (hroom _ gm), hts _ gs, trivial⟩ ⟨hbl, hpre⟩ rfl hnl hsz' hst hcat hd hfit) hS kv'
      · cases hi
    · cases hi
  case invokevirtual jx =>
    split at hi
    · rename_i k9 y9 n ci hcal
      split at hi
      · rename_i i9 r9 hdr
        split at hi
        · rename_i cj fs hi9
          split at hi
          · rename_i hq
            cases hi
            obtain ⟨hk, rfl, h99, hct⟩ := hq
            obtain ⟨-, g2, -, -, g1, g7, -⟩ := h7 _ _ _ _ _ _ hcal
            obtain ⟨gc, gi, gm, gd⟩ := g2 hk3
            have hG : GoodIn U (am_ws G nam cco U hhh y) := am_goodU U h8 (am_ws_in G nam cco U hhh gc)
            have hn : n < st.length := by
              rcases Nat.lt_or_ge n st.length with z | z
              · exact z
              · rw [List.drop_eq_nil_of_le z] at hdr; cases hdr
            have hst : (F0 m pc ls (st.map (am_r b sa))).stack = ((st.take n).reverse.map (am_r b sa)).reverse ++ .ref (b + i9) :: r.map (am_r b sa) := by
              show st.map (am_r b sa) = _
              rw [← List.map_reverse, List.reverse_reverse]
              have e9 : st = st.take n ++ (.ref i9 :: r) := by rw [← hdr, List.take_append_drop]
              conv => lhs; rw [e9]
              rw [List.map_append]
              rfl
            have hnl : ((st.take n).reverse.map (am_r b sa)).length = n := by rw [List.length_map, List.length_reverse, List.length_take]; omega
            have hcat : 2 * (F0 m pc ls (st.map (am_r b sa))).monitorRoom + ((r.map (am_r b sa)).map fun v => v.category).sum ≤ 8 := lv_room (by rw [am_cat_r]; exact hct)
            have hP1 := hw.one hi9 (by simp [am_op, h99])
            have hK := h6.1 s s.heap hE
            by_cases hk1 : k = 1
            · obtain ⟨htab, gl, gin, q, hq, gse⟩ := g1 hk1
              have hws : am_ws G nam cco U hhh y = Cond.code (nam y) (cco y) (am_mxl G y) (am_rty G y) :: U := by unfold am_ws am_cw; rw [if_neg (by rw [htab]; decide)]
              exact am_callK l D cl cy b sa (vx_runV hfix hM ⟨callB_of n hts hG hws rfl rfl (hts _ gi) (hts _ gl) gd (hroom _ gm), hts _ gin, hts _ gse⟩ ⟨hbl, va_recv (q0 := 0) hK hP1 hq rfl, hpre⟩ rfl hnl hsz' hst hcat hd hfit) hS kv' kx'
            · have hk7 : k = 7 := by omega
              obtain ⟨htab, gin, ⟨q, hq, gse⟩, host, hne⟩ := g7 hk7
              obtain ⟨v9, ho⟩ := hnt (Or.inr (Or.inr (Or.inl hk7)))
              subst ho
              have hws : am_ws G nam cco U hhh y = Cond.code (nam y) (cco y) (am_mxl G y) (am_rty G y) :: U := by unfold am_ws am_cw; rw [if_neg (by rw [htab]; decide)]
              exact am_callR l D cl cy b sa (va_runVN hfix (am_plain l D cl cy b sa hM) ⟨va_cnB n hts hG hws rfl rfl (hne s s.heap hE) (hts _ gi) gd (hroom _ gm), hts _ gin, hts _ gse⟩ ⟨hbl, va_recv (q0 := 0) hK hP1 hq rfl, hpre⟩ rfl hnl hsz' hst hcat hd hfit) hS kv'
          · cases hi
        · cases hi
      · rename_i u9 r9 hdr
        split at hi
        · rename_i hq
          cases hi
          obtain ⟨hk9, hu, hct⟩ := hq
          obtain ⟨-, g2, -, -, -, -, -, -, g9⟩ := h7 _ _ _ _ _ _ hcal
          obtain ⟨gc, gi, gm, gd⟩ := g2 hk3
          obtain ⟨htab, gl, gin, gse, grc⟩ := g9 hk9
          have hEH : Ev s H := h6.2.2 s s.heap H (fun q z1 z2 => hS.2.1 q z1 z2) hE
          obtain ⟨a9, cell9, ha9, hc1, hc2, hc3⟩ := grc _ hu s H hEH
          have e8 : am_r b sa (.float u9) = .ref a9 := by show va_rf (sa _) = _; rw [ha9]; rfl
          have hG : GoodIn U (am_ws G nam cco U hhh y) := am_goodU U h8 (am_ws_in G nam cco U hhh gc)
          have hn : n < st.length := by
            rcases Nat.lt_or_ge n st.length with z | z
            · exact z
            · rw [List.drop_eq_nil_of_le z] at hdr; cases hdr
          have hst : (F0 m pc ls (st.map (am_r b sa))).stack = ((st.take n).reverse.map (am_r b sa)).reverse ++ .ref a9 :: r.map (am_r b sa) := by
            show st.map (am_r b sa) = _
            rw [← List.map_reverse, List.reverse_reverse]
            have e9 : st = st.take n ++ (.float u9 :: r) := by rw [← hdr, List.take_append_drop]
            conv => lhs; rw [e9]
            rw [List.map_append, List.map_cons, e8]
          have hnl : ((st.take n).reverse.map (am_r b sa)).length = n := by rw [List.length_map, List.length_reverse, List.length_take]; omega
          have hcat : 2 * (F0 m pc ls (st.map (am_r b sa))).monitorRoom + ((r.map (am_r b sa)).map fun v => v.category).sum ≤ 8 := lv_room (by rw [am_cat_r]; exact hct)
          have hws : am_ws G nam cco U hhh y = Cond.code (nam y) (cco y) (am_mxl G y) (am_rty G y) :: U := by unfold am_ws am_cw; rw [if_neg (by rw [htab]; decide)]
          have hpre' : ∀ S : State, S.heap = H → s.WarmedH S.vm → am_Pc Ev D cl cy b sa (.float u9 :: (st.take n).reverse) h (Value.ref a9 :: (st.take n).reverse.map (am_r b sa)).toArray S := by
            intro S z1 z2
            have z := hpre S z1 z2
            rw [List.map_cons, e8] at z
            exact z
          exact am_callK l D cl cy b sa (vx_runV (C := "java/lang/String") hfix hM ⟨callB_of n hts hG hws rfl rfl (hts _ gi) (hts _ gl) gd (hroom _ gm), hts _ gin, hts _ gse⟩ ⟨hbl, ⟨cell9, hc1, hc2, hc3⟩, hpre'⟩ rfl hnl hsz' hst hcat hd hfit) hS kv' kx'
        · cases hi
      · cases hi
    · cases hi
  case invokespecial jx =>
    split at hi
    · rename_i k9 y9 n ci hcal
      split at hi
      · rename_i i9 r9 hdr
        split at hi
        · rename_i hq
          cases hi
          obtain ⟨hk, hct⟩ := hq
          obtain ⟨-, g2, -, -, -, -, gI, gN, -⟩ := h7 _ _ _ _ _ _ hcal
          obtain ⟨gc, gi, gm, gd⟩ := g2 hk3
          obtain ⟨v9, ho⟩ := hnt (by omega)
          subst ho
          have hG : GoodIn U (am_ws G nam cco U hhh y) := am_goodU U h8 (am_ws_in G nam cco U hhh gc)
          have hn : n < st.length := by
            rcases Nat.lt_or_ge n st.length with z | z
            · exact z
            · rw [List.drop_eq_nil_of_le z] at hdr; cases hdr
          have hst : (F0 m pc ls (st.map (am_r b sa))).stack = ((st.take n).reverse.map (am_r b sa)).reverse ++ .ref (b + i9) :: r.map (am_r b sa) := by
            show st.map (am_r b sa) = _
            rw [← List.map_reverse, List.reverse_reverse]
            have e9 : st = st.take n ++ (.ref i9 :: r) := by rw [← hdr, List.take_append_drop]
            conv => lhs; rw [e9]
            rw [List.map_append]
            rfl
          have hnl : ((st.take n).reverse.map (am_r b sa)).length = n := by rw [List.length_map, List.length_reverse, List.length_take]; omega
          have hcat : 2 * (F0 m pc ls (st.map (am_r b sa))).monitorRoom + ((r.map (am_r b sa)).map fun v => v.category).sum ≤ 8 := lv_room (by rw [am_cat_r]; exact hct)
          by_cases hk2 : k = 2
          · obtain ⟨htab, gty, gnm, gl, gin⟩ := gI hk2
            have hws : am_ws G nam cco U hhh y = Cond.code (nam y) (cco y) (am_mxl G y) none :: U := by unfold am_ws am_cw; rw [if_neg (by rw [htab]; decide), gty]
            exact am_callR l D cl cy b sa (va_runI hfix (am_plain l D cl cy b sa hM) ⟨callB_of n hts hG hws rfl rfl (hts _ gi) (hts _ gl) gd (hroom _ gm), gnm, hts _ gin⟩ ⟨hbl, hpre⟩ rfl hnl hsz' hst hcat hd hfit) hS kv'
          · obtain ⟨htab, gty, gnm, gin, host, hne⟩ := gN (by omega)
            have hws : am_ws G nam cco U hhh y = Cond.code (nam y) (cco y) (am_mxl G y) none :: U := by unfold am_ws am_cw; rw [if_neg (by rw [htab]; decide), gty]
            exact am_callR l D cl cy b sa (va_runIN hfix (am_plain l D cl cy b sa hM) ⟨va_cnB n hts hG hws rfl rfl (hne s s.heap hE) (hts _ gi) gd (hroom _ gm), gnm, hts _ gin⟩ ⟨hbl, hpre⟩ rfl hnl hsz' hst hcat hd hfit) hS kv'
        · cases hi
      · cases hi
    · cases hi
end AMX
