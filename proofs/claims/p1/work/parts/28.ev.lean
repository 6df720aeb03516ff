section AMTW
variable {p : Program} {l : Launch} {e : Env} {R : Room} {s : State} {m : MethodId} {args : Array Value} {below : List Frame} {meth : Method} {c : Code} {H : Heap} {locs : List Loc} {cells slots : Nat} {Q : State → Prop}
variable {mc ms : Nat} {free : Addr → Prop} {A0 A1 : Nat → Prop} {H0 : Heap} {a : Array Value} {ls : Array Slot} {st0 rest : List Value}
variable {Qc : Array Value → State → Outcome → State → Prop} {XC : String → State → State → Prop}
theorem am_throwSW {cc : ByteArray} {pc : Nat} (hexec : p.tables.exec = Jvm.exec) (hb : c.code = cc) (hl : l.stackTraces = false) {own cls text : String} {names : List String} {ik is ic mc ms sa : Nat} {A : Nat → Prop}
    (hown : s.vm.findClass own = some m.cls) (hcls : Bundle.fit cls = true) (hnames : ∀ n ∈ names, Bundle.fit n = true)
    (hk : (Cond.classLink own ik cls).before args s = true) (hini : (Cond.initialized cls).before args s = true) (hstr : vk_R own is text sa s) (hat : ∀ w ∈ vx_atS own ic cls names, w.before args s = true)
    (hgood : ∀ w ∈ Cond.classLink own ik cls :: Cond.initialized cls :: vx_atS own ic cls names, vx_ot w = true)
    (hU : vx_Zq Bundle.tN "UNASSIGNED_STACK" Bundle.steD A s s.heap) (hN : vx_Zq Bundle.tN "SUPPRESSED_SENTINEL" Bundle.listD A s s.heap) (hS : va_S A s.heap H locs) (hsize : ls.size = c.maxLocals)
    (d0 : decode cc pc = .ok (.new ik, 3)) (d3 : decode cc (pc + 3) = .ok (.dup, 1)) (d4 : decode cc (pc + 4) = .ok (.ldc_w is, 3)) (d7 : decode cc (pc + 7) = .ok (.invokespecial ic, 3)) (d10 : decode cc (pc + 10) = .ok (.athrow, 1))
    (hout : ∀ x ∈ c.exceptionTable.toList, covers x (pc + 10) = false)
    (hRframes : names.length + 3 < R.frames) (hRlocals : (rest.map fun v => v.category).sum + (13 * (names.length + 1) + 43) ≤ R.locals) (hRcells : cells + 1 ≤ R.cells) (hRslots : slots + 6 ≤ R.slots) (hlocks : meth.locks = false)
    (hx : ∀ t : State, s.vm.Alike t.vm → t.heap.size = H.size + 1 → (∀ q : Nat, q < H.size → t.heap[q]? = H[q]?) → XC cls s t)
    (hf : ∀ z ∈ locs, free z.base) (hc : cells + 1 ≤ mc) (hs : slots + 6 ≤ ms) :
    W p l e R s m args below meth c H locs cells slots (vx_MQ below Qc XC args s mc ms free) (F0 m pc ls rest) := by
  intro T hT X
  have htr : e.platform.stackTraces = false := (show e.platform.stackTraces = l.stackTraces by rw [X.admits.platform]).trans hl
  have Y := vx_rebase X (R' := { frames := R.frames, locals := R.locals, cells := 1, slots := 6 }) (Nat.le_refl _) (Nat.le_refl _) hRcells hRslots
  obtain ⟨s', hA⟩ : ∃ z, z = (T.setVm s.vm).setFrames (.invoking m args :: below) := ⟨_, rfl⟩
  rw [← hA] at Y
  have hvm : s'.vm = s.vm := by rw [hA]; rfl
  have hhp : s'.heap = H := by rw [hA]; exact hT
  have hW0 : s.WarmedH s'.vm := by rw [hvm]; exact State.WarmedH.refl s
  have hat' : ∀ w ∈ vx_atS own ic cls names, w.before args s' = true := fun w hw => vx_ot_at hW0 hvm.symm (hgood w (List.mem_cons_of_mem _ (List.mem_cons_of_mem _ hw))) (hat w hw)
  have hk' : (Cond.classLink own ik cls).before args s' = true := vx_ot_at hW0 hvm.symm (hgood _ List.mem_cons_self) hk
  have hini' : (Cond.initialized cls).before args s' = true := vx_ot_at hW0 hvm.symm (hgood _ (List.mem_cons_of_mem _ List.mem_cons_self)) hini
  have hU' : vx_Zq Bundle.tN "UNASSIGNED_STACK" Bundle.steD A s' s'.heap := by rw [hhp]; exact vx_Zq.moved hW0.alike (hU.kept hS.2.1)
  have hN' : vx_Zq Bundle.tN "SUPPRESSED_SENTINEL" Bundle.listD A s' s'.heap := by rw [hhp]; exact vx_Zq.moved hW0.alike (hN.kept hS.2.1)
  have h : ∀ w ∈ Bundle.ownAtoms own ic cls names, w.before args s' = true := vx_own hat' (vx_isRefq hU'.1) (vx_isRefq hN'.1) hU'.2.word hN'.2.word
  have hown' : s'.vm.findClass own = some m.cls := by rw [hvm]; exact hown
  have hins : (Cond.instantiable cls 6).before args s' = true := h _ (by simp [Bundle.ownAtoms])
  obtain ⟨vm₁, cX, kX, hfX, hkX, -, -, X₁, st1⟩ := Y.newCold hexec (own := own) (C := cls) (index := ik) (n := 6) hown' hk' hins hini'
    (g := F0 m pc ls rest) rfl (by rw [hb]; exact d0) (Nat.le_refl _) (Nat.le_refl _)
  generalize hT1 : (T.setVm vm₁).pushCell { cls := cX, slots := kX.instanceTypes.map defaultValue, vm := .none } = T1 at X₁ st1
  have hcat : (Value.ref T.heap.size).category = 1 := rfl
  have hcellA : T1.heap[T.heap.size]? = some (freshCell cX kX) := by rw [← hT1]; exact State.heap_pushCell_size _ _
  have d3' : decode c.code (pc + 3) = .ok (.dup, 1) := by rw [hb]; exact d3
  have d4' : decode c.code (pc + 4) = .ok (.ldc_w is, 3) := by rw [hb]; exact d4
  have hstr' : vk_R own is text sa s' := vk_R.warm hW0 hstr
  obtain ⟨U, hsteps, hrun, hend, hW, hsame, ce, hce, hO⟩ := X₁.ctorThrowS hexec htr (own := own) (cls := cls) (names := names) (ic := ic) hown' hcls hnames h (fun x hx => nomatch hx) hfX hkX hcellA (by rw [hhp, hT]; exact Nat.le_refl _) (msg := .ref sa) rfl
    (g := { method := m, pc := pc + 7, locals := ls, stack := .ref sa :: .ref T.heap.size :: .ref T.heap.size :: rest, locked := none }) rfl hsize rfl rfl (rest := rest) rfl
    (by rw [hb]; exact d7) (by rw [hb]; exact d10) hout hRframes (by simp only [List.map_cons, List.sum_cons, hcat]; omega) hlocks
  obtain ⟨f1, f2⟩ := vx_frame hsame
  have f3 : U.heap.size = H.size + 1 := by
    have g1 : U.heap.size ≤ s'.heap.size + (0 + 1) := hsame.2.2.1
    have g2 : T.heap.size < U.heap.size := (Array.getElem?_eq_some_iff.mp hce).1
    rw [hhp] at g1
    rw [hT] at g2
    omega
  rw [hhp] at f1 f2
  have hWs : s.WarmedH U.vm := State.WarmedH.trans hW0 hW
  have hcl : s.vm.findClass cls = some ce.cls := by
    have h9 := hO.cls
    rw [hvm] at h9
    exact h9
  have hall : s.sameButNew ({ U with vm := s.vm } : State) locs mc ms := by
    subst hA
    obtain ⟨e1, e2⟩ := hsame
    rw [State.setFrames_setFrames] at e1
    have h2 : (T.setVm s.vm).sameButNew ({ U with vm := s.vm } : State) [] (0 + 1) (0 + 6) := ⟨e1, e2⟩
    have h3 := X.same.trans h2
    rw [List.append_nil] at h3
    exact h3.mono hc hs
  refine ⟨U, ?_, .threw T.heap.size, hrun, hend, Or.inr ⟨T.heap.size, rfl, cls, ce, locs, hx U hWs.alike f3 (fun q hq => f2 q hq (fun z hz => nomatch hz)), hce, hO.vm, hcl, hWs, hall, hf⟩⟩
  refine st1 _ ?_
  show Steps p.tables e below (T1.setTop { method := m, pc := pc + 3, locals := ls, stack := .ref T.heap.size :: rest, locked := none }) _
  jvm_step X₁.here [X₁.here.top, hexec, d3', Value.category]
  exact X₁.ldcStringW hexec (own := own) (text := text) (index := is) (a := sa) hown' hstr'.1 hstr'.2
    (g := { method := m, pc := pc + 4, locals := ls, stack := .ref T.heap.size :: .ref T.heap.size :: rest, locked := none }) rfl d4' _ hsteps
end AMTW
/-- the texts of throws -/
def am_txs : List (String × Nat × String) := [("PromisePlatform", 133, "the tape is full"), ("PromisePlatform", 465, "the power is cut"), ("PromisePlatform", 141, "below 0 bytes"), ("PromisePlatform", 475, "it is not so"), ("PromisePlatform", 473, "it is none that is told"), ("PromisePlatform", 470, "there is none such")]
def am_ncs : List (String × String) := [("java/lang/IllegalStateException", "java/lang/IllegalArgumentException"), ("java/lang/IllegalStateException", "java/lang/IndexOutOfBoundsException"), ("java/lang/IllegalArgumentException", "java/lang/IllegalStateException"), ("java/lang/IllegalArgumentException", "java/lang/IndexOutOfBoundsException"), ("java/lang/IndexOutOfBoundsException", "java/lang/IllegalStateException"), ("java/lang/IndexOutOfBoundsException", "java/lang/IllegalArgumentException")]
/-- constant texts: own class, entry, text, number -/
def am_lds : List (String × Nat × String × Nat) := [("PromisePlatform$Reader", 33, "close pay if when let assert held neg add sub mul div chosen start end use cond and or not chose ge gt le lt eq true false deposit choice notify case to into ", 0), ("PromisePlatform", 477, "1d23vc", 1), ("PromisePlatform", 479, "occ", 2), ("PromisePlatform", 481, "[ktc", 3), ("PromisePlatform", 483, "1vc", 4), ("PromisePlatform", 485, "oc", 5), ("PromisePlatform", 487, "12", 6), ("PromisePlatform", 489, "v", 7), ("PromisePlatform", 491, "1", 8), ("PromisePlatform", 493, "ovv", 9), ("PromisePlatform", 495, "oo", 10), ("PromisePlatform", 497, "o", 11), ("PromisePlatform", 499, "vv", 12), ("PromisePlatform", 501, "a", 13), ("PromisePlatform", 503, "123vc", 14), ("PromisePlatform", 505, "12[bc", 15), ("PromisePlatform", 507, "", 16), ("PromisePlatform$Reader", 113, "", 17), ("PromisePlatform$Reader", 123, "123n", 18), ("PromisePlatform$Reader", 125, "12n", 19)]
def am_rec (j : Nat) : Int32 := ([0, 1, 1, 3, 1, 2, 3, 1, 0] : List Int32).getD j 0
def am_tn (u : Nat) : Nat := if u < 20 then u else 0
/-- what holds of the world outside the abstract heap, all the way -/
def am_Ev (D : va_G) (cy : Nat → ClassId) (b : Nat) (sa : Nat → Option Nat) (xs : Nat → Int32) (L : Nat) (S : State) (H : Heap) : Prop :=
  va_K D vwCl (am_tys cy) S ∧ (∀ w ∈ am_V, va_Nw w S) ∧
  (vx_Zq Bundle.tN "UNASSIGNED_STACK" Bundle.steD (fun q => b ≤ q) S H ∧ vx_Zq Bundle.tN "SUPPRESSED_SENTINEL" Bundle.listD (fun q => b ≤ q) S H) ∧
  (∀ e ∈ am_txs, ∃ a, vk_R e.1 e.2.1 e.2.2 a S) ∧ (∀ e ∈ am_ncs, va_Nc e.1 e.2 S) ∧
  (∃ bs, sa 200 = some bs ∧ bs < b ∧ va_X bs L xs S H) ∧
  (∃ t, sa 100 = some t ∧ va_T .int t 9 (fun j => .int (am_rec j)) (fun q => b ≤ q) S H ∧ va_Z "PromisePlatform" "RECORD_NUMBERS" "[I" (.ref t) (fun q => b ≤ q) S H) ∧
  va_Z "java/lang/String" "COMPACT_STRINGS" "Z" (.int 1) (fun q => b ≤ q) S H ∧
  va_Z "jdk/internal/util/Preconditions" "SIOOBE_FORMATTER" "Ljava/util/function/BiFunction;" (va_rf (sa 999)) (fun q => b ≤ q) S H ∧
  (∀ u, u < 30 → ∃ a v, sa u = some a ∧ sa (30 + u) = some v ∧ va_O "java/lang/String" a (fun q => b ≤ q) S H ∧ va_OF "java/lang/String" "coder" "B" (.int 0) a (fun q => b ≤ q) S H ∧ va_OF "java/lang/String" "value" "[B" (.ref v) a (fun q => b ≤ q) S H ∧ va_T .byte v (am_txt.getD (am_tn u) []).length (fun j => .int ((am_txt.getD (am_tn u) []).getD j 0)) (fun q => b ≤ q) S H) ∧
  (∀ e ∈ am_lds, ∃ a, sa e.2.2.2 = some a ∧ vk_R e.1 e.2.1 e.2.2.1 a S)
theorem am_vk_warm {w : Cond} (hk : am_vk w = true) {s S : State} (hW : s.WarmedH S.vm) (h : va_Nw w s) : va_Nw w S := by
  unfold am_vk at hk
  split at hk
  · exact va_Nw.warmM hW h
  · exact va_Nw.warmF hW h
  · exact va_AO.moved hW.alike h
  · exact va_Nw.warmC hW h
  · exact va_Nw.warmD hW h
  · cases hk
theorem am_P6 {D : va_G} {cy : Nat → ClassId} {b : Nat} {sa : Nat → Option Nat} {xs : Nat → Int32} {L : Nat} : am_H6 (am_Ev D cy b sa xs L) D vwCl cy b := by
  refine ⟨fun S H h => h.1, fun s S H hW h => ?_, fun s H H1 hq h => ?_⟩
  · obtain ⟨h1, h2, ⟨h3, h3'⟩, h4, h5, ⟨bs, g1, g2, g3⟩, ⟨t, g4, g5, g6⟩, h6, h7, h8, h9⟩ := h
    have hA := hW.alike
    refine ⟨va_K.moved hA h1, fun w hw => am_vk_warm (List.mem_filter.mp hw).2 hW (h2 w hw), ⟨h3.moved hA, h3'.moved hA⟩, fun e he => ?_, fun e he => (h5 e he).moved hA, ⟨bs, g1, g2, g3.moved hA⟩, ⟨t, g4, g5.moved hA, g6.moved hA⟩, h6.moved hA, h7.moved hA, fun u hu => ?_, fun e he => ?_⟩
    · obtain ⟨a, ha⟩ := h4 e he
      exact ⟨a, ha.warm hW⟩
    · obtain ⟨a, v, k1, k2, k3, k4, k5, k6⟩ := h8 u hu
      exact ⟨a, v, k1, k2, k3.moved hA, k4.moved hA, k5.moved hA, k6.moved hA⟩
    · obtain ⟨a, k1, k2⟩ := h9 e he
      exact ⟨a, k1, k2.warm hW⟩
  · obtain ⟨h1, h2, ⟨h3, h3'⟩, h4, h5, ⟨bs, g1, g2, g3⟩, ⟨t, g4, g5, g6⟩, h6, h7, h8, h9⟩ := h
    refine ⟨h1, h2, ⟨h3.kept hq, h3'.kept hq⟩, h4, h5, ⟨bs, g1, g2, g3.kept (hq bs ?_ (Nat.not_le.mpr g2))⟩, ⟨t, g4, g5.kept hq, g6.kept hq⟩, h6.kept hq, h7.kept hq, fun u hu => ?_, h9⟩
    · obtain ⟨scr, z, -⟩ := g3
      exact (Array.getElem?_eq_some_iff.mp z).1
    · obtain ⟨a, v, k1, k2, k3, k4, k5, k6⟩ := h8 u hu
      exact ⟨a, v, k1, k2, k3.kept hq, k4.kept hq, k5.kept hq, k6.kept hq⟩
theorem am_Ev_V {D : va_G} {cy : Nat → ClassId} {b : Nat} {sa : Nat → Option Nat} {xs : Nat → Int32} {L : Nat} : ∀ s H, am_Ev D cy b sa xs L s H → ∀ w ∈ am_V, va_Nw w s := fun s H h => h.2.1
theorem am_Ev_T {D : va_G} {cy : Nat → ClassId} {b : Nat} {sa : Nat → Option Nat} {xs : Nat → Int32} {L : Nat} : ∀ u : Nat, u < 30 → ∀ (s : State) (H : Heap), am_Ev D cy b sa xs L s H → ∃ (a : Nat) (cell : Cell), sa u = some a ∧ H[a]? = some cell ∧ cell.vm.isStatics = false ∧ s.vm.findClass "java/lang/String" = some cell.cls := by
  intro u hu s H h
  obtain ⟨a, v, k1, k2, ⟨cell, z1, z2, z3, z4⟩, k4⟩ := h.2.2.2.2.2.2.2.2.2.1 u hu
  exact ⟨a, cell, k1, z1, z2, z3⟩
def am_sites : List (Nat × Nat × String) := [(151, 17, "java/lang/IllegalArgumentException"), (152, 10, "java/lang/IllegalStateException"), (155, 8, "java/lang/IllegalArgumentException"), (167, 4, "java/lang/IllegalStateException"), (168, 4, "java/lang/IllegalArgumentException"), (169, 9, "java/lang/IndexOutOfBoundsException")]
theorem am_sites_a : ∀ M, M < 453 → ∀ q ∈ am_2 am_thrs [] M, (M, q.1, q.2) ∈ am_sites := by decide +kernel
theorem am_thr_out {M : Nat} (h : 453 ≤ M) : am_2 am_thrs [] M = [] := by
  rcases Nat.lt_or_ge M 480 with z | z
  · have h0 : ∀ j, j < 27 → am_2 am_thrs [] (453 + j) = [] := by decide +kernel
    have := h0 (M - 453) (by omega)
    rwa [show 453 + (M - 453) = M by omega] at this
  · exact am_2_out (by decide) z
theorem am_at_IAEg : ∀ w ∈ (vx_atS "PromisePlatform" 135 "java/lang/IllegalArgumentException" ["java/lang/RuntimeException", "java/lang/Exception"]).filter goodWord, w ∈ tables_1 := by decide +kernel
theorem am_at_IAEn : ∀ w ∈ (vx_atS "PromisePlatform" 135 "java/lang/IllegalArgumentException" ["java/lang/RuntimeException", "java/lang/Exception"]).filter (fun w => !goodWord w), w ∈ am_V := by decide +kernel
theorem am_at_IAE {args : Array Value} {s : State} (hts : ∀ w ∈ am_U, w.before args s = true) (hV : ∀ w ∈ am_V, va_Nw w s) : ∀ w ∈ vx_atS "PromisePlatform" 135 "java/lang/IllegalArgumentException" ["java/lang/RuntimeException", "java/lang/Exception"], w.before args s = true := by
  refine vx_hat (B := am_V) (fun w hw => hts w (List.mem_filter.mpr ⟨List.mem_append_right _ (am_at_IAEg w hw), (List.mem_filter.mp hw).2⟩)) am_at_IAEn (fun w hw => ?_)
  have hk := (List.mem_filter.mp hw).2
  have hn := hV w hw
  unfold am_vk at hk
  split at hk <;> first | exact va_Nw.use rfl hn | exact va_AO.use hn | (cases hk; done)
theorem am_ok_IAE : am_has (.classLink "PromisePlatform" 131 "java/lang/IllegalArgumentException") (5, 96) = true ∧ am_has (.initialized "java/lang/IllegalArgumentException") (0, 22) = true := by decide +kernel
theorem am_gd_IAE : ∀ w ∈ Cond.classLink "PromisePlatform" 131 "java/lang/IllegalArgumentException" :: Cond.initialized "java/lang/IllegalArgumentException" :: vx_atS "PromisePlatform" 135 "java/lang/IllegalArgumentException" ["java/lang/RuntimeException", "java/lang/Exception"], vx_ot w = true := by decide +kernel
theorem am_at_ISEg : ∀ w ∈ (vx_atS "PromisePlatform" 467 "java/lang/IllegalStateException" ["java/lang/RuntimeException", "java/lang/Exception"]).filter goodWord, w ∈ tables_1 := by decide +kernel
theorem am_at_ISEn : ∀ w ∈ (vx_atS "PromisePlatform" 467 "java/lang/IllegalStateException" ["java/lang/RuntimeException", "java/lang/Exception"]).filter (fun w => !goodWord w), w ∈ am_V := by decide +kernel
theorem am_at_ISE {args : Array Value} {s : State} (hts : ∀ w ∈ am_U, w.before args s = true) (hV : ∀ w ∈ am_V, va_Nw w s) : ∀ w ∈ vx_atS "PromisePlatform" 467 "java/lang/IllegalStateException" ["java/lang/RuntimeException", "java/lang/Exception"], w.before args s = true := by
  refine vx_hat (B := am_V) (fun w hw => hts w (List.mem_filter.mpr ⟨List.mem_append_right _ (am_at_ISEg w hw), (List.mem_filter.mp hw).2⟩)) am_at_ISEn (fun w hw => ?_)
  have hk := (List.mem_filter.mp hw).2
  have hn := hV w hw
  unfold am_vk at hk
  split at hk <;> first | exact va_Nw.use rfl hn | exact va_AO.use hn | (cases hk; done)
theorem am_ok_ISE : am_has (.classLink "PromisePlatform" 463 "java/lang/IllegalStateException") (5, 29) = true ∧ am_has (.initialized "java/lang/IllegalStateException") (0, 21) = true := by decide +kernel
theorem am_gd_ISE : ∀ w ∈ Cond.classLink "PromisePlatform" 463 "java/lang/IllegalStateException" :: Cond.initialized "java/lang/IllegalStateException" :: vx_atS "PromisePlatform" 467 "java/lang/IllegalStateException" ["java/lang/RuntimeException", "java/lang/Exception"], vx_ot w = true := by decide +kernel
theorem am_at_IOBg : ∀ w ∈ (vx_atS "PromisePlatform" 472 "java/lang/IndexOutOfBoundsException" ["java/lang/RuntimeException", "java/lang/Exception"]).filter goodWord, w ∈ tables_1 := by decide +kernel
theorem am_at_IOBn : ∀ w ∈ (vx_atS "PromisePlatform" 472 "java/lang/IndexOutOfBoundsException" ["java/lang/RuntimeException", "java/lang/Exception"]).filter (fun w => !goodWord w), w ∈ am_V := by decide +kernel
theorem am_at_IOB {args : Array Value} {s : State} (hts : ∀ w ∈ am_U, w.before args s = true) (hV : ∀ w ∈ am_V, va_Nw w s) : ∀ w ∈ vx_atS "PromisePlatform" 472 "java/lang/IndexOutOfBoundsException" ["java/lang/RuntimeException", "java/lang/Exception"], w.before args s = true := by
  refine vx_hat (B := am_V) (fun w hw => hts w (List.mem_filter.mpr ⟨List.mem_append_right _ (am_at_IOBg w hw), (List.mem_filter.mp hw).2⟩)) am_at_IOBn (fun w hw => ?_)
  have hk := (List.mem_filter.mp hw).2
  have hn := hV w hw
  unfold am_vk at hk
  split at hk <;> first | exact va_Nw.use rfl hn | exact va_AO.use hn | (cases hk; done)
theorem am_ok_IOB : am_has (.classLink "PromisePlatform" 468 "java/lang/IndexOutOfBoundsException") (5, 177) = true ∧ am_has (.initialized "java/lang/IndexOutOfBoundsException") (0, 24) = true := by decide +kernel
theorem am_gd_IOB : ∀ w ∈ Cond.classLink "PromisePlatform" 468 "java/lang/IndexOutOfBoundsException" :: Cond.initialized "java/lang/IndexOutOfBoundsException" :: vx_atS "PromisePlatform" 472 "java/lang/IndexOutOfBoundsException" ["java/lang/RuntimeException", "java/lang/Exception"], vx_ot w = true := by decide +kernel
theorem am_P11 {l : Launch} {sp : Nat → Nat → List Value → Option (Nat × List Value)} {D : va_G} {cy : Nat → ClassId} {b : Nat} {sa : Nat → Option Nat} {xs : Nat → Int32} {L : Nat} (hl : l.stackTraces = false) (h1 : am_H1 (am_P sp) am_cc) : am_H11 l (am_P sp) am_nam am_cc am_U am_hh (am_Ev D cy b sa xs L) b := by
  intro M pc E hth p e R s m args below meth c H locs cells slots d mc ms Qc XC ls rest X hS hsz hcat htab hrc hrs hx9 hmc hms
  have hmem := am_lookup (show (am_2 am_thrs [] M).lookup pc = some E from hth)
  have hsite : (M, pc, E) ∈ am_sites := by
    rcases Nat.lt_or_ge M 453 with z | z
    · exact am_sites_a M z _ hmem
    · rw [am_thr_out z] at hmem; cases hmem
  obtain ⟨hx, hb, hml, hown, hts, hE, hlk, hr, hin, htb, htb2, hfr, hlo, hbs⟩ := id X
  have hV := hE.2.1
  have hZ := hE.2.2.1
  have hT := hE.2.2.2.1
  have hout : ∀ pc9 : Nat, ∀ x ∈ c.exceptionTable.toList, covers x pc9 = false := fun pc9 x hx9 => (htb htab x hx9).elim
  have hd : ∀ pc9 ins len, am_dec (am_P sp) M pc9 = some (ins, len) → decode (am_cc M) pc9 = .ok (ins, len) := fun pc9 ins len z => (h1 M pc9 ins len z).1
  simp only [am_sites, List.mem_cons, List.not_mem_nil, or_false, Prod.mk.injEq] at hsite
  rcases hsite with ⟨rfl, rfl, rfl⟩ | ⟨rfl, rfl, rfl⟩ | ⟨rfl, rfl, rfl⟩ | ⟨rfl, rfl, rfl⟩ | ⟨rfl, rfl, rfl⟩ | ⟨rfl, rfl, rfl⟩
  · obtain ⟨a, ha⟩ := hT ("PromisePlatform", 133, "the tape is full") (by decide)
    exact am_throwS (own := "PromisePlatform") (cls := "java/lang/IllegalArgumentException") (text := "the tape is full") (names := ["java/lang/RuntimeException", "java/lang/Exception"]) (ik := 131) (is := 133) (ic := 135) hx hb hl hown (by decide) (by decide) (hts _ (am_has_U am_ok_IAE.1)) (hts _ (am_has_U am_ok_IAE.2)) ha (am_at_IAE hts hV) am_gd_IAE hZ.1 hZ.2 hS hsz (hd _ _ 3 rfl) (hd _ _ 1 rfl) (hd _ _ 2 rfl) (hd _ _ 3 rfl) (hd _ _ 1 rfl) (hout _) (by show 2 + 3 < R.frames; omega) (by show _ + (13 * (2 + 1) + 43) ≤ R.locals; omega) hrc hrs hlk hx9 hS.2.2 hmc hms
  · obtain ⟨a, ha⟩ := hT ("PromisePlatform", 465, "the power is cut") (by decide)
    exact am_throwSW (own := "PromisePlatform") (cls := "java/lang/IllegalStateException") (text := "the power is cut") (names := ["java/lang/RuntimeException", "java/lang/Exception"]) (ik := 463) (is := 465) (ic := 467) hx hb hl hown (by decide) (by decide) (hts _ (am_has_U am_ok_ISE.1)) (hts _ (am_has_U am_ok_ISE.2)) ha (am_at_ISE hts hV) am_gd_ISE hZ.1 hZ.2 hS hsz (hd _ _ 3 rfl) (hd _ _ 1 rfl) (hd _ _ 3 rfl) (hd _ _ 3 rfl) (hd _ _ 1 rfl) (hout _) (by show 2 + 3 < R.frames; omega) (by show _ + (13 * (2 + 1) + 43) ≤ R.locals; omega) hrc hrs hlk hx9 hS.2.2 hmc hms
  · obtain ⟨a, ha⟩ := hT ("PromisePlatform", 141, "below 0 bytes") (by decide)
    exact am_throwS (own := "PromisePlatform") (cls := "java/lang/IllegalArgumentException") (text := "below 0 bytes") (names := ["java/lang/RuntimeException", "java/lang/Exception"]) (ik := 131) (is := 141) (ic := 135) hx hb hl hown (by decide) (by decide) (hts _ (am_has_U am_ok_IAE.1)) (hts _ (am_has_U am_ok_IAE.2)) ha (am_at_IAE hts hV) am_gd_IAE hZ.1 hZ.2 hS hsz (hd _ _ 3 rfl) (hd _ _ 1 rfl) (hd _ _ 2 rfl) (hd _ _ 3 rfl) (hd _ _ 1 rfl) (hout _) (by show 2 + 3 < R.frames; omega) (by show _ + (13 * (2 + 1) + 43) ≤ R.locals; omega) hrc hrs hlk hx9 hS.2.2 hmc hms
  · obtain ⟨a, ha⟩ := hT ("PromisePlatform", 475, "it is not so") (by decide)
    exact am_throwSW (own := "PromisePlatform") (cls := "java/lang/IllegalStateException") (text := "it is not so") (names := ["java/lang/RuntimeException", "java/lang/Exception"]) (ik := 463) (is := 475) (ic := 467) hx hb hl hown (by decide) (by decide) (hts _ (am_has_U am_ok_ISE.1)) (hts _ (am_has_U am_ok_ISE.2)) ha (am_at_ISE hts hV) am_gd_ISE hZ.1 hZ.2 hS hsz (hd _ _ 3 rfl) (hd _ _ 1 rfl) (hd _ _ 3 rfl) (hd _ _ 3 rfl) (hd _ _ 1 rfl) (hout _) (by show 2 + 3 < R.frames; omega) (by show _ + (13 * (2 + 1) + 43) ≤ R.locals; omega) hrc hrs hlk hx9 hS.2.2 hmc hms
  · obtain ⟨a, ha⟩ := hT ("PromisePlatform", 473, "it is none that is told") (by decide)
    exact am_throwSW (own := "PromisePlatform") (cls := "java/lang/IllegalArgumentException") (text := "it is none that is told") (names := ["java/lang/RuntimeException", "java/lang/Exception"]) (ik := 131) (is := 473) (ic := 135) hx hb hl hown (by decide) (by decide) (hts _ (am_has_U am_ok_IAE.1)) (hts _ (am_has_U am_ok_IAE.2)) ha (am_at_IAE hts hV) am_gd_IAE hZ.1 hZ.2 hS hsz (hd _ _ 3 rfl) (hd _ _ 1 rfl) (hd _ _ 3 rfl) (hd _ _ 3 rfl) (hd _ _ 1 rfl) (hout _) (by show 2 + 3 < R.frames; omega) (by show _ + (13 * (2 + 1) + 43) ≤ R.locals; omega) hrc hrs hlk hx9 hS.2.2 hmc hms
  · obtain ⟨a, ha⟩ := hT ("PromisePlatform", 470, "there is none such") (by decide)
    exact am_throwSW (own := "PromisePlatform") (cls := "java/lang/IndexOutOfBoundsException") (text := "there is none such") (names := ["java/lang/RuntimeException", "java/lang/Exception"]) (ik := 468) (is := 470) (ic := 472) hx hb hl hown (by decide) (by decide) (hts _ (am_has_U am_ok_IOB.1)) (hts _ (am_has_U am_ok_IOB.2)) ha (am_at_IOB hts hV) am_gd_IOB hZ.1 hZ.2 hS hsz (hd _ _ 3 rfl) (hd _ _ 1 rfl) (hd _ _ 3 rfl) (hd _ _ 3 rfl) (hd _ _ 1 rfl) (hout _) (by show 2 + 3 < R.frames; omega) (by show _ + (13 * (2 + 1) + 43) ≤ R.locals; omega) hrc hrs hlk hx9 hS.2.2 hmc hms
