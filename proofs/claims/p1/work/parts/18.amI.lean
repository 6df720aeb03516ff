section AMZ
variable (l : Launch) (G : am_G) (nam : Nat → MethodName) (cco : Nat → ByteArray) (U : List Cond) (hhh : Nat → List (Nat × Nat × Nat × Nat)) (Ev : State → Heap → Prop) (D : va_G) (cl : List vw_C) (cy : Nat → ClassId) (b : Nat) (sa : Nat → Option Nat)
def am_H1 : Prop := ∀ M pc ins len, am_dec G M pc = some (ins, len) → decode (cco M) pc = .ok (ins, len) ∧ (am_sw ins = false → len = am_len ins)
def am_H2 : Prop := (∀ M i v, (am_kk G M).1 i = some v → Cond.constant (nam M).cls i v ∈ U) ∧ (∀ M i v, (am_kk G M).2 i = some v → Cond.constantLong (nam M).cls i v ∈ U)
def am_H4 : Prop := ∀ (M : Nat) (args : Array Value) (s : State) (H : Heap), (∀ w ∈ U, w.before args s = true) → Ev s H → am_hL (nam M).cls (am_lkk G M) cl cy args s ∧ am_hR cl args s
def am_H6 : Prop := (∀ (S : State) (H : Heap), Ev S H → va_K D cl (am_tys cy) S) ∧ (∀ (s S : State) (H : Heap), s.WarmedH S.vm → Ev s H → Ev S H) ∧ (∀ (s : State) (H H1 : Heap), (∀ q : Nat, q < H.size → ¬ b ≤ q → H1[q]? = H[q]?) → Ev s H → Ev s H1)
def am_H7 (sa : Nat → Option Nat) : Prop := ∀ M ix k y n ci, am_cal G M ix = some (k, y, n, ci) →
  (k = 3 → Cond.methodLink (nam M).cls ix Lib.objectInit ∈ U ∧ Cond.instanceMethod Lib.objectInit ∈ U ∧ Cond.code Lib.objectInit ⟨#[0xb1]⟩ 1 none ∈ U) ∧
  (¬ k = 3 → am_cw G nam cco hhh y ∈ U ∧ Cond.initialized (nam y).cls ∈ U ∧ am_mxl G y ≤ 40 ∧ ((nam y).cls ≠ "java/lang/invoke/MethodHandle" ∧ (nam y).cls ≠ "java/lang/invoke/VarHandle" ∧ (parseMethodDescriptor (nam y).desc).map (fun d => d.parameters.length) = some n)) ∧
  (k = 0 → Cond.methodLink (nam M).cls ix (nam y) ∈ U ∧ Cond.static (nam y) ∈ U) ∧
  (k = 6 → am_tab G y = false ∧ Cond.static (nam y) ∈ U ∧ ∃ host, ∀ (s : State) (H : Heap), Ev s H → va_Nw (.methodLinkNest (nam M).cls ix (nam y) host) s) ∧
  (k = 1 → am_tab G y = false ∧ Cond.methodLink (nam M).cls ix (nam y) ∈ U ∧ Cond.instanceMethod (nam y) ∈ U ∧ ∃ q : vw_C, cl[ci]? = some q ∧ Cond.selects q.1 (nam y) (nam y) ∈ U) ∧
  (k = 7 → am_tab G y = false ∧ Cond.instanceMethod (nam y) ∈ U ∧ (∃ q : vw_C, cl[ci]? = some q ∧ Cond.selects q.1 (nam y) (nam y) ∈ U) ∧ ∃ host, ∀ (s : State) (H : Heap), Ev s H → va_Nw (.methodLinkNest (nam M).cls ix (nam y) host) s) ∧
  (k = 2 → am_tab G y = false ∧ am_rty G y = none ∧ (nam y).name = "<init>" ∧ Cond.methodLink (nam M).cls ix (nam y) ∈ U ∧ Cond.instanceMethod (nam y) ∈ U) ∧
  (k = 8 → am_tab G y = false ∧ am_rty G y = none ∧ (nam y).name = "<init>" ∧ Cond.instanceMethod (nam y) ∈ U ∧ ∃ host, ∀ (s : State) (H : Heap), Ev s H → va_Nw (.methodLinkNest (nam M).cls ix (nam y) host) s) ∧
  (k = 9 → am_tab G y = false ∧ Cond.methodLink (nam M).cls ix (nam y) ∈ U ∧ Cond.instanceMethod (nam y) ∈ U ∧ Cond.selects "java/lang/String" (nam y) (nam y) ∈ U ∧ ∀ u : Nat, u < 30 → ∀ (s : State) (H : Heap), Ev s H → ∃ (a : Nat) (cell : Cell), sa u = some a ∧ H[a]? = some cell ∧ cell.vm.isStatics = false ∧ s.vm.findClass "java/lang/String" = some cell.cls)
def am_H8 : Prop := ∀ w ∈ U, goodWord w = true
def am_H9 : Prop := ∀ M, plainName (nam M).cls = true ∧ (am_ini G M = true → (nam M).name = "<init>")
def am_H10 : Prop := ∀ M pc st pc' st', am_spc G M pc st = some (pc', st') → ∀ (p : Program) (e : Env) (R : Room) (s : State) (m : MethodId) (args : Array Value) (below : List Frame) (meth : Method) (c : Code) (H : Heap) (locs : List Loc) (cells slots d : Nat) (Q : State → Prop) (ls : Array Slot),
  am_Cx G nam cco U hhh Ev b p R s m args meth c M d → va_S (fun q => b ≤ q) s.heap H locs → ls.size = c.maxLocals → cells ≤ R.cells → slots ≤ R.slots → W p l e R s m args below meth c H locs cells slots Q (F0 m pc' ls (st'.map (am_r b sa))) → W p l e R s m args below meth c H locs cells slots Q (F0 m pc ls (st.map (am_r b sa)))
def am_H11 : Prop := ∀ M pc E, am_thr G M pc = some E → ∀ (p : Program) (e : Env) (R : Room) (s : State) (m : MethodId) (args : Array Value) (below : List Frame) (meth : Method) (c : Code) (H : Heap) (locs : List Loc) (cells slots d mc ms : Nat) (Qc : Array Value → State → Outcome → State → Prop) (XC : String → State → State → Prop) (ls : Array Slot) (rest : List Value),
  am_Cx G nam cco U hhh Ev b p R s m args meth c M d → va_S (fun q => b ≤ q) s.heap H locs → ls.size = c.maxLocals → (rest.map fun v => v.category).sum ≤ 8 → am_tab G M = false → cells + 1 ≤ R.cells → slots + 6 ≤ R.slots → (∀ t : State, s.vm.Alike t.vm → t.heap.size = H.size + 1 → (∀ q : Nat, q < H.size → t.heap[q]? = H[q]?) → XC E s t) → cells + 1 ≤ mc → slots + 6 ≤ ms →
  W p l e R s m args below meth c H locs cells slots (vx_MQ below Qc XC args s mc ms (fun q => b ≤ q)) (F0 m pc ls rest)
def am_H12 : Prop := ∀ M pc E cst, am_hnd G M pc E = some cst → am_rty G M = some .int ∧ ∀ (p : Program) (e : Env) (R : Room) (s : State) (m : MethodId) (args : Array Value) (below : List Frame) (meth : Method) (c : Code) (H : Heap) (locs : List Loc) (cells slots d : Nat) (Q : State → Prop) (ls : Array Slot) (rest : List Value) (q9 : Addr) (ce : Cell) (lv : am_L),
  am_Cx G nam cco U hhh Ev b p R s m args meth c M d → lv_has ls (am_mxl G M) lv → H[q9]? = some ce → ce.vm = .none → s.vm.findClass E = some ce.cls → (∀ (pc1 : Nat) (ls1 : Array Slot), decode (cco M) pc1 = .ok (.ireturn, 1) → W p l e R s m args below meth c H locs cells slots Q (F0 m pc1 ls1 [.int cst])) → vx_W p l e R s m args below meth c H locs cells slots Q (F0 m pc ls rest) q9
/-- what a body owes at its end -/
def am_End (p : Program) (e : Env) (R : Room) (s : State) (m : MethodId) (args : Array Value) (below : List Frame) (meth : Method) (c : Code) (Q : State → Prop) (M n0 t0 : Nat) (o : am_Out) (h' : am_H) : Prop :=
  (∀ (v : Option Value), o = .inl v → ∀ (pc1 : Nat) (ins : Instr) (st1 : List Value) (ls1 : Array Slot) (H1 : Heap) (locs1 : List Loc) (c1 s1 : Nat), decode (cco M) pc1 = .ok (ins, 1) → am_rt (am_rty G M) ins st1 = some v → am_W D cl cy b sa h' H1 → va_S (fun q => b ≤ q) s.heap H1 locs1 → c1 + n0 = h'.length → s1 + t0 = am_sl h' → W p l e R s m args below meth c H1 locs1 c1 s1 Q (F0 m pc1 ls1 (st1.map (am_r b sa)))) ∧
  (∀ (E : String), o = .inr E →
    (∀ (pc1 : Nat) (st1 : List Value) (ls1 : Array Slot) (h1 : am_H) (H1 : Heap) (locs1 : List Loc) (c1 s1 : Nat), am_thr G M pc1 = some E → am_cat st1 ≤ 8 → am_tab G M = false → h' = h1 ++ [.inr (99, [.null, .null, .null, .null, .null, .null])] → am_W D cl cy b sa h1 H1 → va_S (fun q => b ≤ q) s.heap H1 locs1 → ls1.size = c.maxLocals → c1 + n0 = h1.length → s1 + t0 = am_sl h1 → W p l e R s m args below meth c H1 locs1 c1 s1 Q (F0 m pc1 ls1 (st1.map (am_r b sa)))) ∧
    (∀ (pc1 : Nat) (rest1 : List Value) (ls1 : Array Slot) (H1 : Heap) (locs1 : List Loc) (c1 s1 : Nat) (q9 : Addr) (ce : Cell), am_tab G M = false → am_W D cl cy b sa h' H1 → va_S (fun q => b ≤ q) s.heap H1 locs1 → H1[q9]? = some ce → ce.vm = .none → s.vm.findClass E = some ce.cls → c1 + n0 = h'.length → s1 + t0 = am_sl h' → vx_W p l e R s m args below meth c H1 locs1 c1 s1 Q (F0 m pc1 ls1 rest1) q9))
def am_SIM (f : Nat) : Prop := ∀ (d M pc : Nat) (lv : am_L) (st : List Value) (h : am_H) (o : am_Out) (h' : am_H), am_run G f d M pc lv st h = some (o, h') →
  ∀ (p : Program) (e : Env) (R : Room) (s : State) (m : MethodId) (args : Array Value) (below : List Frame) (meth : Method) (c : Code) (H : Heap) (locs : List Loc) (cells slots n0 t0 : Nat) (Q : State → Prop) (ls : Array Slot),
  am_Cx G nam cco U hhh Ev b p R s m args meth c M d → lv_has ls (am_mxl G M) (am_rl b sa lv) → am_W D cl cy b sa h H → va_S (fun q => b ≤ q) s.heap H locs → cells + n0 = h.length → slots + t0 = am_sl h → h'.length ≤ R.cells + n0 → am_sl h' ≤ R.slots + t0 → am_End l G cco D cl cy b sa p e R s m args below meth c Q M n0 t0 o h' →
  W p l e R s m args below meth c H locs cells slots Q (F0 m pc ls (st.map (am_r b sa)))
def am_MET (f : Nat) : Prop := ∀ (d M : Nat) (vs : List Value) (h : am_H) (o : am_Out) (h' : am_H), am_run G f d M 0 (lv_args 0 vs) [] h = some (o, h') → (lg_sl vs).length ≤ am_mxl G M →
  vx_Met l (nam M) (am_ws G nam cco U hhh M) (am_rm d (h'.length - h.length) (am_sl h' - am_sl h)) (am_Pc Ev D cl cy b sa vs h) (am_Qc D cl cy b sa o h') (am_XC D cl cy b sa o h') (h'.length - h.length) (am_sl h' - am_sl h) (fun q => b ≤ q)
theorem am_goodIn {M : Nat} {L : List Cond} (h8 : am_H8 U) (h : ∀ w ∈ L, w ∈ U) : GoodIn (am_ws G nam cco U hhh M) L := fun w hw => ⟨List.mem_cons_of_mem _ (h w hw), good_of_word (h8 w (h w hw))⟩
theorem am_goodU {L : List Cond} (h8 : am_H8 U) (h : ∀ w ∈ L, w ∈ U) : GoodIn U L := fun w hw => ⟨h w hw, good_of_word (h8 w (h w hw))⟩
theorem am_ws_in {M : Nat} (h : am_cw G nam cco hhh M ∈ U) : ∀ w ∈ am_ws G nam cco U hhh M, w ∈ U := by
  intro w hw
  rcases List.mem_cons.mp hw with rfl | hw
  · exact h
  · exact hw
theorem am_blind {vs : List Value} {h : am_H} (h6 : am_H6 Ev D cl cy b) : FrameBlind (am_Pc Ev D cl cy b sa vs h) := by
  intro a S g mk q
  obtain ⟨q0, q1, q2⟩ := q
  exact ⟨q0, q1, h6.2.1 S (S.calling g mk a) S.heap (State.WarmedH.refl S) q2⟩
theorem am_pre {s : State} {H : Heap} {locs : List Loc} {vs : List Value} {h : am_H} (h6 : am_H6 Ev D cl cy b) (hE : Ev s s.heap) (hS : va_S (fun q => b ≤ q) s.heap H locs) (hw : am_W D cl cy b sa h H) (S : State) (hH : S.heap = H) (hW : s.WarmedH S.vm) : am_Pc Ev D cl cy b sa vs h (vs.map (am_r b sa)).toArray S := by
  refine ⟨rfl, by rw [hH]; exact hw, ?_⟩
  rw [hH]
  exact h6.2.1 s S H hW (h6.2.2 s s.heap H (fun q h1 h2 => hS.2.1 q h1 h2) hE)
end AMZ
