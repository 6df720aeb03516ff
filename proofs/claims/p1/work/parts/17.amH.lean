/-! THE SIMULATION: what the interpreter answers, the machine does. -/
theorem am_sl_r (b : Nat) (sa : Nat → Option Nat) (vs : List Value) : (lg_sl (vs.map (am_r b sa))).length = (lg_sl vs).length := by
  unfold lg_sl
  induction vs with
  | nil => rfl
  | cons v vs ih =>
    rw [List.map_cons, List.flatMap_cons, List.flatMap_cons, List.length_append, List.length_append, ih, am_r_cat]
    congr 1
    split <;> rfl
theorem am_r_fl (b : Nat) (sa : Nat → Option Nat) (x : UInt32) : am_r b sa (.float x) = .null ∨ ∃ a, am_r b sa (.float x) = .ref a := by
  cases h : sa x.toNat with
  | none => exact Or.inl (by show va_rf (sa _) = _; rw [h]; rfl)
  | some a => exact Or.inr ⟨a, by show va_rf (sa _) = _; rw [h]; rfl⟩
theorem am_args_r (b : Nat) (sa : Nat → Option Nat) : ∀ (vs : List Value) (i : Nat), am_rl b sa (lv_args i vs) = lv_args i (vs.map (am_r b sa)) := by
  intro vs
  induction vs with
  | nil => intro i; rfl
  | cons v vs ih =>
    intro i
    rw [List.map_cons, lv_args, lv_args, am_r_cat, ← ih]
    rfl
section AMS
variable (l : Launch) (G : am_G) (nam : Nat → MethodName) (cco : Nat → ByteArray) (U : List Cond) (hhh : Nat → List (Nat × Nat × Nat × Nat)) (Ev : State → Heap → Prop) (D : va_G) (cl : List vw_C) (cy : Nat → ClassId) (b : Nat) (sa : Nat → Option Nat)
def am_cw (M : Nat) : Cond := if am_tab G M = true then .codeWith (nam M) (cco M) (am_mxl G M) (am_rty G M) (hhh M) else .code (nam M) (cco M) (am_mxl G M) (am_rty G M)
def am_ws (M : Nat) : List Cond := am_cw G nam cco hhh M :: U
/-- where a method's body runs -/
def am_Cx (p : Program) (R : Room) (s : State) (m : MethodId) (args : Array Value) (meth : Method) (c : Code) (M d : Nat) : Prop :=
  p.tables.exec = Jvm.exec ∧ c.code = cco M ∧ c.maxLocals = am_mxl G M ∧ s.vm.findClass (nam M).cls = some m.cls ∧ (∀ w ∈ U, w.before args s = true) ∧ Ev s s.heap ∧ meth.locks = false ∧ meth.sig.returnType = am_rty G M ∧ (am_ini G M = true → meth.name = "<init>") ∧ (am_tab G M = false → ∀ x ∈ c.exceptionTable.toList, False) ∧ (am_tab G M = true → c.exceptionTable.toList = tableOf (hhh M)) ∧ d + 16 ≤ R.frames ∧ 200 + 60 * d ≤ R.locals ∧ b ≤ s.heap.size
def am_rm (d mc ms : Nat) : Room := { frames := d + 16, cells := mc, slots := ms, locals := 200 + 60 * d }
def am_Pc (vs : List Value) (h : am_H) : Array Value → State → Prop := va_Pc (vs.map (am_r b sa)) (fun S => am_W D cl cy b sa h S.heap ∧ Ev S S.heap)
def am_Qc (o : am_Out) (h' : am_H) : Array Value → State → Outcome → State → Prop := fun _ st oc t => (∃ v : Option Value, o = .inl v ∧ oc = .returned (v.map (am_r b sa)) ∧ am_W D cl cy b sa h' t.heap) ∧ va_F (fun q => b ≤ q) st t
def am_XC (o : am_Out) (h' : am_H) : String → State → State → Prop := fun E st t => (o = .inr E ∧ am_W D cl cy b sa h' t.heap) ∧ va_F (fun q => b ≤ q) st t
/-- a call that has come back -/
theorem am_callK {p : Program} {e : Env} {R : Room} {s : State} {m : MethodId} {args : Array Value} {below : List Frame} {meth : Method} {c : Code} {H H0 : Heap} {locs : List Loc} {cells slots mc ms pc : Nat} {Q : State → Prop} {ls : Array Slot} {st0 rest : List Value} {o : am_Out} {h' : am_H} {a : Array Value}
    (hr : vx_Run p l e R s m args below meth c H locs cells slots mc ms (F0 m pc ls st0) rest (am_Qc D cl cy b sa o h' a) (am_XC D cl cy b sa o h') (fun q => b ≤ q)) (hS : va_S (fun q => b ≤ q) H0 H locs)
    (kv : ∀ (v : Option Value) (H1 : Heap) (locs1 : List Loc), o = .inl v → am_W D cl cy b sa h' H1 → va_S (fun q => b ≤ q) H0 H1 locs1 → W p l e R s m args below meth c H1 locs1 (cells + mc) (slots + ms) Q (F0 m (pc + 3) ls ((v.map (am_r b sa)).toList ++ rest)))
    (kx : ∀ (E : String) (H1 : Heap) (locs1 : List Loc) (q9 : Addr) (ce : Cell), o = .inr E → am_W D cl cy b sa h' H1 → va_S (fun q => b ≤ q) H0 H1 locs1 → H1[q9]? = some ce → ce.vm = .none → s.vm.findClass E = some ce.cls → vx_W p l e R s m args below meth c H1 locs1 (cells + mc) (slots + ms) Q (F0 m pc ls rest) q9) : W p l e R s m args below meth c H locs cells slots Q (F0 m pc ls st0) := by
  intro T hT X
  rcases hr T hT X with ⟨v, st₀, t, T', L, h0, X', hL, e1, e2, ⟨⟨v9, ho, hv, hw⟩, hF⟩, st⟩ | ⟨q, st₀, t, T', L, E, ce, h0, X', hL, e1, e2, ⟨⟨ho, hw⟩, hF⟩, hce, hcv, hcl, st⟩
  · cases hv
    obtain ⟨k1, k2, k3⟩ := vx_keep h0 e1 hS (fun q _ h => h) (fun q h => h) hL hF
    obtain ⟨t2, a1, b1⟩ := kv v9 T'.heap (locs ++ L) ho (by rw [e1]; exact hw) k3 T' rfl X'
    exact ⟨t2, st t2 a1, b1⟩
  · obtain ⟨k1, k2, k3⟩ := vx_keep h0 e1 hS (fun q _ h => h) (fun q h => h) hL hF
    obtain ⟨t2, a1, b1⟩ := kx E T'.heap (locs ++ L) q ce ho (by rw [e1]; exact hw) k3 (by rw [e1]; exact hce) hcv hcl T' rfl X'
    exact ⟨t2, st.trans a1, b1⟩
/-- .. of a callee that never throws -/
theorem am_callR {p : Program} {e : Env} {R : Room} {s : State} {m : MethodId} {args : Array Value} {below : List Frame} {meth : Method} {c : Code} {H H0 : Heap} {locs : List Loc} {cells slots mc ms pc : Nat} {Q : State → Prop} {ls : Array Slot} {st0 rest : List Value} {o : am_Out} {h' : am_H} {a : Array Value}
    (hr : va_Run p l e R s m args below meth c H locs cells slots mc ms (F0 m pc ls st0) rest (am_Qc D cl cy b sa o h' a) (fun q => b ≤ q)) (hS : va_S (fun q => b ≤ q) H0 H locs)
    (kv : ∀ (v : Option Value) (H1 : Heap) (locs1 : List Loc), o = .inl v → am_W D cl cy b sa h' H1 → va_S (fun q => b ≤ q) H0 H1 locs1 → W p l e R s m args below meth c H1 locs1 (cells + mc) (slots + ms) Q (F0 m (pc + 3) ls ((v.map (am_r b sa)).toList ++ rest))) : W p l e R s m args below meth c H locs cells slots Q (F0 m pc ls st0) := by
  intro T hT X
  obtain ⟨v, st₀, t, T', L, h0, X', hL, e1, e2, ⟨⟨v9, ho, hv, hw⟩, hF⟩, st⟩ := hr T hT X
  cases hv
  obtain ⟨k1, k2, k3⟩ := vx_keep h0 e1 hS (fun q _ h => h) (fun q h => h) hL hF
  obtain ⟨t2, a1, b1⟩ := kv v9 T'.heap (locs ++ L) ho (by rw [e1]; exact hw) k3 T' rfl X'
  exact ⟨t2, st t2 a1, b1⟩
/-- a contract of one that never throws, as the kit's plain contract -/
theorem am_plain {y : MethodName} {ws : List Cond} {rm : Room} {Pc : Array Value → State → Prop} {v : Option Value} {h' : am_H} {mc ms : Nat} (h : vx_Met l y ws rm Pc (am_Qc D cl cy b sa (.inl v) h') (am_XC D cl cy b sa (.inl v) h') mc ms (fun q => b ≤ q)) : Met l y ws rm Pc (am_Qc D cl cy b sa (.inl v) h') mc ms (fun q => b ≤ q) := by
  intro p e ha hc hk s m args below h1 h2 h3 h4
  obtain ⟨n, o, g1, g2, g3, g4⟩ := h p e ha hc hk s m args below h1 h2 h3 h4
  refine ⟨n, o, g1, g2, g3, ?_⟩
  rcases g4 with g4 | ⟨q, ho, E, ce, L, ⟨⟨hx, -⟩, -⟩, -⟩
  · exact g4
  · cases hx
end AMS
