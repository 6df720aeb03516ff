def am_pl : Value → Bool
  | .ref _ => false
  | .float _ => false
  | _ => true
theorem am_pl_r {b : Nat} {sa : Nat → Option Nat} {v : Value} (h : am_pl v = true) : am_r b sa v = v := by cases v <;> first | rfl | cases h
theorem am_pl_map {b : Nat} {sa : Nat → Option Nat} {fs : List Value} (h : ∀ v ∈ fs, am_pl v = true) : fs.map (am_r b sa) = fs := by
  induction fs with
  | nil => rfl
  | cons v fs ih => rw [List.map_cons, am_pl_r (h v List.mem_cons_self), ih (fun w hw => h w (List.mem_cons_of_mem _ hw))]
theorem am_narrow {b : Nat} {sa : Nat → Option Nat} {ty : FieldType} {v : Value} (hv : am_nf v = true) (h : narrow ty v = v) : narrow ty (am_r b sa v) = am_r b sa v := by
  cases v with
  | ref i => cases ty <;> rfl
  | float u => cases hv
  | _ => exact h
theorem am_fits {b : Nat} {sa : Nat → Option Nat} {ty : FieldType} {v : Value} (hv : am_nf v = true) (h : fits ty v = true) : fits ty (am_r b sa v) = true := by
  cases v with
  | ref i => cases ty <;> first | exact h | rfl
  | float u => cases hv
  | _ => exact h
/-- what the tables say of the classes -/
def am_hC (X : am_ci) (cl : List vw_C) (Ts : List Cond) : Prop := ∀ (ci : Nat) (q : vw_C), cl[ci]? = some q → (∀ w ∈ u_ws q.1 q.2.1 q.2.2, w ∈ Ts) ∧ (∀ k, k < q.2.2 → parseFieldDescriptor (q.2.1 k).2.2.1 = some (X.1 ci k)) ∧ (∀ a, a < q.2.2 → ∀ b, b < q.2.2 → a ≠ b → (q.2.1 a).2.1 ≠ (q.2.1 b).2.1) ∧ (∀ j, j < q.2.2 → defaultValue (X.1 ci j) = vp_V (X.2 ci) j) ∧ (X.2 ci).length = q.2.2 ∧ (∀ v ∈ X.2 ci, am_pl v = true)
/-- .. of the links of a method's class -/
def am_hL (own : String) (K : am_lk) (cl : List vw_C) (cy : Nat → ClassId) (args : Array Value) (s : State) : Prop :=
  (∀ ix ci k md, K.1 ix = some (ci, k, md) → ∃ q : vw_C, cl[ci]? = some q ∧ k < q.2.2 ∧ ((Cond.fieldLink own ix (q.2.1 k).1 (q.2.1 k).2.1 (q.2.1 k).2.2.1).before args s = true ∨ (md = 2 ∧ ∃ host, (Cond.fieldLinkNest own ix (q.2.1 k).1 (q.2.1 k).2.1 (q.2.1 k).2.2.1 host).before args s = true)) ∧ (md = 0 → (q.2.1 k).2.2.2 = false) ∧ (md = 1 → (q.2.1 k).2.2.2 = true ∧ (q.2.1 k).1 = own)) ∧
  (∀ ix ci, K.2.1 ix = some ci → ∃ q : vw_C, cl[ci]? = some q ∧ (Cond.classLink own ix q.1).before args s = true ∧ (Cond.instantiable q.1 q.2.2).before args s = true ∧ (Cond.initialized q.1).before args s = true) ∧
  (∀ ix t, K.2.2 ix = some t → ∃ C : String, (am_tys cy)[t]? = some (cy t, .object C) ∧ (Cond.classLink own ix C).before args s = true ∧ va_AO C s)
/-- .. of arrays -/
def am_hR (cl : List vw_C) (args : Array Value) (s : State) : Prop := (∀ ty t, am_tag ty = some t → (Cond.arrayClass (newarray.typeOf ty)).before args s = true) ∧ (∃ q : vw_C, cl[3]? = some q ∧ q.1 = "PromisePlatform$Num") ∧ (∃ q : vw_C, cl[9]? = some q ∧ q.1 = "PromisePlatform$State")
theorem am_lt6 {t : Nat} (h : t < 6) : t = 0 ∨ t = 1 ∨ t = 2 ∨ t = 3 ∨ t = 4 ∨ t = 5 := by omega
section AMB
variable {p : Program} {l : Launch} {e : Env} {R : Room} {s : State} {m : MethodId} {args : Array Value} {below : List Frame} {meth : Method} {c : Code} {H : Heap} {locs : List Loc} {cells slots : Nat} {Q : State → Prop}
variable {D : va_G} {cl : List vw_C} {cy : Nat → ClassId} {b : Nat} {sa : Nat → Option Nat}
theorem am_v_r (r : Option Nat) : am_r b sa (am_v r) = va_rf (r.map (fun i => b + i)) := by cases r <;> rfl
set_option maxHeartbeats 4000000 in
theorem am_b_ok {cc : ByteArray} {own : String} {X : am_ci} {K : am_lk} {ini : Bool} {Ts : List Cond} {len pc pc' n0 t0 : Nat} {ins : Instr} {st st' : List Value} {h h' : am_H} {ls : Array Slot} {H0 : Heap}
    (hx : p.tables.exec = Jvm.exec) (hb : c.code = cc) (hown : s.vm.findClass own = some m.cls) (hts : ∀ w ∈ Ts, w.before args s = true) (hK : va_K D cl (am_tys cy) s) (hC : am_hC X cl Ts) (hL : am_hL own K cl cy args s) (hR : am_hR cl args s) (hini : ini = true → meth.name = "<init>")
    (hd : decode cc pc = .ok (ins, len)) (hlen : am_sw ins = false → len = am_len ins) (hs : am_b X K ini ins pc st h = some (pc', st', h'))
    (hw : am_W D cl cy b sa h H) (hS : va_S (fun q => b ≤ q) H0 H locs) (hc : cells + n0 = h.length) (ht : slots + t0 = am_sl h) (hrc : h'.length ≤ R.cells + n0) (hrs : am_sl h' ≤ R.slots + t0)
    (k : ∀ (H1 : Heap) (locs1 : List Loc) (cells1 slots1 : Nat), am_W D cl cy b sa h' H1 → va_S (fun q => b ≤ q) H0 H1 locs1 → cells1 + n0 = h'.length → slots1 + t0 = am_sl h' → W p l e R s m args below meth c H1 locs1 cells1 slots1 Q (F0 m pc' ls (st'.map (am_r b sa)))) : W p l e R s m args below meth c H locs cells slots Q (F0 m pc ls (st.map (am_r b sa))) := by
  cases ins
  case getfield ix =>
    have hlen := hlen rfl; simp only [am_len] at hlen; subst hlen
    simp only [am_b] at hs
    split at hs
    · rename_i i r
      split at hs
      · rename_i ci kf md cj fs hk hi
        split at hs
        · rename_i hq
          obtain ⟨rfl, hcj⟩ := hq
          split at hs
          · rename_i v hv
            cases hs
            obtain ⟨q, hq, hkN, hlk, -, -⟩ := hL.1 _ _ _ _ hk
            obtain ⟨C, T, N⟩ := q
            obtain ⟨hin, -⟩ := hC _ _ hq
            have hP := hw.one hi (by simp [am_op, hcj])
            rcases hlk with hlk | ⟨-, host, hlk⟩
            · exact va_get (D := D) (ci := ci) (C := C) (T := T) (N := N) hx hb hts hin hown hK hP 0 rfl hq kf hkN hlk (fun _ h9 => h9) (by rw [List.getElem?_map, hv]; rfl) hd (k _ _ _ _ hw hS hc ht)
            · exact va_getN (D := D) (ci := ci) (C := C) (T := T) (N := N) hx hb hts hin hown hK hP 0 rfl hq kf hkN hlk (fun _ h9 => h9) (by rw [List.getElem?_map, hv]; rfl) hd (k _ _ _ _ hw hS hc ht)
          · cases hs
        · cases hs
      · cases hs
    · cases hs
  case putfield ix =>
    have hlen := hlen rfl; simp only [am_len] at hlen; subst hlen
    simp only [am_b] at hs
    split at hs
    · rename_i v i r
      split at hs
      · rename_i ci kf md cj fs hk hi
        split at hs
        · rename_i hq
          obtain ⟨rfl, hcj, hkl, hmd, hn, hf, hnf⟩ := hq
          cases hs
          obtain ⟨q, hq, hkN, hlk, hm0, hm1⟩ := hL.1 _ _ _ _ hk
          obtain ⟨C, T, N⟩ := q
          obtain ⟨hin, hty, hnm, -⟩ := hC _ _ hq
          have hat := hw.2 i _ hi (by simp [am_op, hcj])
          have hlk : (Cond.fieldLink own ix (T kf).1 (T kf).2.1 (T kf).2.2.1).before args s = true := by
            rcases hlk with hlk | ⟨h2, -⟩
            · exact hlk
            · omega
          have hsz : am_sl (h.set i (.inr (ci, fs.set kf v))) = am_sl h := am_sl_set hi (by simp [am_sz])
          have fin : ∀ (H1 : Heap) (locs1 : List Loc), va_at D cl (b + i, .inr (ci, (fs.map (am_r b sa)).set kf (am_r b sa v))) H1 → H1.size = H.size → (∀ q : Nat, q ≠ b + i → H1[q]? = H[q]?) → va_S (fun q => b ≤ q) H0 H1 locs1 → W p l e R s m args below meth c H1 locs1 cells slots Q (F0 m (pc + 3) ls (st'.map (am_r b sa))) := fun H1 locs1 h1 h2 h3 h4 =>
            k H1 locs1 cells slots (hw.set (by rw [← List.map_set] at h1; exact h1) h2 h3) h4 (by rw [List.length_set]; exact hc) (by rw [hsz]; exact ht)
          by_cases h0 : md = 0
          · exact am_put (D := D) (ci := ci) (C := C) (T := T) (N := N) hx hb hts hin (X.1 ci) hty hnm hown hK hat hq kf hkN hlk (hm0 h0) (am_narrow hnf hn) (am_fits hnf hf) (by rw [List.length_map]; exact hkl) hS (Nat.le_add_right b i) hd fin
          · obtain ⟨h1, h2⟩ := hmd.resolve_left h0
            exact am_putF (D := D) (ci := ci) (C := C) (T := T) (N := N) hx hb hts hin (X.1 ci) hty hnm hown hK hat hq kf hkN hlk (hm1 h1).1 (hini h2) (hm1 h1).2 (am_narrow hnf hn) (am_fits hnf hf) (by rw [List.length_map]; exact hkl) hS (Nat.le_add_right b i) hd fin
        · cases hs
      · cases hs
    · cases hs
  case iaload =>
    have hlen := hlen rfl; simp only [am_len] at hlen; subst hlen
    simp only [am_b] at hs
    split at hs
    · rename_i j i r
      split at hs
      · rename_i n f hi
        split at hs
        · cases hs
        · rename_i hin; cases hs
          exact va_iald (D := D) hx hb hK (hw.one hi rfl) 0 1 rfl rfl hin hd (k _ _ _ _ hw hS hc ht)
      · cases hs
    · cases hs
  case baload =>
    have hlen := hlen rfl; simp only [am_len] at hlen; subst hlen
    simp only [am_b] at hs
    split at hs
    · rename_i j i r
      split at hs
      · rename_i n f hi
        split at hs
        · cases hs
        · rename_i hin; cases hs
          exact va_bald (D := D) hx hb hK (hw.one hi rfl) 0 0 rfl rfl hin hd (k _ _ _ _ hw hS hc ht)
      · rename_i n f hi
        split at hs
        · cases hs
        · rename_i hin; cases hs
          exact va_zald (D := D) hx hb hK (hw.one hi rfl) 0 3 rfl rfl hin hd (k _ _ _ _ hw hS hc ht)
      · cases hs
    · cases hs
  case laload =>
    have hlen := hlen rfl; simp only [am_len] at hlen; subst hlen
    simp only [am_b] at hs
    split at hs
    · rename_i j i r
      split at hs
      · rename_i n f hi
        split at hs
        · cases hs
        · rename_i hin; cases hs
          exact va_lald (D := D) hx hb hK (hw.one hi rfl) 0 2 rfl rfl hin hd (k _ _ _ _ hw hS hc ht)
      · cases hs
    · cases hs
  case aaload =>
    have hlen := hlen rfl; simp only [am_len] at hlen; subst hlen
    simp only [am_b] at hs
    split at hs
    · rename_i j i r
      split at hs
      · rename_i t n f hi
        split at hs
        · rename_i hq; cases hs
          have k := k _ _ _ _ hw hS hc ht
          rw [List.map_cons, am_v_r] at k
          rcases hq.1 with rfl | rfl
          · exact va_aldq (D := D) hx hb hK (hw.one hi rfl) 0 4 rfl rfl hq.2 hd k
          · exact va_aldq (D := D) hx hb hK (hw.one hi rfl) 0 5 rfl rfl hq.2 hd k
        · cases hs
      · cases hs
    · cases hs
  case iastore =>
    have hlen := hlen rfl; simp only [am_len] at hlen; subst hlen
    simp only [am_b] at hs
    split at hs
    · rename_i x j i r
      split at hs
      · rename_i n f hi
        split at hs
        · cases hs
        · rename_i hin; cases hs
          exact am_iast (D := D) (cl := cl) hx hb (hw.2 i _ hi rfl) (hK.2 1 _ rfl).1 hS (Nat.le_add_right b i) hin hd (fun H1 locs1 h1 h2 h3 h4 => k H1 locs1 cells slots (hw.set h1 h2 h3) h4 (by rw [List.length_set]; exact hc) (ht.trans (am_sl_set hi (by rfl)).symm))
      · cases hs
    · cases hs
  case bastore =>
    have hlen := hlen rfl; simp only [am_len] at hlen; subst hlen
    simp only [am_b] at hs
    split at hs
    · rename_i x j i r
      split at hs
      · rename_i n f hi
        split at hs
        · cases hs
        · rename_i hin; cases hs
          exact am_bast (D := D) (cl := cl) hx hb (hw.2 i _ hi rfl) (hK.2 0 _ rfl).1 hS (Nat.le_add_right b i) hin hd (fun H1 locs1 h1 h2 h3 h4 => k H1 locs1 cells slots (hw.set h1 h2 h3) h4 (by rw [List.length_set]; exact hc) (ht.trans (am_sl_set hi (by rfl)).symm))
      · rename_i n f hi
        split at hs
        · cases hs
        · rename_i hin; cases hs
          exact am_zast (D := D) (cl := cl) hx hb (hw.2 i _ hi rfl) (hK.2 3 _ rfl).1 hS (Nat.le_add_right b i) hin hd (fun H1 locs1 h1 h2 h3 h4 => k H1 locs1 cells slots (hw.set h1 h2 h3) h4 (by rw [List.length_set]; exact hc) (ht.trans (am_sl_set hi (by rfl)).symm))
      · cases hs
    · cases hs
  case lastore =>
    have hlen := hlen rfl; simp only [am_len] at hlen; subst hlen
    simp only [am_b] at hs
    split at hs
    · rename_i x j i r
      split at hs
      · rename_i n f hi
        split at hs
        · cases hs
        · rename_i hin; cases hs
          exact am_last (D := D) (cl := cl) hx hb (hw.2 i _ hi rfl) (hK.2 2 _ rfl).1 hS (Nat.le_add_right b i) hin hd (fun H1 locs1 h1 h2 h3 h4 => k H1 locs1 cells slots (hw.set h1 h2 h3) h4 (by rw [List.length_set]; exact hc) (ht.trans (am_sl_set hi (by rfl)).symm))
      · cases hs
    · cases hs
  case aastore =>
    have hlen := hlen rfl; simp only [am_len] at hlen; subst hlen
    simp only [am_b] at hs
    split at hs
    · rename_i v j i r
      split at hs
      · rename_i t n f ci vs hi hv
        split at hs
        · rename_i hq; cases hs
          obtain ⟨hcm, hin⟩ := hq
          have fin : ∀ (H1 : Heap) (locs1 : List Loc), va_at D cl (b + i, .inl (cy t, n, .inr (.inr (.inr (.inr (va_up (fun k => (f k).map (fun i => b + i)) j.toNatClampNeg (some (b + v)))))))) H1 → H1.size = H.size → (∀ q : Nat, q ≠ b + i → H1[q]? = H[q]?) → va_S (fun q => b ≤ q) H0 H1 locs1 → W p l e R s m args below meth c H1 locs1 cells slots Q (F0 m (pc + 1) ls (st'.map (am_r b sa))) := fun H1 locs1 h1 h2 h3 h4 =>
            k H1 locs1 cells slots (hw.set (by
              have e9 : (fun k => (va_up f j.toNatClampNeg (some v) k).map (fun i => b + i)) = va_up (fun k => (f k).map (fun i => b + i)) j.toNatClampNeg (some (b + v)) := by
                funext z
                simp only [va_up]
                split <;> rfl
              show va_at D cl (b + i, .inl (cy t, n, .inr (.inr (.inr (.inr (fun k => (va_up f j.toNatClampNeg (some v) k).map (fun i => b + i))))))) H1
              rw [e9]; exact h1) h2 h3) h4 (by rw [List.length_set]; exact hc) (ht.trans (am_sl_set hi (by rfl)).symm)
          unfold am_cmp at hcm
          split at hcm
          · have hci : ci = 3 := by simpa using hcm
            subst hci
            obtain ⟨q, hq, hqn⟩ := hR.2.1
            exact am_aast (D := D) hx hb hK (t0 := 4) (r := q) (hw.2 i _ hi rfl) (by rw [hqn]; rfl) (hw.2 v _ hv rfl) hq hS (Nat.le_add_right b i) hin hd fin
          · have hci : ci = 9 := by simpa using hcm
            subst hci
            obtain ⟨q, hq, hqn⟩ := hR.2.2
            exact am_aast (D := D) hx hb hK (t0 := 5) (r := q) (hw.2 i _ hi rfl) (by rw [hqn]; rfl) (hw.2 v _ hv rfl) hq hS (Nat.le_add_right b i) hin hd fin
          · cases hcm
        · cases hs
      · cases hs
    · cases hs
  case arraylength =>
    have hlen := hlen rfl; simp only [am_len] at hlen; subst hlen
    simp only [am_b] at hs
    split at hs
    · rename_i i r
      split at hs
      · rename_i t n a9 hi
        split at hs
        · rename_i hq; cases hs
          have hP := hw.one hi rfl
          have k := k _ _ _ _ hw hS hc ht
          have ha : ∃ x9 : vp_A, am_re cy b sa (.inl (t, n, a9)) = .inl (cy t, x9) ∧ x9.1 = n := by
            rcases a9 with f | f | f | f | f
            · exact ⟨_, rfl, rfl⟩
            · exact ⟨_, rfl, rfl⟩
            · exact ⟨_, rfl, rfl⟩
            · exact ⟨_, rfl, rfl⟩
            · exact ⟨_, rfl, rfl⟩
          obtain ⟨x9, e9, e8⟩ := ha
          rw [e9] at hP
          have hty : ∃ ty, (am_tys cy)[t]? = some (cy t, ty) := by
            rcases am_lt6 (t := t) hq with rfl | rfl | rfl | rfl | rfl | rfl <;> exact ⟨_, rfl⟩
          obtain ⟨ty, hty⟩ := hty
          exact va_alen (D := D) hx hb hK hP 0 t rfl hty (by rw [e8]) hd k
        · cases hs
      · cases hs
    · cases hs
  case newarray ty =>
    have hlen := hlen rfl; simp only [am_len] at hlen; subst hlen
    simp only [am_b] at hs
    split at hs
    · rename_i n r
      split at hs
      · rename_i t htg
        split at hs
        · cases hs
        · rename_i hq; cases hs
          rw [List.length_append] at hrc
          rw [am_sl_push] at hrs
          have hn : ¬ n < 0 := fun z => hq (Or.inl z)
          have hby : n.toNatClampNeg * componentBytes (newarray.typeOf ty) ≤ 536870912 := Decidable.byContradiction fun z => hq (Or.inr z)
          refine va_newaK hx hb (hR.1 _ _ htg) rfl hd rfl hn rfl hby (by simp only [List.length_singleton] at hrc; omega) (by simp only [am_sz] at hrs; omega) rfl fun H1 cA e1 z1 o1 hAr hNm => ?_
          have hcA : cA = cy t ∧ defaultValue (newarray.typeOf ty) = (if t = 2 then .long 0 else .int 0) := by
            cases ty <;> simp only [am_tag] at htg <;> first | cases htg | skip
            all_goals first | exact ⟨Option.some.inj (hNm.symm.trans (hK.2 0 _ rfl).2), rfl⟩ | exact ⟨Option.some.inj (hNm.symm.trans (hK.2 1 _ rfl).2), rfl⟩ | exact ⟨Option.some.inj (hNm.symm.trans (hK.2 2 _ rfl).2), rfl⟩ | exact ⟨Option.some.inj (hNm.symm.trans (hK.2 3 _ rfl).2), rfl⟩
          obtain ⟨rfl, hdv⟩ := hcA
          have k := k H1 locs (cells + 1) (slots + n.toNatClampNeg) (hw.push (fun _ => ?_) z1 o1) ⟨Nat.le_trans hS.1 (by omega), fun x h1 h2 => (o1 x (Nat.lt_of_lt_of_le h1 hS.1)).trans (hS.2.1 x h1 h2), hS.2.2⟩ (by rw [List.length_append, List.length_singleton]; omega) (by rw [am_sl_push]; simp only [am_sz]; omega)
          · rw [List.map_cons] at k
            rw [hw.1]
            exact k
          · by_cases h2 : t = 2
            · subst h2
              show H1[H.size]? = some (vp_cell _ _)
              rw [e1, hdv]
              rfl
            · rw [if_neg h2] at hdv ⊢
              show H1[H.size]? = some (vp_cell _ _)
              rw [e1, hdv]
              rfl
      · cases hs
    · cases hs
  case anewarray ix =>
    have hlen := hlen rfl; simp only [am_len] at hlen; subst hlen
    simp only [am_b] at hs
    split at hs
    · rename_i n r
      split at hs
      · rename_i t htg
        split at hs
        · rename_i hq; cases hs
          obtain ⟨ht45, hn, hby⟩ := hq
          rw [List.length_append] at hrc
          rw [am_sl_push] at hrs
          obtain ⟨C, hC9, hcl9, hAO⟩ := hL.2.2 _ _ htg
          refine W.anew hx hb hown hcl9 (va_AO.use hAO) rfl hd rfl hn hby (by simp only [List.length_singleton] at hrc; omega) (by simp only [am_sz] at hrs; omega) fun cA kA comp f1 f2 f3 f4 => ?_
          generalize hH1 : H.push ({ cls := cA, slots := Array.replicate n.toNatClampNeg .null, vm := .none } : Cell) = H1
          have z1 : H1.size = H.size + 1 := by rw [← hH1, Array.size_push]
          have e1 : H1[H.size]? = some (arrV cA n.toNatClampNeg (fun _ => .null)) := by rw [← hH1, Array.getElem?_push_size, ← arrV_new]
          have o1 : ∀ q : Nat, q < H.size → H1[q]? = H[q]? := fun q hq => by rw [← hH1, Array.getElem?_push, if_neg (Nat.ne_of_lt hq)]
          have hcA : cA = cy t := by
            obtain ⟨kB, compB, -, -, -, g4⟩ := (hK.2 t _ hC9).2
            exact Option.some.inj (f1.symm.trans g4)
          subst hcA
          have k := k H1 locs (cells + 1) (slots + n.toNatClampNeg) (hw.push (fun _ => ?_) z1 o1) ⟨Nat.le_trans hS.1 (by omega), fun x h1 h2 => (o1 x (Nat.lt_of_lt_of_le h1 hS.1)).trans (hS.2.1 x h1 h2), hS.2.2⟩ (by rw [List.length_append, List.length_singleton]; omega) (by rw [am_sl_push]; simp only [am_sz]; omega)
          · rw [List.map_cons] at k
            rw [hw.1]
            exact k
          · show H1[H.size]? = some (vp_cell _ _)
            rw [e1]
            rfl
        · cases hs
      · cases hs
    · cases hs
  case new ix =>
    have hlen := hlen rfl; simp only [am_len] at hlen; subst hlen
    simp only [am_b] at hs
    split at hs
    · rename_i ci hci
      split at hs
      · cases hs
      · rename_i h99; cases hs
        rw [List.length_append] at hrc
        rw [am_sl_push] at hrs
        obtain ⟨q, hq, g1, g2, g3⟩ := hL.2.1 _ _ hci
        obtain ⟨C, T, N⟩ := q
        obtain ⟨hin, hty, hnm, hdf, hln, hpl⟩ := hC _ _ hq
        have hKn := hK.1 ci _ hq
        refine W.newcK hx hb hown g1 g2 g3 rfl hd (by simp only [List.length_singleton] at hrc; omega) (show slots + N ≤ R.slots by simp only [am_sz, hln] at hrs; omega) hKn.2.1 rfl fun H1 kC hkC e1 z1 o1 => ?_
        have k := k H1 locs (cells + 1) (slots + N) (hw.push (fun _ => ?_) z1 o1) ⟨Nat.le_trans hS.1 (by omega), fun x h1 h2 => (o1 x (Nat.lt_of_lt_of_le h1 hS.1)).trans (hS.2.1 x h1 h2), hS.2.2⟩ (by rw [List.length_append, List.length_singleton]; omega) (by rw [am_sl_push]; simp only [am_sz, hln]; omega)
        · rw [List.map_cons] at k
          rw [hw.1]
          exact k
        · show va_at D cl (H.size, .inr (ci, (X.2 ci).map (am_r b sa))) H1
          rw [am_pl_map hpl]
          exact ⟨_, hq, (u_born (X.1 ci) hts hin hKn hkC e1 hty).to hdf⟩
    · cases hs
  all_goals (simp only [am_b] at hs; cases hs)
end AMB
