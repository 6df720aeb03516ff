/-! THE CLASS's calls that may throw -/
abbrev xS : String := "java/lang/IllegalStateException"
abbrev xA : String := "java/lang/IllegalArgumentException"
abbrev xP : String := "java/lang/IndexOutOfBoundsException"
/-- what a call's code comes to -/
def xK (K : im_K) (e : im_E) (M : im_M) (r : Int) : Prop := (r = -103 → K (.inr xS) (e ++ [im_ex]) M) ∧ (r = -102 → K (.inr xA) (e ++ [im_ex]) M) ∧ (r = -101 → K (.inr xP) (e ++ [im_ex]) M) ∧ (r ≠ -103 → r ≠ -102 → r ≠ -101 → K (.inl (some (vI r))) e M)
theorem sh_app {e x : im_E} {b : Nat} {s : im_Sh} (h : (im_sh0 ++ e)[b]? = some s) : (im_sh0 ++ (e ++ x))[b]? = some s := by
  rw [← List.append_assoc, List.getElem?_append_left]
  · exact h
  · exact (List.getElem?_eq_some_iff.mp h).1
theorem num_app {e x : im_E} {b : Nat} (h : im_num e b) : im_num (e ++ x) b := ⟨sh_app h.1, sh_app h.2⟩
theorem book_app {e x : im_E} {b n : Nat} (h : im_book e b n) : im_book (e ++ x) b n := ⟨sh_app h.1, sh_app h.2.1, sh_app h.2.2.1, sh_app h.2.2.2.1, num_app h.2.2.2.2.1, h.2.2.2.2.2⟩
theorem bkN_app {e x : im_E} {b n : Nat} (h : bkN e b n) : bkN (e ++ x) b n := ⟨book_app h.1, fun j hj => num_app (h.2 j hj)⟩
theorem stN_app {e x : im_E} {b n : Nat} (h : stN e b n) : stN (e ++ x) b n := by
  obtain ⟨⟨h1, h2, h3, h4⟩, a, b', c, d⟩ := h
  exact ⟨⟨sh_app h1, book_app h2, book_app h3, book_app h4⟩, bkN_app a, bkN_app b', bkN_app c, bkN_app d⟩
theorem RB_ex {M : im_M} {e : im_E} (h : RB M e) : RB M (e ++ [im_ex]) := by
  unfold RB stc stz
  rw [List.filter_append]
  have : ([im_ex] : im_E).filter nex = [] := rfl
  rw [this, List.append_nil]; exact h
theorem CW.app {M : im_M} {e : im_E} {w : Wd} {ag : Int} (h : CW M e w ag) : CW M (e ++ [im_ex]) w ag := by
  obtain ⟨t, p, b, r, ⟨s1, s2, s3, s4, s5, s6⟩, j⟩ := h
  refine ⟨t, p, b, r, ⟨s1, s2, s3, fun j hj => ?_, s5, RB_ex s6⟩, j⟩
  rcases s4 j hj with z | ⟨b, b1, b2, b3, b4⟩
  · exact Or.inl z
  · exact Or.inr ⟨b, b1, b2, stN_app b3, b4⟩
def Wd.tk (w : Wd) : Wd := (w.sTp w.gTp).sTn 0
section CPUB
variable {g : im_g} {d : Nat} {e : im_E} {M : im_M} {K : im_K} {w : Wd}
theorem c_answer {r : Int} (hr : im_i32 r) (hK : xK K e M r) (hd : 1 ≤ d) : im_T g d 166 0 [some (.ref 0), some (vI r)] [] e M (im_rx (im_ri (fun x7 e_ M6 => e = e_ ∧ K (.inl (some (vI x7))) e M6)) (fun E_ e_ M_ => K (.inr E_) e_ M_)) := by
  obtain ⟨h1, h2, h3, h4⟩ := hK
  refine k_P_answer_0 hd ⟨hr, fun x hx => k_P_needState_0 ⟨by constructor <;> omega, fun hne => Or.inl ⟨rfl, rfl, fun y hy => ?_⟩, fun hz => Or.inr ⟨_, rfl, Or.inr ⟨_, rfl, h1 (by omega)⟩⟩⟩⟩
  refine k_P_needArgument_0 ⟨by constructor <;> omega, fun hne2 => Or.inl ⟨rfl, rfl, fun z hz => ?_⟩, fun hz => Or.inr ⟨_, rfl, Or.inr ⟨_, rfl, h2 (by omega)⟩⟩⟩
  refine k_P_needPlace_0 ⟨by constructor <;> omega, fun _ => ⟨by decide, fun _ => Or.inl ⟨rfl, rfl, Or.inl ⟨_, rfl, rfl, h4 (by omega) (by omega) (by omega)⟩⟩⟩, fun hh => Or.inr ⟨_, rfl, Or.inr ⟨_, rfl, h3 (by omega)⟩⟩⟩
theorem c_needPower {X : im_E → im_M → Prop} (h : CW M e w 0) (hd0 : w.gJr.2.2.2.2 ≠ 0 → K (.inr xS) (e ++ [im_ex]) M) (hK : w.gJr.2.2.2.2 = 0 → X e M) : im_T g d 152 0 [some (.ref 0)] [] e M (im_rx (im_r0 X) (fun E_ e_ M_ => K (.inr E_) e_ M_)) := by
  obtain ⟨_, _, _, _, _, ⟨_, _, _, _, j4⟩, _, _⟩ := h
  refine k_P_needPower_0 ?_
  rw [j4]
  exact ⟨fun z => Or.inl ⟨rfl, hK z⟩, fun z => Or.inr ⟨_, rfl, hd0 z⟩⟩
theorem c_takeTape {X : Int → im_E → im_M → Prop} (h : CW M e w 0) (hd : 1 ≤ d) (hd0 : w.gJr.2.2.2.2 ≠ 0 → K (.inr xS) (e ++ [im_ex]) M) (hK : w.gJr.2.2.2.2 = 0 → ∀ M', (∀ x, 6952 ≤ x → M' x = M x) → CW M' e w.tk 0 → txt (M' 1) w.gTp w.gTn → (∀ x, x ≠ 0 → M' x = M x) → X w.gTn e M') : im_T g d 165 0 [some (.ref 0), none] [] e M (im_rx (im_ri X) (fun E_ e_ M_ => K (.inr E_) e_ M_)) := by
  obtain ⟨⟨⟨t1, t2, t3⟩, _⟩, _, _, _, _, ⟨_, _, _, _, j4⟩, _, a1⟩ := id h
  refine k_P_takeTape_0 hd (k_P_needPower_0 ?_)
  rw [j4]
  refine ⟨fun z => Or.inl ⟨rfl, rfl, Or.inl ?_⟩, fun z => Or.inr ⟨_, rfl, Or.inr ⟨_, rfl, hd0 z⟩⟩⟩
  rw [t1]
  refine ⟨_, rfl, hK z _ (fun x hx => im_u_ne _ _ _ (by omega)) (h.tape (fun x a b => im_u_ne _ _ _ a) ⟨im_rds _ _ _ _, fun i a b => by omega, by omega, by omega⟩ (by rw [im_rdk _ _ _ (by decide)]; exact a1)) (by rw [im_u_ne _ _ _ (by decide)]; exact t2) (fun x hx => im_u_ne _ _ _ hx)⟩
theorem c_P_transact {i fr to : Int} {J0 : Ip} {ρ ρ' : Rl} {cp : Int} (h : CW M e w 0) (hJo : jOk w.gJr) (hW : WFP w.gRw w.gM) (hio : 0 ≤ i ∧ i < 16 → insOk w.gRw w.gM w.gWa (w.gIn i)) (hi : im_i32 i) (hfi : im_i64 fr) (hti : im_i64 to) (k0 : CIr M 328 J0) (k1 : rw6 M 1333 ρ) (k2 : rw6 M 1459 ρ') (k3 : M 931 13 = cp) (hd : 121 ≤ d)
    (hd0 : w.gJr.2.2.2.2 ≠ 0 → K (.inr xS) (e ++ [im_ex]) M)
    (hK : w.gJr.2.2.2.2 = 0 → ∀ M', (∀ x, 6952 ≤ x → M' x = M x) → CW M' e (trO w.tk 0 i fr to w.gTp w.gTn J0 ρ ρ' cp).2 0 → xK K e M' (trO w.tk 0 i fr to w.gTp w.gTn J0 ρ ρ' cp).1) :
    im_T g d 205 0 [some (.ref 0), some (vI i), some (vL fr), none, some (vL to), none] [] e M K := by
  have hn := h.1.1.2.2
  refine k_P_transact_0 (by omega) ⟨hi, c_takeTape h (by omega) hd0 (fun hz M1 f1 W1 ht fz => ⟨rfl, ?_⟩)⟩
  refine c_transactText (w := w.tk) (t := w.gTp) (n := w.gTn) (J0 := J0) (ρ := ρ) (ρ' := ρ') (cp := cp) W1 (Or.inl rfl) hJo hz hW hio (by constructor <;> omega) hfi hti hn ht ?_ (rw6_congr k1 (fun x a b => fz x (by omega))) (rw6_congr k2 (fun x a b => fz x (by omega))) (by rw [fz 931 (by decide)]; exact k3) (by omega) (fun M2 f2 W2 r2 => ⟨_, rfl, rfl, c_answer r2 (hK hz M2 (fun x hx => (f2 x hx).trans (f1 x hx)) W2) (by omega)⟩)
  obtain ⟨k, q1, q2⟩ := k0
  exact ⟨k, q1, crw_congr q2 (fun x a b => fz x (by omega))⟩
theorem c_P_keep {k w0 : Int} (h : CW M e w 0) (hJo : jOk w.gJr) (hW : WFP w.gRw w.gM) (hm4 : w.gM ≤ 4000) (hde : w.gDe ≤ 16384) (hk : im_i32 k) (hw0 : cn M 26 w0) (hr : im_i32 (keO w.tk 0 k w.gTp w.gTn w0).1) (hd : 13 ≤ d)
    (hd0 : w.gJr.2.2.2.2 ≠ 0 → K (.inr xS) (e ++ [im_ex]) M)
    (hK : w.gJr.2.2.2.2 = 0 → ∀ M', (∀ x, 6952 ≤ x → M' x = M x) → CW M' e (keO w.tk 0 k w.gTp w.gTn w0).2 0 → xK K e M' (keO w.tk 0 k w.gTp w.gTn w0).1) : im_T g d 164 0 [some (.ref 0), some (vI k)] [] e M K := by
  have hn := h.1.1.2.2
  refine k_P_keep_0 (by omega) ⟨hk, c_takeTape h (by omega) hd0 (fun hz M1 f1 W1 ht fz => ⟨rfl, ?_⟩)⟩
  exact c_keepText (w := w.tk) (t := w.gTp) (n := w.gTn) (w0 := w0) W1 (Or.inl rfl) hJo hz hW hm4 hde (by constructor <;> omega) hn ht (cn_congr hw0 (fz _ (by decide)) (fz _ (by decide))) (by omega) (fun M2 f2 W2 => ⟨_, rfl, rfl, c_answer hr (hK hz M2 (fun x hx => (f2 x hx).trans (f1 x hx)) W2) (by omega)⟩)
theorem c_P_parameter {nm : Int} (h : CW M e w 0) (hJo : jOk w.gJr) (hnm : im_i64 nm) (hr : im_i32 (paO w.tk 0 nm w.gTp w.gTn).1) (hd : 9 ≤ d)
    (hd0 : w.gJr.2.2.2.2 ≠ 0 → K (.inr xS) (e ++ [im_ex]) M)
    (hK : w.gJr.2.2.2.2 = 0 → ∀ M', (∀ x, 6952 ≤ x → M' x = M x) → CW M' e (paO w.tk 0 nm w.gTp w.gTn).2 0 → xK K e M' (paO w.tk 0 nm w.gTp w.gTn).1) : im_T g d 197 0 [some (.ref 0), some (vL nm), none] [] e M K := by
  have hn := h.1.1.2.2
  refine k_P_parameter_0 (by omega) (c_takeTape h (by omega) hd0 (fun hz M1 f1 W1 ht fz => ⟨rfl, ?_⟩))
  exact c_parameterText (w := w.tk) (t := w.gTp) (n := w.gTn) W1 (Or.inl rfl) hJo hz hnm hn ht (by omega) (fun M2 f2 W2 => ⟨_, rfl, rfl, c_answer hr (hK hz M2 (fun x hx => (f2 x hx).trans (f1 x hx)) W2) (by omega)⟩)
theorem c_P_mint {pa tk' : Int} (h : CW M e w 0) (hJo : jOk w.gJr) (hpw : posb w.gWa) (hpm : posb w.gMi) (hcon : hld w.gWa pa tk' ≤ hld w.gMi tk' 0) (hpa : im_i64 pa) (htk : im_i64 tk') (hr : im_i32 (miO w.tk 0 pa tk' w.gTp w.gTn).1) (hd : 9 ≤ d)
    (hd0 : w.gJr.2.2.2.2 ≠ 0 → K (.inr xS) (e ++ [im_ex]) M)
    (hK : w.gJr.2.2.2.2 = 0 → ∀ M', (∀ x, 6952 ≤ x → M' x = M x) → CW M' e (miO w.tk 0 pa tk' w.gTp w.gTn).2 0 → xK K e M' (miO w.tk 0 pa tk' w.gTp w.gTn).1) : im_T g d 228 0 [some (.ref 0), some (vL pa), none, some (vL tk'), none] [] e M K := by
  have hn := h.1.1.2.2
  refine k_P_mint_0 (by omega) (c_takeTape h (by omega) hd0 (fun hz M1 f1 W1 ht fz => ⟨rfl, ?_⟩))
  exact c_mintText (w := w.tk) (t := w.gTp) (n := w.gTn) W1 (Or.inl rfl) hJo hz hpw hpm hcon hpa htk hn ht (by omega) (fun M2 f2 W2 => ⟨_, rfl, rfl, c_answer hr (hK hz M2 (fun x hx => (f2 x hx).trans (f1 x hx)) W2) (by omega)⟩)
theorem c_P_drop {k : Int} (h : CW M e w 0) (hJo : jOk w.gJr) (hk : im_i32 k) (hr : im_i32 (drO w 0 k).1) (hd : 7 ≤ d)
    (hd0 : w.gJr.2.2.2.2 ≠ 0 → K (.inr xS) (e ++ [im_ex]) M)
    (hK : w.gJr.2.2.2.2 = 0 → ∀ M', (∀ x, 6952 ≤ x → M' x = M x) → CW M' e (drO w 0 k).2 0 → xK K e M' (drO w 0 k).1) : im_T g d 171 0 [some (.ref 0), some (vI k)] [] e M K :=
  k_P_drop_0 (by omega) (c_needPower h hd0 (fun hz => ⟨rfl, hk, c_dropContract h (Or.inl rfl) hJo hz (by constructor <;> omega) (by omega) (fun M2 f2 W2 => ⟨_, rfl, rfl, c_answer hr (hK hz M2 f2 W2) (by omega)⟩)⟩))
theorem c_P_forget (h : CW M e w 0) (hJo : jOk w.gJr) (hr : im_i32 (fgO w 0).1) (hd : 7 ≤ d)
    (hd0 : w.gJr.2.2.2.2 ≠ 0 → K (.inr xS) (e ++ [im_ex]) M)
    (hK : w.gJr.2.2.2.2 = 0 → ∀ M', (∀ x, 6952 ≤ x → M' x = M x) → CW M' e (fgO w 0).2 0 → xK K e M' (fgO w 0).1) : im_T g d 199 0 [some (.ref 0)] [] e M K :=
  k_P_forget_0 (by omega) (c_needPower h hd0 (fun hz => ⟨rfl, c_forgetParameters h (Or.inl rfl) hJo hz (by omega) (fun M2 f2 W2 => ⟨_, rfl, rfl, c_answer hr (hK hz M2 f2 W2) (by omega)⟩)⟩))
theorem c_P_end {i : Int} (h : CW M e w 0) (hJo : jOk w.gJr) (hW : WFP w.gRw w.gM) (hio : 0 ≤ i ∧ i < 16 → insOk w.gRw w.gM w.gWa (w.gIn i)) (hi : im_i32 i) (hr : im_i32 (enO w 0 i).1) (hd : 7 ≤ d)
    (hd0 : w.gJr.2.2.2.2 ≠ 0 → K (.inr xS) (e ++ [im_ex]) M)
    (hK : w.gJr.2.2.2.2 = 0 → ∀ M', (∀ x, 6952 ≤ x → M' x = M x) → CW M' e (enO w 0 i).2 0 → xK K e M' (enO w 0 i).1) : im_T g d 203 0 [some (.ref 0), some (vI i)] [] e M K :=
  k_P_end_0 (by omega) (c_needPower h hd0 (fun hz => ⟨rfl, hi, c_endInstance h (Or.inl rfl) hJo hz hW hio (by constructor <;> omega) (by omega) (fun M2 f2 W2 => ⟨_, rfl, rfl, c_answer hr (hK hz M2 f2 W2) (by omega)⟩)⟩))
theorem c_P_begin {i k tm : Int} (h : CW M e w 0) (hJo : jOk w.gJr) (hW : WFP w.gRw w.gM) (hb01 : 0 ≤ i ∧ i < 16 → (w.gIn i).1 = 0 ∨ (w.gIn i).1 = 1) (hrt : 0 ≤ k ∧ k < 16 → w.gRt k = -1 ∨ (0 ≤ w.gRt k ∧ w.gRt k < w.gM)) (hi : im_i32 i) (hk : im_i32 k) (htm : im_i64 tm) (hr : im_i32 (beO w 0 i k tm).1) (hd : 7 ≤ d)
    (hd0 : w.gJr.2.2.2.2 ≠ 0 → K (.inr xS) (e ++ [im_ex]) M)
    (hK : w.gJr.2.2.2.2 = 0 → ∀ M', (∀ x, 6952 ≤ x → M' x = M x) → CW M' e (beO w 0 i k tm).2 0 → xK K e M' (beO w 0 i k tm).1) : im_T g d 201 0 [some (.ref 0), some (vI i), some (vI k), some (vL tm), none] [] e M K :=
  k_P_begin_0 (by omega) (c_needPower h hd0 (fun hz => ⟨rfl, hi, hk, c_beginInstance h (Or.inl rfl) hJo hz hW hb01 hrt (by constructor <;> omega) (by constructor <;> omega) htm (by omega) (fun M2 f2 W2 => ⟨_, rfl, rfl, c_answer hr (hK hz M2 f2 W2) (by omega)⟩)⟩))
end CPUB
