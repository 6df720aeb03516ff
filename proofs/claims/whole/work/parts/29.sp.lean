def am_psgf : List (List (Nat × Nat)) := [[], [], [], [], [], [], [], [], [], [], [], [], [], [], [], [(13, 9), (13, 10)], [], []]
def am_psgs : List (List (Nat × Nat)) := [[], [(2, 181)], [], [], [], [], [], [], [], [], [], [], [], [], [], [(0, 77), (0, 93)], [], []]
def am_psmt : List (List (Nat × Nat)) := [[(3, 224)], [], [(4, 71)], [(3, 15), (4, 171), (4, 184), (4, 192)], [], [(4, 144), (4, 147), (6, 43), (6, 52)], [(2, 223)], [], [], [], [], [(5, 124)], [], [], [], [], [], []]
def am_csgf1 (n : Nat) (e : Nat × Nat) (p : Nat × Nat) : Bool := am_has (.fieldLink (am_cs n) e.1 "java/lang/String" (if e.2 = 0 then "value" else "coder") (if e.2 = 0 then "[B" else "B")) p
def am_csgs1 (n : Nat) (e : Nat × Nat) (p : Nat × Nat) : Bool := if e.2 = 0 then am_hasV (.fieldLinkNest (am_cs n) e.1 "PromisePlatform" "RECORD_NUMBERS" "[I" "PromisePlatform") p else if e.2 = 1 then am_has (.fieldLink (am_cs n) e.1 "java/lang/String" "COMPACT_STRINGS" "Z") p else am_has (.fieldLink (am_cs n) e.1 "jdk/internal/util/Preconditions" "SIOOBE_FORMATTER" "Ljava/util/function/BiFunction;") p
def am_csmt1 (n : Nat) (e : Nat × Nat) (p : Nat × Nat) : Bool := if e.2 = 0 then am_has (.methodLink (am_cs n) e.1 Lib.Math.max.name) p else if e.2 = 1 then am_has (.methodLink (am_cs n) e.1 Lib.Math.min.name) p else if e.2 = 2 then am_has (.methodLink (am_cs n) e.1 Lib.Math.abs.name) p else if e.2 = 3 then am_has (.methodLink (am_cs n) e.1 Lib.MathLoose.max_long.x) p else if e.2 = 4 then am_has (.methodLink (am_cs n) e.1 Lib.MathLoose.min_long.x) p else true
theorem am_okgf : am_zip2 am_csgf1 0 am_sgf am_psgf = true := by decide +kernel
theorem am_okgs : am_zip2 am_csgs1 0 am_sgs am_psgs = true := by decide +kernel
theorem am_okmt : am_zip2 am_csmt1 0 am_smt am_psmt = true := by decide +kernel
theorem am_okmw : am_has (.static Lib.Math.max.name) (3, 16) = true ∧ am_has (.static Lib.Math.min.name) (2, 224) = true ∧ am_has (.static Lib.Math.abs.name) (4, 145) = true ∧ am_has (.initialized "java/lang/Math") (0, 23) = true := by decide +kernel
theorem am_okmc : am_has (.code Lib.Math.max.name Lib.Math.max.code 2 (some .int)) (3, 17) = true ∧ am_has (.code Lib.Math.min.name Lib.Math.min.code 2 (some .int)) (2, 225) = true ∧ am_has (.code Lib.Math.abs.name Lib.Math.abs.code 1 (some .int)) (4, 146) = true := by decide +kernel
theorem am_okml : am_has (.static Lib.MathLoose.max_long.x) (4, 72) = true ∧ am_has (.static Lib.MathLoose.min_long.x) (4, 193) = true ∧ am_has (.code Lib.MathLoose.max_long.x Lib.MathLoose.max_long.code 4 (some .long)) (4, 73) = true ∧ am_has (.code Lib.MathLoose.min_long.x Lib.MathLoose.min_long.code 4 (some .long)) (4, 194) = true := by decide +kernel
theorem am_okld : ∀ n, n < 18 → ∀ e ∈ am_sld.getD n [], ∃ q ∈ am_lds, q.1 = am_cs n ∧ q.2.1 = e.1 ∧ q.2.2.2 = e.2 ∧ e.2 < 30 := by decide +kernel
/-- THE SPECIALS: what stands outside the abstract heap: the script, constant texts, a constant row, Math -/
def am_sp (xs : Nat → Int32) (L : Nat) (M pc : Nat) (st : List Value) : Option (Nat × List Value) := match (am_2 am_tbs [] M).lookup pc with
  | none => none
  | some (ins, _) => match ins with
    | .iaload => match st with
      | .int j :: .float u :: r => if u = 200 then (if j < 0 ∨ L ≤ j.toNatClampNeg then none else some (pc + 1, .int (xs j.toNatClampNeg) :: r)) else if u = 100 then (if j < 0 ∨ 9 ≤ j.toNatClampNeg then none else some (pc + 1, .int (am_rec j.toNatClampNeg) :: r)) else none
      | _ => none
    | .arraylength => match st with
      | .float u :: r => if u = 200 then some (pc + 1, .int (Int32.ofNat L) :: r) else if 30 ≤ u.toNat ∧ u.toNat < 60 then some (pc + 1, .int (Int32.ofNat (am_txt.getD (am_tn (u.toNat - 30)) []).length) :: r) else none
      | _ => none
    | .baload => match st with
      | .int j :: .float u :: r => if (30 ≤ u.toNat ∧ u.toNat < 60) ∧ ¬ (j < 0 ∨ (am_txt.getD (am_tn (u.toNat - 30)) []).length ≤ j.toNatClampNeg) then some (pc + 1, .int ((am_txt.getD (am_tn (u.toNat - 30)) []).getD j.toNatClampNeg 0) :: r) else none
      | _ => none
    | .getfield ix => match st with
      | .float u :: r => if u.toNat < 30 then (match (am_sgf.getD (am_cn M) []).lookup ix with
        | some k => if k = 0 then some (pc + 3, .float (UInt32.ofNat (30 + u.toNat)) :: r) else some (pc + 3, .int 0 :: r)
        | none => none) else none
      | _ => none
    | .getstatic ix => match (am_sgs.getD (am_cn M) []).lookup ix with
      | some k => if k = 0 then some (pc + 3, .float 100 :: st) else if k = 1 then some (pc + 3, .int 1 :: st) else some (pc + 3, .float 999 :: st)
      | none => none
    | .ldc ix => match (am_sld.getD (am_cn M) []).lookup ix with
      | some u => some (pc + 2, .float (UInt32.ofNat u) :: st)
      | none => none
    | .ldc_w ix => match (am_sld.getD (am_cn M) []).lookup ix with
      | some u => some (pc + 3, .float (UInt32.ofNat u) :: st)
      | none => none
    | .invokestatic ix => match (am_smt.getD (am_cn M) []).lookup ix with
      | some k => if k = 0 then (match st with
          | .int y :: .int x :: r => if am_cat r ≤ 8 then some (pc + 3, .int (if x < y then y else x) :: r) else none
          | _ => none) else if k = 1 then (match st with
          | .int y :: .int x :: r => if am_cat r ≤ 8 then some (pc + 3, .int (if y < x then y else x) :: r) else none
          | _ => none) else if k = 2 then (match st with
          | .int x :: r => if am_cat r ≤ 8 then some (pc + 3, .int (if 0 ≤ x then x else 0 - x) :: r) else none
          | _ => none) else if k = 3 then (match st with
          | .long y :: .long x :: r => if am_cat r ≤ 8 then some (pc + 3, .long (if y < x then x else y) :: r) else none
          | _ => none) else if k = 4 then (match st with
          | .long y :: .long x :: r => if am_cat r ≤ 8 then some (pc + 3, .long (if y < x then y else x) :: r) else none
          | _ => none) else none
      | none => none
    | _ => none
section AMSP
variable {p : Program} {l : Launch} {e : Env} {R : Room} {s : State} {m : MethodId} {args : Array Value} {below : List Frame} {meth : Method} {c : Code} {H : Heap} {locs : List Loc} {cells slots : Nat} {Q : State → Prop} {cc : ByteArray} {pc : Nat} {ls : Array Slot} {rest : List Value}
theorem am_ldcSW (hx : p.tables.exec = Jvm.exec) (hb : c.code = cc) {own tx : String} {index q : Nat} (hown : s.vm.findClass own = some m.cls) (hZ : vk_R own index tx q s) (hdg : decode cc pc = .ok (.ldc_w index, 3)) (k : W p l e R s m args below meth c H locs cells slots Q (F0 m (pc + 3) ls (.ref q :: rest))) : W p l e R s m args below meth c H locs cells slots Q (F0 m pc ls rest) := by
  intro T hT X
  obtain ⟨t, a1, b1⟩ := k T hT X
  exact ⟨t, X.ldcStringW hx hown (text := tx) (a := q) hZ.1 hZ.2 (g := F0 m pc ls rest) rfl (by rw [hb]; exact hdg) t a1, b1⟩
end AMSP
theorem am_f (b : Nat) (sa : Nat → Option Nat) (u : Nat) (hu : u < 1000) {a : Nat} (h : sa u = some a) : am_r b sa (.float (UInt32.ofNat u)) = .ref a := by
  show va_rf (sa (UInt32.ofNat u).toNat) = _
  rw [show (UInt32.ofNat u).toNat = u from UInt32.toNat_ofNat_of_lt' (by show u < 4294967296; omega), h]
  rfl
theorem am_cnlt {α : Type} {L : List (List α)} {N : Nat} {x : α} (hx : x ∈ L.getD (am_cn N) []) (hL : L.length ≤ 18 := by decide) : N < 453 ∧ am_cn N < 18 := by
  have h9 : am_cn N < L.length := by
    rcases Nat.lt_or_ge (am_cn N) L.length with z | z
    · exact z
    · have h2 : L[am_cn N]? = none := List.getElem?_eq_none z
      simp [List.getD, h2] at hx
  refine ⟨?_, by omega⟩
  rcases Nat.lt_or_ge N 453 with z | z
  · exact z
  · rw [am_cn99 z] at h9
    omega
set_option maxHeartbeats 4000000 in
theorem am_P10 {l : Launch} {D : va_G} {cy : Nat → ClassId} {b : Nat} {sa : Nat → Option Nat} {xs : Nat → Int32} {L : Nat} (h1 : am_H1 (am_P (am_sp xs L)) am_cc) : am_H10 l (am_P (am_sp xs L)) am_nam am_cc am_U am_hh (am_Ev D cy b sa xs L) b sa := by
  intro M pc st pc' st' hsp p e R s m args below meth c H locs cells slots d Q ls X hS hsz hcl hsl k
  obtain ⟨hx, hb, hml, hown, hts, hE, hlk, hr, hin, htb, htb2, hfr, hlo, hbs⟩ := id X
  have hsp : am_sp xs L M pc st = some (pc', st') := hsp
  unfold am_sp at hsp
  cases hlu : (am_2 am_tbs [] M).lookup pc with
  | none => rw [hlu] at hsp; cases hsp
  | some q =>
    obtain ⟨ins, len⟩ := q
    rw [hlu] at hsp
    obtain ⟨hd, hlen⟩ := h1 M pc ins len hlu
    obtain ⟨E1, E2, E3, E4, E5, ⟨bs, g1, g2, g3⟩, ⟨t, g4, g5, g6⟩, E6, E7, E8, E9⟩ := hE
    cases ins <;> simp only at hsp <;> first | (cases hsp; done) | skip
    case iaload =>
      have hlen := hlen rfl; simp only [am_len] at hlen; subst hlen
      split at hsp
      · rename_i j u r x9
        split at hsp
        · rename_i hu; subst hu
          split at hsp
          · cases hsp
          · rename_i hj; cases hsp
            have e1 : am_r b sa (.float 200) = .ref bs := am_f b sa 200 (by omega) g1
            rw [List.map_cons, List.map_cons, e1]
            exact va_sld hx hb g3 (Nat.lt_of_lt_of_le g2 hbs) (Nat.not_le.mpr g2) hS hj hd k
        · split at hsp
          · rename_i hu; subst hu
            split at hsp
            · cases hsp
            · rename_i hj; cases hsp
              have e1 : am_r b sa (.float 100) = .ref t := am_f b sa 100 (by omega) g4
              rw [List.map_cons, List.map_cons, e1]
              exact va_ti hx hb g5 hS hj rfl hd k
          · cases hsp
      · cases hsp
    case arraylength =>
      have hlen := hlen rfl; simp only [am_len] at hlen; subst hlen
      split at hsp
      · rename_i u r x9
        split at hsp
        · rename_i hu; subst hu; cases hsp
          have e1 : am_r b sa (.float 200) = .ref bs := am_f b sa 200 (by omega) g1
          rw [List.map_cons, e1]
          exact va_slen hx hb g3 (Nat.lt_of_lt_of_le g2 hbs) (Nat.not_le.mpr g2) hS hd k
        · split at hsp
          · rename_i hu; cases hsp
            obtain ⟨a, v, k1, k2, k3, k4, k5, k6⟩ := E8 (u.toNat - 30) (by omega)
            have e1 : am_r b sa (.float u) = .ref v := by
              show va_rf (sa u.toNat) = _
              rw [show u.toNat = 30 + (u.toNat - 30) by omega, k2]; rfl
            rw [List.map_cons, e1]
            exact va_tlen hx hb k6 hS rfl hd k
          · cases hsp
      · cases hsp
    case baload =>
      have hlen := hlen rfl; simp only [am_len] at hlen; subst hlen
      split at hsp
      · rename_i j u r x9
        split at hsp
        · rename_i hu; cases hsp
          obtain ⟨a, v, k1, k2, k3, k4, k5, k6⟩ := E8 (u.toNat - 30) (by omega)
          have e1 : am_r b sa (.float u) = .ref v := by
            show va_rf (sa u.toNat) = _
            rw [show u.toNat = 30 + (u.toNat - 30) by omega, k2]; rfl
          rw [List.map_cons, List.map_cons, e1]
          exact va_tb hx hb k6 hS hu.2 rfl hd k
        · cases hsp
      · cases hsp
    case getfield ix =>
      have hlen := hlen rfl; simp only [am_len] at hlen; subst hlen
      split at hsp
      · rename_i u r x9
        split at hsp
        · rename_i hu
          split at hsp
          · rename_i kk hkk
            obtain ⟨hM, pp, hp⟩ := am_row (by decide) am_okgf (am_lookup hkk)
            rw [am_csgf1, (am_cnok M hM).1] at hp
            have hw := hts _ (am_has_U hp)
            obtain ⟨a, v, k1, k2, k3, k4, k5, k6⟩ := E8 u.toNat hu
            have e1 : am_r b sa (.float u) = .ref a := by show va_rf (sa u.toNat) = _; rw [k1]; rfl
            rw [List.map_cons, e1]
            split at hsp
            · rename_i h0; cases hsp
              simp only [h0, if_true] at hw
              rw [List.map_cons, am_f b sa (30 + u.toNat) (by omega) k2] at k
              exact vk_getf hx hb k5 hS hown hw (fun _ h9 => h9) hd k
            · rename_i h0; cases hsp
              simp only [h0, if_false] at hw
              exact vk_getf hx hb k4 hS hown hw (fun _ h9 => h9) hd k
          · cases hsp
        · cases hsp
      · cases hsp
    case getstatic ix =>
      have hlen := hlen rfl; simp only [am_len] at hlen; subst hlen
      split at hsp
      · rename_i kk hkk
        obtain ⟨hM, pp, hp⟩ := am_row (by decide) am_okgs (am_lookup hkk)
        rw [am_csgs1, (am_cnok M hM).1] at hp
        split at hsp
        · rename_i h0; cases hsp
          simp only [h0, if_true] at hp
          have e1 : am_r b sa (.float 100) = .ref t := am_f b sa 100 (by omega) g4
          rw [List.map_cons, e1] at k
          exact va_getsN hx hb g6 hS hown (va_Nw.use rfl (E2 _ (am_hasV_V hp))) (fun _ h9 => h9) hd k
        · rename_i h0
          split at hsp
          · rename_i h1; cases hsp
            simp only [h1] at hp
            exact va_gets hx hb E6 hS hown (hts _ (am_has_U hp)) (fun _ h9 => h9) hd k
          · rename_i h1; cases hsp
            simp only [h0, h1, if_false] at hp
            exact va_gets hx hb E7 hS hown (hts _ (am_has_U hp)) (fun _ h9 => h9) hd k
      · cases hsp
    case ldc ix =>
      have hlen := hlen rfl; simp only [am_len] at hlen; subst hlen
      split at hsp
      · rename_i u hu; cases hsp
        have hm := am_lookup hu
        have hM := am_cnlt (N := M) hm
        obtain ⟨q, hq, q1, q2, q3, q4⟩ := am_okld _ hM.2 _ hm
        obtain ⟨a, z1, z2⟩ := E9 q hq
        rw [q1, q2, (am_cnok M hM.1).1] at z2
        rw [q3] at z1
        rw [List.map_cons, am_f b sa u (by omega) z1] at k
        exact va_ldcS hx hb hown z2 hd k
      · cases hsp
    case ldc_w ix =>
      have hlen := hlen rfl; simp only [am_len] at hlen; subst hlen
      split at hsp
      · rename_i u hu; cases hsp
        have hm := am_lookup hu
        have hM := am_cnlt (N := M) hm
        obtain ⟨q, hq, q1, q2, q3, q4⟩ := am_okld _ hM.2 _ hm
        obtain ⟨a, z1, z2⟩ := E9 q hq
        rw [q1, q2, (am_cnok M hM.1).1] at z2
        rw [q3] at z1
        rw [List.map_cons, am_f b sa u (by omega) z1] at k
        exact am_ldcSW hx hb hown z2 hd k
      · cases hsp
    case invokestatic ix =>
      have hlen := hlen rfl; simp only [am_len] at hlen; subst hlen
      split at hsp
      · rename_i kk hkk
        obtain ⟨hM, pp, hp⟩ := am_row (by decide) am_okmt (am_lookup hkk)
        rw [am_csmt1, (am_cnok M hM).1] at hp
        split at hsp
        · rename_i h0
          simp only [h0, if_true] at hp
          split at hsp
          · split at hsp
            · rename_i hct; cases hsp
              exact va_mmax hx hb hsz.symm hown (hts _ (am_has_U hp)) (hts _ (am_has_U am_okmw.1)) (hts _ (am_has_U am_okmw.2.2.2)) (hts _ (am_has_U am_okmc.1)) (by omega) (by rw [am_cat_r]; omega) hcl hsl hd k
            · cases hsp
          · cases hsp
        · rename_i h0
          split at hsp
          · rename_i h1
            simp only [h1] at hp
            split at hsp
            · split at hsp
              · rename_i hct; cases hsp
                exact va_mmin hx hb hsz.symm hown (hts _ (am_has_U hp)) (hts _ (am_has_U am_okmw.2.1)) (hts _ (am_has_U am_okmw.2.2.2)) (hts _ (am_has_U am_okmc.2.1)) (by omega) (by rw [am_cat_r]; omega) hcl hsl hd k
              · cases hsp
            · cases hsp
          · rename_i h1
            split at hsp
            · rename_i h2
              simp only [h2] at hp
              split at hsp
              · split at hsp
                · rename_i hct; cases hsp
                  exact va_mabs hx hb hsz.symm hown (hts _ (am_has_U hp)) (hts _ (am_has_U am_okmw.2.2.1)) (hts _ (am_has_U am_okmw.2.2.2)) (hts _ (am_has_U am_okmc.2.2)) (by omega) (by rw [am_cat_r]; omega) hcl hsl hd k
                · cases hsp
              · cases hsp
            · rename_i h2
              split at hsp
              · rename_i h3
                simp only [h3] at hp
                split at hsp
                · split at hsp
                  · rename_i hct; cases hsp
                    exact va_mmax_long hx hb hsz.symm hown (hts _ (am_has_U hp)) (hts _ (am_has_U am_okml.1)) (hts _ (am_has_U am_okmw.2.2.2)) (hts _ (am_has_U am_okml.2.2.1)) (by omega) (by rw [am_cat_r]; omega) hcl hsl hd k
                  · cases hsp
                · cases hsp
              · rename_i h3
                split at hsp
                · rename_i h4
                  simp only [h4] at hp
                  split at hsp
                  · split at hsp
                    · rename_i hct; cases hsp
                      exact va_mmin_long hx hb hsz.symm hown (hts _ (am_has_U hp)) (hts _ (am_has_U am_okml.2.1)) (hts _ (am_has_U am_okmw.2.2.2)) (hts _ (am_has_U am_okml.2.2.2)) (by omega) (by rw [am_cat_r]; omega) hcl hsl hd k
                    · cases hsp
                  · cases hsp
                · cases hsp
      · cases hsp
