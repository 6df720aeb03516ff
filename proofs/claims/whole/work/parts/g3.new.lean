/-! NEW CELLS: a block of made cells in the heap, its shape and its memory -/
def im_mf (c : va_E) : Int → Int := match c with
  | .inl (_, _, .inl f) => fun j => (f j.toNat).toInt
  | .inl (_, _, .inr (.inl f)) => fun j => (f j.toNat).toInt
  | .inl (_, _, .inr (.inr (.inr (.inr f)))) => fun j => match f j.toNat with
    | none => -1
    | some b => (b : Int)
  | .inl _ => fun _ => 0
  | .inr (_, fs) => fun j => match fs[j.toNat]? with
    | some (.int x) => x.toInt
    | some (.long x) => x.toInt
    | some (.ref b) => (b : Int)
    | _ => -1
/-- a cell is what its shape and memory say -/
def okc (c : va_E) : Prop := im_c (im_so c) (im_mf c) = c ∧ ∀ j : Int, 0 ≤ j → j < (im_so c).2.1 → im_rg (im_so c) j (im_mf c j)
def im_bm (B : am_H) (l : Nat) (M : im_M) : im_M := fun a => if l ≤ a then (match B[a - l]? with
  | some c => im_mf c
  | none => M a) else M a
theorem im_bm_lt {B : am_H} {l : Nat} {M : im_M} {a : Nat} (h : a < l ∨ l + B.length ≤ a) : im_bm B l M a = M a := by
  unfold im_bm
  by_cases c : l ≤ a
  · rw [if_pos c, List.getElem?_eq_none (by omega)]
  · rw [if_neg c]
theorem im_bm_at {B : am_H} {l i : Nat} {M : im_M} {c : va_E} (h : B[i]? = some c) : im_bm B l M (l + i) = im_mf c := by
  unfold im_bm
  rw [if_pos (by omega), show l + i - l = i by omega, h]
theorem im_W.blk {sh : im_E} {M : im_M} {h B : am_H} (hw : im_W sh M h) (hB : ∀ c ∈ B, okc c) : im_W (sh ++ B.map im_so) (im_bm B sh.length M) (h ++ B) := by
  refine ⟨by rw [List.length_append, List.length_append, hw.1, List.length_map], fun a s ha => ?_⟩
  by_cases hl : a < sh.length
  · rw [List.getElem?_append_left hl] at ha
    rw [List.getElem?_append_left (by rw [hw.1]; exact hl), im_bm_lt (Or.inl hl)]
    exact hw.2 a s ha
  · rw [List.getElem?_append_right (by omega), List.getElem?_map] at ha
    rw [List.getElem?_append_right (by rw [hw.1]; omega), hw.1]
    cases hc : B[a - sh.length]? with
    | none => rw [hc] at ha; cases ha
    | some c =>
      rw [hc] at ha
      have ha : im_so c = s := Option.some.inj ha
      have hm := im_bm_at (l := sh.length) (M := M) hc
      rw [show sh.length + (a - sh.length) = a by omega] at hm
      obtain ⟨o1, o2⟩ := hB c (List.mem_of_getElem? hc)
      rw [← ha, hm, o1]
      exact ⟨rfl, o2⟩
/-- arrays -/
theorem okc_i {t n : Nat} (ht : t = 0 ∨ t = 1 ∨ t = 3) : okc (.inl (t, n, .inl (fun _ => 0))) := by
  rcases ht with rfl | rfl | rfl
  · exact ⟨rfl, fun j _ _ => by show -128 ≤ (0 : Int32).toInt ∧ (0 : Int32).toInt ≤ 127; decide⟩
  · exact ⟨rfl, fun j _ _ => by show im_i32 (0 : Int32).toInt; decide⟩
  · exact ⟨rfl, fun j _ _ => by show 0 ≤ (0 : Int32).toInt ∧ (0 : Int32).toInt ≤ 1; decide⟩
theorem okc_l {n : Nat} : okc (.inl (2, n, .inr (.inl (fun _ => 0)))) := ⟨rfl, fun j _ _ => by show im_i64 (0 : Int64).toInt; decide⟩
theorem okc_r {t n : Nat} {f : Nat → Option Nat} (ht : t = 4 ∨ t = 5) : okc (.inl (t, n, .inr (.inr (.inr (.inr f))))) := by
  have hf : (fun j : Nat => if (match f ((j : Int).toNat) with | none => (-1 : Int) | some b => (b : Int)) < 0 then none else some (match f ((j : Int).toNat) with | none => (-1 : Int) | some b => (b : Int)).toNat) = f := by
    funext j
    rw [show ((j : Int)).toNat = j by omega]
    cases f j with
    | none => rfl
    | some b => rw [if_neg (show ¬ ((b : Int) < 0) from Int.not_lt.mpr (Int.natCast_nonneg b))]; rfl
  rcases ht with rfl | rfl
  · exact ⟨congrArg (fun q => Sum.inl (4, n, Sum.inr (Sum.inr (Sum.inr (Sum.inr q))))) hf, fun j _ _ => trivial⟩
  · exact ⟨congrArg (fun q => Sum.inl (5, n, Sum.inr (Sum.inr (Sum.inr (Sum.inr q))))) hf, fun j _ _ => trivial⟩
/-- objects -/
def fok1 (ci i : Nat) (v : Value) : Bool := match v with
  | .ref _ => im_isR (am_tyF ci i)
  | .null => im_isR (am_tyF ci i)
  | .int x => im_isI (am_tyF ci i) && (0 ≤ x.toInt && x.toInt ≤ 1 || (match am_tyF ci i with
    | .int => true
    | _ => false))
  | .long _ => im_isL (am_tyF ci i)
  | _ => false
def fok (ci : Nat) : Nat → List Value → Bool
  | _, [] => true
  | i, v :: r => fok1 ci i v && fok ci (i + 1) r
theorem fok_get {ci : Nat} : ∀ {fs : List Value} {i : Nat}, fok ci i fs = true → ∀ (k : Nat) (v : Value), fs[k]? = some v → fok1 ci (i + k) v = true := by
  intro fs
  induction fs with
  | nil => intro i _ k v h; simp at h
  | cons a r ih =>
    intro i h k v hk
    unfold fok at h
    rw [Bool.and_eq_true] at h
    cases k with
    | zero =>
      have : a = v := Option.some.inj hk
      rw [← this]; exact h.1
    | succ k =>
      have := ih h.2 k v hk
      rw [show i + (k + 1) = i + 1 + k by omega]
      exact this
theorem okc_o {ci : Nat} {fs : List Value} (h : fok ci 0 fs = true) : okc (.inr (ci, fs)) := by
  have rs : ∀ (k : Nat) (v : Value), fs[k]? = some v → (im_so (.inr (ci, fs))).2.2[k]? = some (match v with | .ref b => if im_dy ci k then -1 else (b : Int) | _ => -1) := fun k v hk => by
    show (fs.zipIdx.map _)[k]? = _
    rw [List.getElem?_map, List.getElem?_zipIdx, hk]
    simp only [Option.map_some, Nat.zero_add]
    cases v <;> rfl
  have mf : ∀ (k : Nat) (v : Value), fs[k]? = some v → im_mf (.inr (ci, fs)) k = (match v with | .int x => x.toInt | .long x => x.toInt | .ref b => (b : Int) | _ => -1) := fun k v hk => by
    show (match fs[((k : Int)).toNat]? with | some (.int x) => x.toInt | some (.long x) => x.toInt | some (.ref b) => (b : Int) | _ => -1) = _
    rw [show ((k : Int)).toNat = k by omega, hk]
    cases v <;> rfl
  have fv : ∀ (k : Nat) (v : Value), fs[k]? = some v → im_fv ci (im_so (.inr (ci, fs))).2.2 (im_mf (.inr (ci, fs))) k = v := fun k v hk => by
    have h1 := fok_get h k v hk
    rw [Nat.zero_add] at h1
    have h2 := rs k v hk
    have h3 := mf k v hk
    unfold im_fv
    cases v with
    | ref b =>
      have h1 : im_isR (am_tyF ci k) = true := h1
      rw [im_ft_R h1]
      have : im_fr (im_so (.inr (ci, fs))).2.2 (im_mf (.inr (ci, fs))) k = (b : Int) := by
        unfold im_fr
        rw [h2]
        dsimp only
        by_cases hdy : im_dy ci k = true
        · rw [if_pos hdy, if_neg (by decide)]; exact h3
        · rw [if_neg hdy, if_pos (Int.natCast_nonneg b)]
      rw [this, im_rv_ref]
    | null =>
      have h1 : im_isR (am_tyF ci k) = true := h1
      rw [im_ft_R h1]
      have : im_fr (im_so (.inr (ci, fs))).2.2 (im_mf (.inr (ci, fs))) k = -1 := by
        unfold im_fr
        rw [h2]
        dsimp only
        rw [if_neg (by decide)]
        exact h3
      rw [this]
      rfl
    | int x =>
      have h1 : (im_isI (am_tyF ci k) && _) = true := h1
      rw [Bool.and_eq_true] at h1
      rw [im_ft_I h1.1, h3]
      show Value.int (Int32.ofInt x.toInt) = _
      rw [Int32.ofInt_toInt]
    | long x =>
      have h1 : im_isL (am_tyF ci k) = true := h1
      rw [im_ft_L h1, h3]
      show Value.long (Int64.ofInt x.toInt) = _
      rw [Int64.ofInt_toInt]
    | _ => cases h1
  constructor
  · show Sum.inr (ci, (List.range fs.length).map (im_fv ci (im_so (.inr (ci, fs))).2.2 (im_mf (.inr (ci, fs))))) = _
    congr 2
    apply List.ext_getElem?
    intro k
    rw [List.getElem?_map]
    by_cases hk : k < fs.length
    · rw [List.getElem?_range hk, List.getElem?_eq_getElem hk, Option.map_some, fv k _ (List.getElem?_eq_getElem hk)]
    · rw [List.getElem?_eq_none (by simpa using hk), List.getElem?_eq_none (by omega)]
      rfl
  · intro j j0 j1
    have j1 : j < (fs.length : Int) := j1
    have hk : j.toNat < fs.length := by omega
    have hv := List.getElem?_eq_getElem hk
    generalize fs[j.toNat] = v at hv
    have h1 := fok_get h j.toNat v hv
    have h3 := mf j.toNat v hv
    rw [Nat.zero_add] at h1
    rw [show ((j.toNat : Nat) : Int) = j by omega] at h3
    show im_rt (am_tyF ci j.toNat) (im_mf (.inr (ci, fs)) j)
    rw [h3]
    cases v with
    | ref b =>
      have h1 : im_isR (am_tyF ci j.toNat) = true := h1
      revert h1
      cases am_tyF ci j.toNat <;> intro h1 <;> first | trivial | cases h1
    | null =>
      have h1 : im_isR (am_tyF ci j.toNat) = true := h1
      revert h1
      cases am_tyF ci j.toNat <;> intro h1 <;> first | trivial | cases h1
    | int x =>
      have h1 : (im_isI (am_tyF ci j.toNat) && (0 ≤ x.toInt && x.toInt ≤ 1 || (match am_tyF ci j.toNat with | .int => true | _ => false))) = true := h1
      revert h1
      cases am_tyF ci j.toNat <;> intro h1 <;> first | exact im_t32 x | (simp [im_isI] at h1; try exact h1) | trivial
    | long x =>
      have h1 : im_isL (am_tyF ci j.toNat) = true := h1
      revert h1
      cases am_tyF ci j.toNat <;> intro h1 <;> first | exact im_t64 x | cases h1
    | _ => cases h1
theorem okc_num (k : Nat) : okc (pu_num k) := okc_o rfl
theorem okc_nums (b : Nat) : ∀ (k : Nat), ∀ c ∈ pu_nums b k, okc c := by
  intro k
  induction k with
  | zero => intro c hc; cases hc
  | succ k ih =>
    intro c hc
    rw [pu_nums] at hc
    rcases List.mem_append.mp hc with z | z
    · exact ih c z
    · rcases List.mem_cons.mp z with y | y
      · rw [y]; exact okc_num _
      · rw [List.mem_singleton] at y
        rw [y]; exact okc_i (Or.inr (Or.inl rfl))
theorem okc_book (l n k : Nat) : ∀ c ∈ pu_book l n k, okc c := by
  intro c hc
  unfold pu_book at hc
  rcases List.mem_cons.mp hc with z | hc
  · rw [z]; exact okc_o rfl
  rcases List.mem_cons.mp hc with z | hc
  · rw [z]; exact okc_num _
  rcases List.mem_cons.mp hc with z | hc
  · rw [z]; exact okc_i (Or.inr (Or.inl rfl))
  rcases List.mem_cons.mp hc with z | hc
  · rw [z]; exact okc_l
  rcases List.mem_cons.mp hc with z | hc
  · rw [z]; exact okc_l
  rcases List.mem_cons.mp hc with z | hc
  · rw [z]; exact okc_r (Or.inl rfl)
  exact okc_nums _ _ c hc
theorem okc_state (l np : Nat) : ∀ c ∈ pu_state l np, okc c := by
  intro c hc
  unfold pu_state at hc
  rcases List.mem_cons.mp hc with z | hc
  · rw [z]; exact okc_o rfl
  rcases List.mem_append.mp hc with hc | hc
  · rcases List.mem_append.mp hc with hc | hc
    · rcases List.mem_append.mp hc with hc | hc
      · rcases List.mem_append.mp hc with hc | hc
        · cases hc
        · exact okc_book _ _ _ c hc
      · exact okc_book _ _ _ c hc
    · exact okc_book _ _ _ c hc
  · exact okc_book _ _ _ c hc
/-- a block's cells by their places: shapes S and memory -/
def sbs (S : Nat → Option im_Sh) (M : im_M) (l : Nat) (B : am_H) : Prop := ∀ i c, B[i]? = some c → S (l + i) = some (im_so c) ∧ M (l + i) = im_mf c
theorem sbs_l {S : Nat → Option im_Sh} {M : im_M} {A B : am_H} {l : Nat} (h : sbs S M l (A ++ B)) : sbs S M l A := fun i c hi => h i c (pu_L hi)
theorem sbs_r {S : Nat → Option im_Sh} {M : im_M} {A B : am_H} {l n m : Nat} (h : sbs S M l (A ++ B)) (hn : A.length = n) (hm : m = l + n) : sbs S M m B := fun i c hi => by
  subst hm
  have := h (n + i) c (pu_Rr hn rfl hi)
  rw [← Nat.add_assoc] at this; exact this
theorem sbs_c {S : Nat → Option im_Sh} {M : im_M} {B : am_H} {a : va_E} {l m : Nat} (h : sbs S M l (a :: B)) (hm : m = l + 1) : sbs S M m B := fun i c hi => by
  subst hm
  have := h (i + 1) c (pu_Cc rfl hi)
  rw [show l + (i + 1) = l + 1 + i by omega] at this; exact this
theorem sbs_0 {S : Nat → Option im_Sh} {M : im_M} {B : am_H} {a : va_E} {l : Nat} (h : sbs S M l (a :: B)) : S l = some (im_so a) ∧ M l = im_mf a := h 0 a rfl
section SBS
variable {e : im_E} {M : im_M}
theorem num_sb {b : Nat} (h0 : (im_sh0 ++ e)[b]? = some (im_so (pu_num (b + 1)))) (h1 : (im_sh0 ++ e)[b + 1]? = some (im_so pu_limb)) : im_num e b := ⟨h0, h1⟩
theorem nums_sb {b k : Nat} (h : sbs (fun i => (im_sh0 ++ e)[i]?) M b (pu_nums b k)) : ∀ j : Nat, j < k → im_num e (b + 2 * j) ∧ cn M (b + 2 * j) 0 := fun j hj => by
  obtain ⟨p1, p2⟩ := pu_nums_at b k j hj
  have q1 := h _ _ p1
  have q2 := h _ _ p2
  refine ⟨num_sb q1.1 (by rw [Nat.add_assoc]; exact q2.1), cn_z ?_ ?_⟩
  · rw [q1.2]; rfl
  · rw [q1.2]; rfl
theorem book_sb {l n : Nat} (h : sbs (fun i => (im_sh0 ++ e)[i]?) M l (pu_book l n n)) (hn : n ≤ 60) : bkN e l n ∧ cb M l n (0, z0, z0, z0) := by
  have h1 := sbs_c h rfl
  have h2 := sbs_c h1 rfl
  have h3 := sbs_c h2 rfl
  have h4 := sbs_c h3 rfl
  have h5 := sbs_c h4 rfl
  have h6 := sbs_c h5 rfl
  have nn := nums_sb h6
  refine ⟨⟨⟨(sbs_0 h).1, (sbs_0 h3).1, (sbs_0 h4).1, (sbs_0 h5).1, num_sb (sbs_0 h1).1 (sbs_0 h2).1, hn⟩, fun j hj => (nn j hj).1⟩, fun i => i, ⟨?_, Nat.zero_le _, fun i hi => ⟨hi, ?_⟩, fun i j _ _ q => q, fun i hi => absurd hi (Nat.not_lt_zero i)⟩, fun i hi => absurd hi (Nat.not_lt_zero i), cn_z ?_ ?_⟩
  · rw [(sbs_0 h).2]; rfl
  · have : M (l + 5) = im_mf (.inl (4, n, .inr (.inr (.inr (.inr (fun j => if j < n then some (l + 6 + 2 * j) else none)))))) := (sbs_0 h5).2
    rw [this]
    show (match (if ((i : Int)).toNat < n then some (l + 6 + 2 * ((i : Int)).toNat) else none) with | none => (-1 : Int) | some b => (b : Int)) = _
    rw [show ((i : Int)).toNat = i by omega, if_pos hi]
  · rw [(sbs_0 h1).2]; rfl
  · rw [(sbs_0 h1).2]; rfl
theorem state_sb {l np : Nat} (h : sbs (fun i => (im_sh0 ++ e)[i]?) M l (pu_state l np)) (hn : np ≤ 60) : stN e l np ∧ (cb M (l + 1) 40 (0, z0, z0, z0) ∧ cb M (l + 87) 40 (0, z0, z0, z0) ∧ cb M (l + 173) 40 (0, z0, z0, z0) ∧ cb M (l + 259) np (0, z0, z0, z0)) ∧ (M l 4 = 0 ∧ M l 5 = 0 ∧ M l 6 = 0) := by
  have h1 : sbs (fun i => (im_sh0 ++ e)[i]?) M (l + 1) (((([] ++ pu_book (l + 1) 40 40) ++ pu_book (l + 87) 40 40) ++ pu_book (l + 173) 40 40) ++ pu_book (l + 259) np np) := sbs_c h rfl
  obtain ⟨a1, c1⟩ := book_sb (sbs_r (m := l + 1) (n := 0) (sbs_l (sbs_l (sbs_l h1))) rfl rfl) (by decide)
  obtain ⟨a2, c2⟩ := book_sb (sbs_r (m := l + 87) (n := 86) (sbs_l (sbs_l h1)) (by simp only [List.length_append, List.length_nil, pu_book_len]) (by omega)) (by decide)
  obtain ⟨a3, c3⟩ := book_sb (sbs_r (m := l + 173) (n := 172) (sbs_l h1) (by simp only [List.length_append, List.length_nil, pu_book_len]) (by omega)) (by decide)
  obtain ⟨a4, c4⟩ := book_sb (sbs_r (m := l + 259) (n := 258) h1 (by simp only [List.length_append, List.length_nil, pu_book_len]) (by omega)) hn
  have h0 := sbs_0 h
  refine ⟨⟨⟨h0.1, a1.1, a2.1, a3.1⟩, a1, a2, a3, a4⟩, ⟨c1, c2, c3, c4⟩, ?_, ?_, ?_⟩ <;> (rw [h0.2]; rfl)
end SBS
theorem stN_len {e : im_E} {b : Nat} (h : stN e b 0) : b + 265 ≤ (im_sh0 ++ e).length := by
  have h1 := h.2.2.2.2.1.2.2.2.1
  have := (List.getElem?_eq_some_iff.mp h1).1
  omega
theorem D239_0 {g : im_g} : im_D g 239 0 (.aload_n 0) 1 := im_D.of (by decide +kernel)
theorem D239_1 {g : im_g} : im_D g 239 1 (.getfield 11) 4 := im_D.of (by decide +kernel)
theorem D239_4 {g : im_g} : im_D g 239 4 (.iload_n 1) 5 := im_D.of (by decide +kernel)
theorem D239_5 {g : im_g} : im_D g 239 5 .aaload 6 := im_D.of (by decide +kernel)
theorem D239_6 {g : im_g} : im_D g 239 6 (.astore_n 2) 7 := im_D.of (by decide +kernel)
theorem D239_7 {g : im_g} : im_D g 239 7 (.aload_n 2) 8 := im_D.of (by decide +kernel)
theorem D239_8 {g : im_g} : im_D g 239 8 (.ifnonnull 19) 11 := im_D.of (by decide +kernel)
theorem D239_19 {g : im_g} : im_D g 239 19 (.astore_n 2) 20 := im_D.of (by decide +kernel)
theorem D239_20 {g : im_g} : im_D g 239 20 (.aload_n 0) 21 := im_D.of (by decide +kernel)
theorem D239_21 {g : im_g} : im_D g 239 21 (.getfield 11) 24 := im_D.of (by decide +kernel)
theorem D239_24 {g : im_g} : im_D g 239 24 (.iload_n 1) 25 := im_D.of (by decide +kernel)
theorem D239_25 {g : im_g} : im_D g 239 25 (.aload_n 2) 26 := im_D.of (by decide +kernel)
theorem D239_26 {g : im_g} : im_D g 239 26 .aastore 27 := im_D.of (by decide +kernel)
theorem D239_27 {g : im_g} : im_D g 239 27 (.aload_n 2) 28 := im_D.of (by decide +kernel)
theorem D239_28 {g : im_g} : im_D g 239 28 .areturn 29 := im_D.of (by decide +kernel)
theorem okc_nex {c : va_E} (h : okc c) : nex (im_so c) = true := by
  unfold nex
  by_cases z : (im_so c).1 = 6
  · exfalso
    have h1 := h.1
    have e1 : im_c (im_so c) (im_mf c) = .inr (99, [.null, .null, .null, .null, .null, .null]) := by
      unfold im_c; rw [z]
    rw [e1] at h1
    rw [← h1] at z
    exact absurd z (by decide)
  · show (!(Nat.beq (im_so c).1 6)) = true
    cases hb : Nat.beq (im_so c).1 6 with
    | true => exact absurd (Nat.eq_of_beq_eq_true hb) z
    | false => rfl
theorem nex_all {B : am_H} (h : ∀ c ∈ B, okc c) : (B.map im_so).filter nex = B.map im_so := by
  rw [List.filter_eq_self]
  intro s hs
  obtain ⟨c, hc, rfl⟩ := List.mem_map.mp hs
  exact okc_nex (h c hc)
theorem so_sz (c : va_E) : (im_so c).2.1 = am_sz c := by
  cases c with
  | inl p => rfl
  | inr p => rfl
theorem stz_so {B : am_H} (h : ∀ c ∈ B, okc c) : stc (B.map im_so) = B.length ∧ stz (B.map im_so) = am_sl B ∧ xcn (B.map im_so) = 0 := by
  refine ⟨?_, ?_, ?_⟩
  · unfold stc; rw [nex_all h, List.length_map]
  · unfold stz am_sl; rw [nex_all h, List.map_map]
    congr 1
    exact List.map_congr_left (fun c _ => so_sz c)
  · unfold xcn
    rw [List.length_eq_zero_iff, List.filter_eq_nil_iff]
    intro s hs
    obtain ⟨c, hc, rfl⟩ := List.mem_map.mp hs
    have := okc_nex (h c hc)
    unfold nex at this
    intro h
    rw [h] at this
    exact absurd this (by decide)
theorem stc_app (a b : im_E) : stc (a ++ b) = stc a + stc b ∧ stz (a ++ b) = stz a + stz b ∧ xcn (a ++ b) = xcn a + xcn b := by
  unfold stc stz xcn
  rw [List.filter_append, List.filter_append, List.length_append, List.map_append, List.sum_append, List.length_append]
  exact ⟨rfl, rfl, rfl⟩
theorem lvc_set {M N : im_M} {j : Nat} (h0 : M 1794 (j : Int) = -1) (h1 : N 1794 (j : Int) ≠ -1) (h2 : ∀ q, q ≠ (j : Int) → N 1794 q = M 1794 q) : ∀ n : Nat, lvc N n = lvc M n + if j < n then 1 else 0 := by
  intro n
  induction n with
  | zero => rfl
  | succ n ih =>
    show lvc N n + (if N 1794 (n : Int) = -1 then 0 else 1) = lvc M n + (if M 1794 (n : Int) = -1 then 0 else 1) + _
    rw [ih]
    by_cases c : n = j
    · subst c
      rw [if_neg h1, if_pos h0, if_neg (Nat.lt_irrefl _), if_pos (Nat.lt_succ_self _)]
    · rw [h2 n (by omega)]
      generalize (if M 1794 (n : Int) = -1 then 0 else 1 : Nat) = z
      by_cases c2 : j < n
      · have e1 : (if j < n then 1 else 0 : Nat) = 1 := if_pos c2
        have e2 : (if j < n + 1 then 1 else 0 : Nat) = 1 := if_pos (by omega)
        rw [e1, e2]; omega
      · have e1 : (if j < n then 1 else 0 : Nat) = 0 := if_neg c2
        have e2 : (if j < n + 1 then 1 else 0 : Nat) = 0 := if_neg (by omega)
        rw [e1, e2]; omega
section LEVELC
variable {g : im_g} {d : Nat} {e : im_E} {M : im_M} {K : im_K}
/-- a new state -/
theorem im_newS {L : im_L} (hd : 3 ≤ d) (k : im_T g d 239 19 L [.ref (im_sh0 ++ e).length] (e ++ (pu_state (im_sh0 ++ e).length 0).map im_so) (im_bm (pu_state (im_sh0 ++ e).length 0) (im_sh0 ++ e).length M) K) : im_T g d 239 11 L [] e M K := by
  intro lv h hl hw
  obtain ⟨d, rfl⟩ : ∃ z, d = z + 3 := ⟨d - 3, by omega⟩
  have hlen : h.length = (im_sh0 ++ e).length := hw.1
  have hw2 := hw.blk (okc_state (im_sh0 ++ e).length 0)
  rw [List.append_assoc] at hw2
  have k2 := k lv _ hl hw2
  rw [← hlen] at k2
  refine am_T.one (pc' := 14) (lv' := lv) (st' := [.ref h.length]) (h1 := h ++ [.inr (9, [.null, .null, .null, .null, .long 0, .int 0, .int 0])]) rfl ?_
  refine am_T.one (pc' := 15) (lv' := lv) (st' := [.ref h.length, .ref h.length]) rfl ?_
  refine am_T.one (pc' := 16) (lv' := lv) (st' := [.int 0, .ref h.length, .ref h.length]) rfl ?_
  refine am_T.call (kd := 2) (y := 15) (ix := 94) (vs := [.ref h.length, .int 0]) (r := [.ref h.length]) (am_cll_of (ins := .invokespecial 94) ⟨rfl, rfl, 3, rfl⟩ rfl rfl rfl rfl (Or.inr (Nat.le_of_ble_eq_true rfl))) (by decide) ?_
  exact am_T.of (pu_State_init g.1 g.2 d h 0 (by decide)) k2
theorem c_level {j : Nat} (hj : j < 128) (hlv : cLv M e) (hd : 5 ≤ d) (hK : ∀ (a : Nat) (ex : im_E) (M' : im_M), xcn ex = 0 → M' 1794 j = (a : Int) → (∀ q, q ≠ (j : Int) → M' 1794 q = M 1794 q) → (∀ x, x ≠ 1794 → (x < a ∨ a + 265 ≤ x) → M' x = M x) → cLv M' (e ++ ex) → (M 1794 j ≠ -1 → M' = M) → K (.inl (some (.ref a))) (e ++ ex) M') : im_T g d 239 0 [some (.ref 1793), some (vI j), none] [] e M K := by
  refine im_ld (q := 1) (i := 0) D239_0 rfl rfl rfl ?_
  refine im_gfR (q := 4) (b := 1794) D239_1 (im_fl cn_239 fl_8_11) sf_1793 rfl rfl tR_8_2 rfl ?_
  refine im_ld (q := 5) (i := 1) D239_4 rfl rfl rfl ?_
  rcases hlv.1 j hj with hz | ⟨b, b1, b2, b3, b4⟩
  · refine im_aaldN (q := 6) D239_5 sf_1794 (Or.inr rfl) (by omega) (by omega) (by decide) (by omega) ?_
    refine im_stN (q := 7) (i := 2) (L' := [some (.ref 1793), some (vI j), some .null]) D239_6 (Or.inl ⟨2, rfl, rfl⟩) (Nat.le_of_ble_eq_true rfl) rfl ?_
    refine im_ld (q := 8) (i := 2) D239_7 rfl rfl rfl ?_
    refine im_stp (q := 11) (t := 11) (L' := [some (.ref 1793), some (vI j), some .null]) (st' := []) D239_8 rfl (fun lv hl => ⟨lv, rfl, hl⟩) ?_
    refine im_newS (by omega) ?_
    have hal : 7082 ≤ (im_sh0 ++ e).length := by
      rw [List.length_append]
      unfold im_sh0
      rw [List.length_map, pu_H_len]
      omega
    have hsb : sbs (fun i => (im_sh0 ++ (e ++ (pu_state (im_sh0 ++ e).length 0).map im_so))[i]?) (im_bm (pu_state (im_sh0 ++ e).length 0) (im_sh0 ++ e).length M) (im_sh0 ++ e).length (pu_state (im_sh0 ++ e).length 0) := fun i c hi => by
      refine ⟨?_, im_bm_at hi⟩
      show (im_sh0 ++ (e ++ _))[(im_sh0 ++ e).length + i]? = _
      rw [← List.append_assoc, List.getElem?_append_right (by omega), show (im_sh0 ++ e).length + i - (im_sh0 ++ e).length = i by omega, List.getElem?_map, hi]
      rfl
    have hlt : ∀ x, (x < (im_sh0 ++ e).length ∨ (im_sh0 ++ e).length + 265 ≤ x) → im_bm (pu_state (im_sh0 ++ e).length 0) (im_sh0 ++ e).length M x = M x := fun x hx => im_bm_lt (by
      have : (pu_state (im_sh0 ++ e).length 0).length = 265 := by
        unfold pu_state
        simp only [List.length_cons, List.length_append, List.length_nil, pu_book_len]
      omega)
    obtain ⟨s1, ⟨s2, s3, s4, _⟩, _⟩ := state_sb hsb (by decide)
    have hst := s1.1.1
    generalize im_bm (pu_state (im_sh0 ++ e).length 0) (im_sh0 ++ e).length M = N at s2 s3 s4 hlt
    have hzz := stz_so (okc_state (im_sh0 ++ e).length 0)
    rw [pu_state_len, pu_state_sl] at hzz
    generalize hex : (pu_state (im_sh0 ++ e).length 0).map im_so = ex at s1 hst hzz
    generalize ha : (im_sh0 ++ e).length = a at s1 s2 s3 s4 hst hlt hal
    have n94 : N 1794 = M 1794 := hlt 1794 (by omega)
    refine im_stR (q := 20) (i := 2) (L' := [some (.ref 1793), some (vI j), some (.ref a)]) D239_19 (Or.inl ⟨2, rfl, rfl⟩) (Nat.le_of_ble_eq_true rfl) rfl ?_
    refine im_ld (q := 21) (i := 0) D239_20 rfl rfl rfl ?_
    refine im_gfR (q := 24) (b := 1794) D239_21 (im_fl cn_239 fl_8_11) sf_1793 rfl rfl tR_8_2 rfl ?_
    refine im_ld (q := 25) (i := 1) D239_24 rfl rfl rfl ?_
    refine im_ld (q := 26) (i := 2) D239_25 rfl rfl rfl ?_
    refine im_aast (q := 27) (ci := 9) D239_26 sf_1794 (Or.inr rfl) hst rfl (by omega) (by omega) (by decide) ?_
    refine im_ld (q := 28) (i := 2) D239_27 rfl rfl rfl ?_
    refine im_aret (q := 29) D239_28 rfl ?_
    have ux : ∀ x, x ≠ 1794 → im_u N 1794 j (a : Int) x = N x := fun x q => im_u_ne _ _ _ q
    have uj : im_u N 1794 j (a : Int) 1794 j = (a : Int) := im_rds _ _ _ _
    have uq : ∀ q, q ≠ (j : Int) → im_u N 1794 j (a : Int) 1794 q = M 1794 q := fun q hq => by rw [im_rdk _ _ _ hq, n94]
    generalize im_u N 1794 j (a : Int) = N2 at ux uj uq
    have hRB : RB N2 (e ++ ex) := by
      obtain ⟨q1, q2, _⟩ := stc_app e ex
      have h3 := hlv.2.2
      unfold RB at h3 ⊢
      rw [q1, q2, lvc_set (j := j) hz (by rw [uj]; omega) uq 128, if_pos hj, hzz.1, hzz.2.1]
      omega
    refine hK a ex N2 hzz.2.2 uj uq (fun x q r => (ux x q).trans (hlt x r)) ⟨fun i hi => ?_, fun i i2 b c hi hi2 hne hb hc => ?_, hRB⟩ (fun z => absurd hz z)
    · by_cases z : i = j
      · subst z
        exact Or.inr ⟨a, uj, hal, s1, ⟨_, cb_congr s2 (fun x p q => ux x (by omega))⟩, ⟨_, cb_congr s3 (fun x p q => ux x (by omega))⟩, ⟨_, cb_congr s4 (fun x p q => ux x (by omega))⟩⟩
      · rw [uq i (by omega)]
        rcases hlv.1 i hi with y | ⟨b, b1, b2, b3, b4, b5, b6⟩
        · exact Or.inl y
        · have hbl := stN_len b3
          have fx : ∀ x, b ≤ x → x < b + 265 → N2 x = M x := fun x p q => (ux x (by omega)).trans (hlt x (by omega))
          exact Or.inr ⟨b, b1, b2, stN_app b3, cbx_congr b4 (fun x p q => fx x (by omega) (by omega)), cbx_congr b5 (fun x p q => fx x (by omega) (by omega)), cbx_congr b6 (fun x p q => fx x (by omega) (by omega))⟩
    · have old : ∀ i : Nat, i < 128 → i ≠ j → ∀ b : Nat, N2 1794 i = (b : Int) → M 1794 i = (b : Int) ∧ b + 265 ≤ a := fun i hi hne b hb => by
        rw [uq i (by omega)] at hb
        refine ⟨hb, ?_⟩
        rcases hlv.1 i hi with y | ⟨b', b1, b2, b3, _⟩
        · omega
        · have : b' = b := by omega
          rw [← this, ← ha]
          exact stN_len b3
      by_cases z : i = j
      · rw [z, uj] at hb
        obtain ⟨_, o2⟩ := old i2 hi2 (by omega) c hc
        omega
      · by_cases z2 : i2 = j
        · rw [z2, uj] at hc
          obtain ⟨_, o2⟩ := old i hi z b hb
          omega
        · obtain ⟨o1, _⟩ := old i hi z b hb
          obtain ⟨o3, _⟩ := old i2 hi2 z2 c hc
          exact hlv.2.1 i i2 b c hi hi2 hne o1 o3
  · refine im_aald (q := 6) (b := b) D239_5 sf_1794 (Or.inr rfl) (by omega) (by omega) (by decide) b1 ?_
    refine im_stR (q := 7) (i := 2) (L' := [some (.ref 1793), some (vI j), some (.ref b)]) D239_6 (Or.inl ⟨2, rfl, rfl⟩) (Nat.le_of_ble_eq_true rfl) rfl ?_
    refine im_ld (q := 8) (i := 2) D239_7 rfl rfl rfl ?_
    refine im_stp (q := 11) (t := 27) (L' := [some (.ref 1793), some (vI j), some (.ref b)]) (st' := []) D239_8 rfl (fun lv hl => ⟨lv, rfl, hl⟩) ?_
    refine im_ld (q := 28) (i := 2) D239_27 rfl rfl rfl ?_
    refine im_aret (q := 29) D239_28 rfl ?_
    have := hK b [] M rfl b1 (fun _ _ => rfl) (fun _ _ _ => rfl) (by rw [List.append_nil]; exact hlv) (fun _ => rfl)
    rw [List.append_nil] at this
    exact this
end LEVELC
