/-! STATE, NAME, ENTRY, AMOUNT, WALLET on the reference -/
theorem Wd.eta (w : Wd) : w = (w.gTp, w.gTn, w.gOb, w.gOn, w.gFc, w.gFp, w.gRw, w.gM, w.gRt, w.gIn, w.gPm, w.gWa, w.gMi, w.gPy, w.gWr, w.gMd, w.gDe, w.gJr) := rfl
theorem Wd.fcp (w : Wd) : (w.sFc w.gFc).sFp w.gFp = w := by
  have h1 : (w.sFc w.gFc).sFp w.gFp = ((w.gTp, w.gTn, w.gOb, w.gOn, w.gFc, w.gFp, w.gRw, w.gM, w.gRt, w.gIn, w.gPm, w.gWa, w.gMi, w.gPy, w.gWr, w.gMd, w.gDe, w.gJr) : Wd) := rfl
  rw [h1]; exact (Wd.eta w).symm
theorem RW.scr0 {M M' : im_M} {w : Wd} (h : RW M w) (hf : RSF M M') (h19 : M' 6952 19 = M 6952 19) (h20 : M' 6952 20 = M 6952 20) (hs : rScr M') : RW M' w := by
  have := h.scr (c := w.gFc) (p := w.gFp) hf ⟨h19.trans h.1.2.2.1, h20.trans h.1.2.2.2⟩ hs
  rw [Wd.fcp] at this
  exact this
section STATER
variable {g : im_g} {d : Nat} {e : im_E} {M : im_M} {K : im_K} {w : Wd}
/-- numbers are taken into the pool, from its kept top on -/
theorem RW.tops {M' : im_M} (h : RW M w) (hx : ∀ x, x ≠ 6952 → x ≠ 6955 → M' x = M x) (hk : ∀ k, k ≠ 7 → k ≠ 8 → M' 6952 k = M 6952 k) (h8 : M' 6952 8 = 0 ∨ M' 6952 8 = 1) (hi : ∀ i, i < M 6952 6 → M' 6955 i = M 6955 i) : RW M' w := by
  obtain ⟨_, _, _, _, _, _, ⟨s8, s116, s99, s100⟩⟩ := id h
  refine h.scr0 ⟨fun x a b c d f => hx x a (by omega), fun x i a b c => by rw [hx x (by omega) (by omega)], fun x i a b => by rw [hx x (by omega) (by omega)], hi, fun k hk' => hk k (by omega) (by omega)⟩ (hk 19 (by decide) (by decide)) (hk 20 (by decide) (by decide)) ⟨h8, by rw [hk 116 (by decide) (by decide)]; exact s116, by rw [hk 99 (by decide) (by decide)]; exact s99, by rw [hk 100 (by decide) (by decide)]; exact s100⟩
/-- a number in the pool is told -/
theorem c_rtellN {r v T : Int} (h : RW M w) (hv : rnp M 0 T r v) (hT : T ≤ 1100000) (hd : 1 ≤ d) (hK : ∀ M', (∀ z, z < 6952 ∨ 7080 < z → M' z = M z) → RW M' (ouW w (nuL v)) → M' 6952 0 = M 6952 0 → K (.inl (some (vI ((nuL v).length : Int)))) e M') : im_T g d 324 0 [some (.ref 6952), some (vI r), none] [] e (im_u M 6952 4 0) (im_r0 (fun e_ M12 => e = e_ ∧ K (.inl (some (vI (M12 6952 4)))) e M12)) := by
  have ho : rOL (im_u M 6952 4 0) [] := ⟨im_rds _ _ _ _, fun i a b => absurd b (by show ¬ i < (0 : Int); omega), by decide⟩
  refine c_rnumberL (L := []) (rnp_congr hv (fun j _ => by rw [im_rdn _ _ _ _ (by decide)]) (Int.le_refl _)) hT ho hd (fun M' f o => ⟨rfl, rfl, ?_⟩)
  have o' : rOL M' (nuL v) := o
  have fx : ∀ x, x ≠ 6952 → x ≠ 6954 → M' x = M x := fun x a b => (f.1 x a b).trans (im_u_ne _ _ _ a)
  have fk : ∀ k, k ≠ 4 → M' 6952 k = M 6952 k := fun k a => (f.2 k a).trans (im_rdk _ _ _ a)
  rw [o'.1]
  exact hK M' (fun z hz => fx z (by omega) (by omega)) (h.out fx fk o') (fk 0 (by decide))
/-- a kept number is told -/
theorem c_rtellS {c n1 : Nat} {j v : Int} (h : RW M w) (hde : w.gDe ≤ 16384) (hs : (im_sh0 ++ e)[c]? = some (1, n1, [])) (hn1 : n1 ≤ 2147483647) (hc : c ≠ 6955) (hc2 : c ≠ 6952) (hj : 0 ≤ j ∧ 302 * j + 302 ≤ n1) (hv : sn M c j v) (hd : 1 ≤ d) (hK : ∀ M', (∀ z, z < 6952 ∨ 7080 < z → M' z = M z) → RW M' (ouW w (nuL v)) → M' 6952 0 = M 6952 0 → K (.inl (some (vI ((nuL v).length : Int)))) e M') : im_T g d 345 0 [some (.ref 6952), some (.ref c), some (vI j), none, none, none] [] e (im_u M 6952 7 (M 6952 6)) (im_ri (fun x11 e_ M10 => e = e_ ∧ im_T g d 324 0 [some (.ref 6952), some (vI x11), none] [] e (im_u M10 6952 4 0) (im_r0 (fun e_ M12 => e = e_ ∧ K (.inl (some (vI (M12 6952 4)))) e M12)))) := by
  have p3 := h.2.1.1.2.2.1
  have s8 := h.2.2.2.2.2.2.1
  have e7 : im_u M 6952 7 (M 6952 6) 6952 7 = M 6952 6 := im_rds _ _ _ _
  refine c_rload hs hn1 hc hc2 hj.1 hj.2 (sn_congr hv (fun i _ _ => by rw [im_rdn _ _ _ _ hc2])) (by rw [e7]; omega) (by rw [e7]; omega) (fun M1 f1 f2 f3 => ⟨_, rfl, rfl, ?_⟩)
  rw [e7] at f1 f2 f3 ⊢
  have fx : ∀ x, x ≠ 6952 → x ≠ 6955 → M1 x = M x := fun x a b => (f1.1 x (fun z => by cases z) b a).trans (im_u_ne _ _ _ a)
  have fk : ∀ k, k ≠ 7 → M1 6952 k = M 6952 k := fun k a => (f1.2.1 k (by simp [a])).trans (im_rdk _ _ _ a)
  have W1 : RW M1 w := h.tops fx (fun k a _ => fk k a) (by rw [fk 8 (by decide)]; exact s8) (fun i hi => by rw [f1.2.2 i hi, im_u_ne _ _ _ (by decide)])
  exact c_rtellN W1 f3 (by omega) hd (fun M' f W c0 => hK M' (fun z hz => (f z hz).trans (fx z (by omega) (by omega))) W (c0.trans (fk 0 (by decide))))
theorem c_isBegunQ {i : Int} (h : RW M w) (hi : im_i32 i) (hb : 0 ≤ i ∧ i < 16 → (w.gIn i).1 = 0 ∨ (w.gIn i).1 = 1) (hd : 1 ≤ d) (hK : ∀ a, (a = 1 ∧ (0 ≤ i ∧ i < 16 ∧ (w.gIn i).1 = 1)) ∨ (a = 0 ∧ ¬ (0 ≤ i ∧ i < 16 ∧ (w.gIn i).1 = 1)) → K (.inl (some (vI a))) e M) : im_T g d 349 0 [some (.ref 6952), some (vI i)] [] e M K :=
  c_isBegun h hi hb hd (fun z1 z2 => hK 1 (Or.inl ⟨rfl, z1.1, z1.2, z2⟩)) (fun z => hK 0 (Or.inr ⟨rfl, z⟩))
theorem c_countOf {i q : Int} (h : RW M w) (hi : 0 ≤ i ∧ i < 16) (hq : 1 ≤ q ∧ q ≤ 4) (hK : ((bkI (w.gIn i) q).1 ≤ 40) → K (.inl (some (vI ((bkI (w.gIn i) q).1 : Int)))) e M) : im_T g d 352 0 [some (.ref 6952), some (vI i), some (vI q)] [] e M K := by
  obtain ⟨_, S1, S2, S3, S4, _⟩ := h.2.1.2.2 i hi.1 hi.2
  refine b_countOf_0 ⟨by constructor <;> omega, ⟨fun _ => ⟨fun _ => ⟨fun _ => hi, fun _ => hi⟩, fun _ => hi⟩, fun _ => hi⟩, fun x hx => ?_⟩
  rw [S1.1, S2.1, S3.1, S4.1] at hx
  have e1 : x = ((bkI (w.gIn i) q).1 : Int) ∧ (bkI (w.gIn i) q).1 ≤ 40 := by
    have := S1.2.1
    have := S2.2.1
    have := S3.2.1
    have := S4.2.1
    unfold bkI
    by_cases c1 : q = 1
    · rw [if_pos c1]; omega
    · rw [if_neg c1]
      by_cases c2 : q = 2
      · rw [if_pos c2]; omega
      · rw [if_neg c2]
        by_cases c3 : q = 3
        · rw [if_pos c3]; omega
        · rw [if_neg c3]; omega
  rw [e1.1]; exact hK e1.2
theorem c_R_state {i q : Int} (h : RW M w) (hW : WFP w.gRw w.gM) (hio : 0 ≤ i ∧ i < 16 → insOk w.gRw w.gM w.gWa (w.gIn i)) (hi : im_i32 i) (hq : im_i32 q) (hd : 3 ≤ d)
    (hKt : mco 3 w.gJr.2.2.2.2 (0 ≤ i ∧ i < 16) (0 ≤ q ∧ q ≤ 5) (0 ≤ i ∧ i < 16 ∧ (w.gIn i).1 = 1) ≠ 0 → ∀ M', (∀ z, z < 6952 ∨ 7080 < z → M' z = M z) → RW M' w → M' 6952 0 = mco 3 w.gJr.2.2.2.2 (0 ≤ i ∧ i < 16) (0 ≤ q ∧ q ≤ 5) (0 ≤ i ∧ i < 16 ∧ (w.gIn i).1 = 1) → K (.inl (some (vL 0))) e M')
    (hK : w.gJr.2.2.2.2 = 0 → 0 ≤ i ∧ i < 16 → 0 ≤ q ∧ q ≤ 5 → (w.gIn i).1 = 1 → ∀ M', (∀ z, z < 6952 ∨ 7080 < z → M' z = M z) → RW M' w → M' 6952 0 = 0 → K (.inl (some (vL (stV w i q)))) e M') : im_T g d 351 0 [some (.ref 6952), some (vI i), some (vI q)] [] e M K := by
  refine b_state_0 (by omega) ⟨hi, c_isInQ (by constructor <;> omega) (by decide) (by decide) (fun a ha => ⟨_, rfl, rfl, hq, c_isInQ (by constructor <;> omega) (by decide) (by decide) (fun b hb => ⟨_, rfl, rfl, c_isBegunQ h hi (fun z => (hio z).1) (by omega) (fun c hc => ⟨_, rfl, rfl, ?_⟩)⟩)⟩)⟩
  refine c_mayQ (A := 0 ≤ i ∧ i < 16) (B := 0 ≤ q ∧ q ≤ 5) (C := 0 ≤ i ∧ i < 16 ∧ (w.gIn i).1 = 1) h (by decide) (by decide) (by omega) hb hc (fun hm M1 W1 e0 ez ek => ⟨_, rfl, rfl, by decide, fun z => absurd rfl z, fun _ => hKt hm M1 (fun z hz => ez z (by omega)) W1 e0⟩) (fun hz hA hB hC M1 W1 e0 ez ek => ⟨_, rfl, rfl, by decide, fun _ => ?_, fun z => absurd z (by decide)⟩)
  have hK := hK hz hA hB hC.2.2 M1 (fun z hz => ez z (by omega)) W1 e0
  unfold stV at hK
  refine ⟨fun q0 => ⟨fun q5 => ?_, fun q5 => ?_⟩, fun q0 => ?_⟩
  · rw [if_neg q0, if_neg q5] at hK
    exact c_countOf W1 hA (by omega) (fun h40 => ⟨_, rfl, rfl, by constructor <;> omega, hK⟩)
  · rw [if_neg q0, if_pos q5] at hK
    refine c_risOver W1 hW hio hi (by omega) (fun x hx hxo => ⟨_, rfl, rfl, by constructor <;> omega, fun y hy => ?_⟩)
    by_cases co : ovr w i
    · rw [ifq_pos co] at hK
      have : x = 1 := hxo.mpr ⟨hA.1, hA.2, hC.2.2, co⟩
      have : y = 1 := by omega
      rw [this]; exact hK
    · rw [ifq_neg co] at hK
      have : x ≠ 1 := fun z => co (hxo.mp z).2.2.2
      have : y = 0 := by omega
      rw [this]; exact hK
  · rw [if_pos q0] at hK
    obtain ⟨⟨_, _, u3⟩, _⟩ := W1.2.1.2.2 i hA.1 hA.2
    rw [u3]; exact ⟨hA, hK⟩
/-- the code of a call that names an entry -/
noncomputable def mcE (w : Wd) (i q k : Int) : Int := ifq (mco 3 w.gJr.2.2.2.2 (0 ≤ i ∧ i < 16) (1 ≤ q ∧ q ≤ 4) (0 ≤ i ∧ i < 16 ∧ (w.gIn i).1 = 1) ≠ 0) (mco 3 w.gJr.2.2.2.2 (0 ≤ i ∧ i < 16) (1 ≤ q ∧ q ≤ 4) (0 ≤ i ∧ i < 16 ∧ (w.gIn i).1 = 1)) (mco 3 w.gJr.2.2.2.2 (0 ≤ k ∧ k < (bkI (w.gIn i) q).1) True True)
theorem c_mayEntry {i q k : Int} (h : RW M w) (hb : 0 ≤ i ∧ i < 16 → (w.gIn i).1 = 0 ∨ (w.gIn i).1 = 1) (hi : im_i32 i) (hq : im_i32 q) (hk : im_i32 k) (hd : 2 ≤ d)
    (hKt : mcE w i q k ≠ 0 → ∀ M', (∀ z, z < 6952 ∨ 7080 < z → M' z = M z) → RW M' w → M' 6952 0 = mcE w i q k → K (.inl (some (vI 0))) e M')
    (hK : w.gJr.2.2.2.2 = 0 → 0 ≤ i ∧ i < 16 → 1 ≤ q ∧ q ≤ 4 → (w.gIn i).1 = 1 → 0 ≤ k ∧ k < (bkI (w.gIn i) q).1 → (bkI (w.gIn i) q).1 ≤ 40 → ∀ M', (∀ z, z < 6952 ∨ 7080 < z → M' z = M z) → RW M' w → M' 6952 0 = 0 → K (.inl (some (vI 1))) e M') : im_T g d 354 0 [some (.ref 6952), some (vI i), some (vI q), some (vI k), none] [] e M K := by
  unfold mcE at hKt
  refine b_mayEntry_0 (by omega) ⟨hi, c_isInQ (by constructor <;> omega) (by decide) (by decide) (fun a ha => ⟨_, rfl, rfl, hq, c_isInQ (by constructor <;> omega) (by decide) (by decide) (fun b hb' => ⟨_, rfl, rfl, c_isBegunQ h hi hb (by omega) (fun c hc => ⟨_, rfl, rfl, ?_⟩)⟩)⟩)⟩
  refine c_mayQ (A := 0 ≤ i ∧ i < 16) (B := 1 ≤ q ∧ q ≤ 4) (C := 0 ≤ i ∧ i < 16 ∧ (w.gIn i).1 = 1) h (by decide) (by decide) (by omega) hb' hc (fun hm M1 W1 e0 ez ek => ⟨_, rfl, rfl, by decide, fun _ => ?_, fun z => absurd rfl z⟩) (fun hz hA hB hC M1 W1 e0 ez ek => ⟨_, rfl, rfl, by decide, fun z => absurd z (by decide), fun _ => ⟨hk, ?_⟩⟩)
  · rw [ifq_pos hm] at hKt
    exact hKt hm M1 (fun z hz => ez z (by omega)) W1 e0
  · rw [mco_0 hz hA hB hC, ifq_neg (by decide)] at hKt
    refine c_countOf W1 hA hB (fun h40 => ⟨_, rfl, rfl, by constructor <;> omega, c_isInQ (by constructor <;> omega) (by decide) (by constructor <;> omega) (fun x hx => ⟨_, rfl, rfl, ?_⟩)⟩)
    exact c_mayQ (A := 0 ≤ k ∧ k < (bkI (w.gIn i) q).1) (B := True) (C := True) W1 (by decide) (by decide) (by omega) (Or.inl ⟨rfl, trivial⟩) (Or.inl ⟨rfl, trivial⟩) (fun hm M2 W2 e0' ez' ek' => ⟨_, rfl, rfl, by decide, fun _ => hKt hm M2 (fun z hz => by rw [ez' z (by omega)]; exact ez z (by omega)) W2 e0', fun z => absurd rfl z⟩) (fun _ hA2 _ _ M2 W2 e0' ez' ek' => ⟨_, rfl, rfl, by decide, fun z => absurd z (by decide), fun _ => hK hz hA hB hC.2.2 hA2 h40 M2 (fun z hz => by rw [ez' z (by omega)]; exact ez z (by omega)) W2 e0'⟩)
theorem c_R_name {i q k s : Int} (h : RW M w) (hb : 0 ≤ i ∧ i < 16 → (w.gIn i).1 = 0 ∨ (w.gIn i).1 = 1) (hi : im_i32 i) (hq : im_i32 q) (hk : im_i32 k) (hs : im_i32 s) (hd : 3 ≤ d)
    (hKt : mcE w i q k ≠ 0 → ∀ M', (∀ z, z < 6952 ∨ 7080 < z → M' z = M z) → RW M' w → M' 6952 0 = mcE w i q k → K (.inl (some (vL 0))) e M')
    (hK : w.gJr.2.2.2.2 = 0 → 0 ≤ i ∧ i < 16 → 1 ≤ q ∧ q ≤ 4 → (w.gIn i).1 = 1 → 0 ≤ k ∧ k < (bkI (w.gIn i) q).1 → ∀ M', (∀ z, z < 6952 ∨ 7080 < z → M' z = M z) → RW M' w → M' 6952 0 = 0 → K (.inl (some (vL (if s = 0 then (bkI (w.gIn i) q).2.1 k else (bkI (w.gIn i) q).2.2.1 k)))) e M') : im_T g d 355 0 [some (.ref 6952), some (vI i), some (vI q), some (vI k), some (vI s), none] [] e M K := by
  refine b_name_0 (by omega) (c_mayEntry h hb hi hq hk (by omega) (fun hm M1 f W c0 => ⟨_, rfl, rfl, by decide, fun z => absurd rfl z, fun _ => hKt hm M1 f W c0⟩) (fun z1 z2 z3 z4 z5 z6 M1 f W c0 => ⟨_, rfl, rfl, by decide, fun _ => ⟨hq, ?_⟩, fun z => absurd z (by decide)⟩))
  have hK := hK z1 z2 z3 z4 z5 M1 f W c0
  obtain ⟨_, S1, S2, S3, S4, h20⟩ := W.2.1.2.2 i z2.1 z2.2
  have ek : ((k.toNat : Nat) : Int) = k := by omega
  unfold bkI at hK z5 z6
  refine ⟨fun c => ?_, fun c => ?_, fun c => ?_, fun c => ?_⟩
  · rw [if_pos c] at hK z5 z6
    obtain ⟨y1, y2, _⟩ := S1.2.2 k.toNat (by omega)
    rw [ek] at y1 y2
    rw [y1, y2]
    refine ⟨hs, ⟨fun _ => ⟨by omega, by omega⟩, fun _ => ⟨by omega, by omega⟩⟩, fun x hx => ?_⟩
    have : x = if s = 0 then (w.gIn i).2.2.2.1.2.1 k else (w.gIn i).2.2.2.1.2.2.1 k := by split <;> omega
    rw [this]; exact hK
  · have n1 : ¬ q = 1 := by omega
    rw [if_neg n1, if_pos c] at hK z5 z6
    obtain ⟨y1, y2, _⟩ := S2.2.2 k.toNat (by omega)
    rw [ek] at y1 y2
    rw [y1, y2]
    refine ⟨hs, ⟨fun _ => ⟨by omega, by omega⟩, fun _ => ⟨by omega, by omega⟩⟩, fun x hx => ?_⟩
    have : x = if s = 0 then (w.gIn i).2.2.2.2.1.2.1 k else (w.gIn i).2.2.2.2.1.2.2.1 k := by split <;> omega
    rw [this]; exact hK
  · have n1 : ¬ q = 1 := by omega
    have n2 : ¬ q = 2 := by omega
    rw [if_neg n1, if_neg n2, if_pos c] at hK z5 z6
    obtain ⟨y1, _⟩ := S3.2.2.2 k.toNat (by omega)
    rw [ek] at y1
    rw [y1]
    refine ⟨hs, fun _ => ⟨by omega, by omega⟩, fun x hx => ?_⟩
    have hz0 : (w.gIn i).2.2.2.2.2.1.2.2.1 k = 0 := by rw [S3.2.2.1]; rfl
    have : x = if s = 0 then (w.gIn i).2.2.2.2.2.1.2.1 k else (w.gIn i).2.2.2.2.2.1.2.2.1 k := by split <;> omega
    rw [this]; exact hK
  · have n1 : ¬ q = 1 := by omega
    have n2 : ¬ q = 2 := by omega
    have n3 : ¬ q = 3 := by omega
    rw [if_neg n1, if_neg n2, if_neg n3] at hK z5 z6
    obtain ⟨y1, _⟩ := S4.2.2.2 k.toNat (by omega)
    rw [ek] at y1
    rw [y1]
    refine ⟨hs, fun _ => ⟨by omega, by omega⟩, fun x hx => ?_⟩
    have hz0 : (w.gIn i).2.2.2.2.2.2.2.2.1 k = 0 := by rw [S4.2.2.1]; rfl
    have : x = if s = 0 then (w.gIn i).2.2.2.2.2.2.2.1 k else (w.gIn i).2.2.2.2.2.2.2.2.1 k := by split <;> omega
    rw [this]; exact hK
theorem c_R_entry {i q k : Int} (h : RW M w) (hde : w.gDe ≤ 16384) (hb : 0 ≤ i ∧ i < 16 → (w.gIn i).1 = 0 ∨ (w.gIn i).1 = 1) (hi : im_i32 i) (hq : im_i32 q) (hk : im_i32 k) (hd : 3 ≤ d)
    (hKt : mcE w i q k ≠ 0 → ∀ M', (∀ z, z < 6952 ∨ 7080 < z → M' z = M z) → RW M' w → M' 6952 0 = mcE w i q k → K (.inl (some (vI 0))) e M')
    (hK : w.gJr.2.2.2.2 = 0 → 0 ≤ i ∧ i < 16 → 1 ≤ q ∧ q ≤ 4 → (w.gIn i).1 = 1 → 0 ≤ k ∧ k < (bkI (w.gIn i) q).1 → ∀ M', (∀ z, z < 6952 ∨ 7080 < z → M' z = M z) → RW M' (ouW w (nuL ((bkI (w.gIn i) q).2.2.2 k))) → M' 6952 0 = 0 → K (.inl (some (vI ((nuL ((bkI (w.gIn i) q).2.2.2 k)).length : Int)))) e M') : im_T g d 353 0 [some (.ref 6952), some (vI i), some (vI q), some (vI k), none] [] e M K := by
  refine b_entry_0 (by omega) (c_mayEntry h hb hi hq hk (by omega) (fun hm M1 f W c0 => ⟨_, rfl, rfl, by decide, fun z => absurd rfl z, fun _ => hKt hm M1 f W c0⟩) (fun z1 z2 z3 z4 z5 z6 M1 f W c0 => ⟨_, rfl, rfl, by decide, fun _ => ⟨hq, ?_⟩, fun z => absurd z (by decide)⟩))
  have hK := hK z1 z2 z3 z4 z5
  obtain ⟨_, S1, S2, S3, S4, h20⟩ := W.2.1.2.2 i z2.1 z2.2
  have ek : ((k.toNat : Nat) : Int) = k := by omega
  unfold bkI at hK z5 z6
  refine ⟨fun c1 => ⟨fun c2 => ⟨fun c3 => ?_, fun c3 => ?_⟩, fun c2 => ?_⟩, fun c1 => ?_⟩
  · rw [if_neg c1, if_neg c2, if_neg c3] at hK z5 z6
    have y := (S4.2.2.2 k.toNat (by omega)).2
    rw [ek] at y
    exact c_rtellS W hde sf_7010 (by decide) (by decide) (by decide) (by omega) y (by omega) (fun M' f' W' c' => hK M' (fun z hz => (f' z hz).trans (f z hz)) W' (c'.trans c0))
  · rw [if_neg c1, if_neg c2, if_pos c3] at hK z5 z6
    have y := (S3.2.2.2 k.toNat (by omega)).2
    rw [ek] at y
    exact c_rtellS W hde sf_7007 (by decide) (by decide) (by decide) (by omega) y (by omega) (fun M' f' W' c' => hK M' (fun z hz => (f' z hz).trans (f z hz)) W' (c'.trans c0))
  · rw [if_neg c1, if_pos c2] at hK z5 z6
    have y := (S2.2.2 k.toNat (by omega)).2.2
    rw [ek] at y
    exact c_rtellS W hde sf_7004 (by decide) (by decide) (by decide) (by omega) y (by omega) (fun M' f' W' c' => hK M' (fun z hz => (f' z hz).trans (f z hz)) W' (c'.trans c0))
  · rw [if_pos c1] at hK z5 z6
    have y := (S1.2.2 k.toNat (by omega)).2.2
    rw [ek] at y
    exact c_rtellS W hde sf_7000 (by decide) (by decide) (by decide) (by omega) y (by omega) (fun M' f' W' c' => hK M' (fun z hz => (f' z hz).trans (f z hz)) W' (c'.trans c0))
theorem c_R_amount {p s : Int} (h : RW M w) (hde : w.gDe ≤ 16384) (h5 : ∀ i : Nat, i < w.gPy.1 → w.gPy.2.1 i ≠ 5) (h5w : ∀ i : Nat, i < w.gWr.1 → w.gWr.2.1 i ≤ 5) (hp : im_i32 p) (hs : im_i32 s) (hd : 2 ≤ d)
    (hKt : mco 2 w.gJr.2.2.2.2 (0 ≤ p ∧ p < (if s = 0 then w.gPy else w.gWr).1) True True ≠ 0 → ∀ M', (∀ z, z < 6952 ∨ 7080 < z → M' z = M z) → RW M' w → M' 6952 0 = mco 2 w.gJr.2.2.2.2 (0 ≤ p ∧ p < (if s = 0 then w.gPy else w.gWr).1) True True → K (.inl (some (vI 0))) e M')
    (hK : w.gJr.2.2.2.2 = 0 → 0 ≤ p ∧ p < (if s = 0 then w.gPy else w.gWr).1 → ∀ M' L, (∀ z, z < 6952 ∨ 7080 < z → M' z = M z) → (L = if s ≠ 0 ∧ w.gWr.2.1 p = 5 then [] else nuL ((if s = 0 then w.gPy else w.gWr).2.2.2.2.2 p)) → RW M' (ouW w L) → M' 6952 0 = 0 → K (.inl (some (vI (L.length : Int)))) e M') : im_T g d 419 0 [some (.ref 6952), some (vI p), some (vI s)] [] e M K := by
  obtain ⟨s1, s2⟩ := h.2.2.2.1
  have n1 := s1.2.1
  have n2 := s2.2.1
  refine b_amount_0 (by omega) ⟨hp, hs, fun x6 h6 => ?_⟩
  rw [s1.1, s2.1] at h6
  have e6 : x6 = ((if s = 0 then w.gPy else w.gWr).1 : Int) := by split <;> omega
  have n6 : (if s = 0 then w.gPy else w.gWr).1 ≤ 60 := by split <;> omega
  rw [e6]
  refine ⟨by constructor <;> omega, c_isInQ (by constructor <;> omega) (by decide) (by constructor <;> omega) (fun a ha => ⟨_, rfl, rfl, ?_⟩)⟩
  refine c_mayQ (A := 0 ≤ p ∧ p < (if s = 0 then w.gPy else w.gWr).1) (B := True) (C := True) h (by decide) (by decide) (by omega) (Or.inl ⟨rfl, trivial⟩) (Or.inl ⟨rfl, trivial⟩) (fun hm M1 W1 e0 ez ek => ⟨_, rfl, rfl, by decide, fun z => absurd rfl z, fun _ => hKt hm M1 (fun z hz => ez z (by omega)) W1 e0⟩) (fun hz hA _ _ M1 W1 e0 ez ek => ⟨_, rfl, rfl, by decide, fun _ => ?_, fun z => absurd z (by decide)⟩)
  have ep : ((p.toNat : Nat) : Int) = p := by omega
  have hK := hK hz hA
  have W0 : RW (im_u M1 6952 4 0) (ouW w []) := W1.out (fun x a _ => im_u_ne _ _ _ a) (fun k a => im_rdk _ _ _ a) ⟨im_rds _ _ _ _, fun i a b => absurd b (by show ¬ i < (0 : Int); omega), by decide⟩
  have go : ∀ (c : Nat) (v : Int), c = 7056 ∨ c = 7051 → (im_sh0 ++ e)[c]? = some (1, 18120, []) → sn M1 c p v → p < 60 → (∀ M', (∀ z, z < 6952 ∨ 7080 < z → M' z = M z) → RW M' (ouW w (nuL v)) → M' 6952 0 = 0 → K (.inl (some (vI ((nuL v).length : Int)))) e M') → im_T g (d - 1) 345 0 [some (.ref 6952), some (.ref c), some (vI p), none, none, none] [] e (im_u (im_u M1 6952 4 0) 6952 7 (M1 6952 6)) (im_ri (fun x24 e_ M23 => e = e_ ∧ im_T g (d - 1) 324 0 [some (.ref 6952), some (vI x24), none] [] e M23 (im_r0 (fun e_ M25 => e = e_ ∧ K (.inl (some (vI (M25 6952 4)))) e M25)))) := by
    intro c v hc hsc hv hp60 hK
    have p3 := W1.2.1.1.2.2.1
    have s8 := W1.2.2.2.2.2.2.1
    have e7 : im_u (im_u M1 6952 4 0) 6952 7 (M1 6952 6) 6952 7 = M1 6952 6 := im_rds _ _ _ _
    refine c_rload hsc (by decide) (by omega) (by omega) hA.1 (by omega) (sn_congr hv (fun i _ _ => by rw [im_rdn _ _ _ _ (by omega), im_rdn _ _ _ _ (by omega)])) (by rw [e7]; omega) (by rw [e7]; omega) (fun M2 f1 f2 f3 => ⟨_, rfl, rfl, ?_⟩)
    rw [e7] at f1 f2 f3 ⊢
    have fx : ∀ x, x ≠ 6952 → x ≠ 6955 → M2 x = M1 x := fun x a b => (f1.1 x (fun z => by cases z) b a).trans ((im_u_ne _ _ _ a).trans (im_u_ne _ _ _ a))
    have fk : ∀ k, k ≠ 7 → k ≠ 4 → M2 6952 k = M1 6952 k := fun k a b => (f1.2.1 k (by simp [a])).trans ((im_rdk _ _ _ a).trans (im_rdk _ _ _ b))
    have f4 : M2 6952 4 = 0 := (f1.2.1 4 (by simp)).trans ((im_rdk _ _ _ (by decide)).trans (im_rds _ _ _ _))
    have hi55 : ∀ i, i < M1 6952 6 → M2 6955 i = M1 6955 i := fun i hi => by rw [f1.2.2 i hi, im_u_ne _ _ _ (by decide), im_u_ne _ _ _ (by decide)]
    have W2 : RW M2 (ouW w []) := W0.tops (fun x a b => by rw [im_u_ne _ _ _ a]; exact fx x a b) (fun k a _ => by
      by_cases c4 : k = 4
      · rw [c4, f4, im_rds]
      · rw [im_rdk _ _ _ c4]; exact fk k a c4) (by rw [fk 8 (by decide) (by decide)]; exact s8) (fun i hi => by rw [im_rdk _ _ _ (by decide)] at hi; rw [im_u_ne _ _ _ (by decide)]; exact hi55 i hi)
    refine c_rnumberL (L := []) f3 (by omega) ⟨f4, fun i a b => absurd b (by show ¬ i < (0 : Int); omega), by decide⟩ (by omega) (fun M' f o => ⟨rfl, rfl, ?_⟩)
    have o' : rOL M' (nuL v) := o
    rw [o'.1]
    exact hK M' (fun z hz => by rw [f.1 z (by omega) (by omega), fx z (by omega) (by omega)]; exact ez z (by omega)) (W2.out f.1 f.2 o') (by rw [f.2 0 (by decide), fk 0 (by decide) (by decide)]; exact e0)
  obtain ⟨s1', s2'⟩ := W1.2.2.2.1
  refine ⟨fun hs1 => ?_, fun hs0 => ?_⟩
  · rw [if_neg hs1] at hA hK n6
    have y := s2'.2.2 p.toNat (by omega)
    rw [ep] at y
    have h5' := h5w p.toNat (by omega)
    rw [ep] at h5'
    refine ⟨⟨hA.1, by omega⟩, ?_⟩
    rw [y.1.1]
    refine ⟨fun hge => ?_, fun hlt => go 7056 _ (Or.inl rfl) sf_7056 (y.2 (by omega)) (by omega) (fun M' f W c => hK M' _ f (by rw [if_neg (fun z => by have := z.2; omega)]) W c)⟩
    have p3 := W1.2.1.1.2.2.1
    have s8 := W1.2.2.2.2.2.2.1
    refine hK _ [] (fun z hz => by rw [im_u_ne _ _ _ (by omega), im_u_ne _ _ _ (by omega)]; exact ez z (by omega)) (by rw [if_pos ⟨hs1, by omega⟩]) (W0.tops (fun x a _ => im_u_ne _ _ _ a) (fun k a _ => im_rdk _ _ _ a) ?_ (fun i _ => by rw [im_u_ne _ _ _ (by decide)])) (by rw [im_rdk _ _ _ (by decide), im_rdk _ _ _ (by decide)]; exact e0)
    rw [im_rdk _ _ _ (by decide), im_rdk _ _ _ (by decide)]; exact s8
  · rw [if_pos hs0] at hA hK n6
    have y := s1'.2.2 p.toNat (by omega)
    have hn5 := h5 p.toNat (by omega)
    rw [ep] at y hn5
    exact go 7051 _ (Or.inr rfl) sf_7051 (y.2 hn5) (by omega) (fun M' f W c => hK M' _ f (by rw [if_neg (fun z => z.1 hs0)]) W c)
theorem c_R_wallet {pa tk' : Int} (h : RW M w) (hde : w.gDe ≤ 16384) (hpa : im_i64 pa) (htk : im_i64 tk') (hd : 2 ≤ d)
    (hKt : mco 2 w.gJr.2.2.2.2 (nmV pa ∧ nmV tk') True True ≠ 0 → ∀ M', (∀ z, z < 6952 ∨ 7080 < z → M' z = M z) → RW M' w → M' 6952 0 = mco 2 w.gJr.2.2.2.2 (nmV pa ∧ nmV tk') True True → K (.inl (some (vI 0))) e M')
    (hK : w.gJr.2.2.2.2 = 0 → nmV pa ∧ nmV tk' → ∀ M', (∀ z, z < 6952 ∨ 7080 < z → M' z = M z) → RW M' (ouW w (nuL (hld w.gWa pa tk'))) → M' 6952 0 = 0 → K (.inl (some (vI ((nuL (hld w.gWa pa tk')).length : Int)))) e M') : im_T g d 425 0 [some (.ref 6952), some (vL pa), none, some (vL tk'), none, none] [] e M K := by
  have bad : ¬ (nmV pa ∧ nmV tk') → ∀ (X : Int → im_M → Prop), im_T g (d - 1) 264 0 [some (.ref 6952), some (vI 2), some (vI 0), some (vI 1), some (vI 1)] [] e M (im_ri (fun x6 e_ M5 => e = e_ ∧ (im_i32 x6) ∧ ((¬ x6 = 0 → X x6 M5) ∧ (x6 = 0 → K (.inl (some (vI 0))) e M5)))) := fun hn X =>
    c_mayQ (A := nmV pa ∧ nmV tk') (B := True) (C := True) h (by decide) (by decide) (Or.inr ⟨rfl, hn⟩) (Or.inl ⟨rfl, trivial⟩) (Or.inl ⟨rfl, trivial⟩) (fun hm M1 W1 e0 ez ek => ⟨_, rfl, rfl, by decide, fun z => absurd rfl z, fun _ => hKt hm M1 (fun z hz => ez z (by omega)) W1 e0⟩) (fun _ hA _ _ _ _ _ _ _ => absurd hA hn)
  refine b_wallet_0 (by omega) (c_isNameR hpa (by omega) (fun hN => ⟨_, rfl, rfl, by decide, fun z => absurd z (by decide), fun _ => c_isNameR htk (by omega) (fun hN2 => ⟨_, rfl, rfl, by decide, fun z => absurd z (by decide), fun _ => ?_⟩) (fun hN2 => ⟨_, rfl, rfl, by decide, fun _ => bad (fun z => hN2 z.2) _, fun z => absurd rfl z⟩)⟩) (fun hN => ⟨_, rfl, rfl, by decide, fun _ => bad (fun z => hN z.1) _, fun z => absurd rfl z⟩))
  clear bad
  refine c_mayQ (A := nmV pa ∧ nmV tk') (B := True) (C := True) h (by decide) (by decide) (Or.inl ⟨rfl, hN, hN2⟩) (Or.inl ⟨rfl, trivial⟩) (Or.inl ⟨rfl, trivial⟩) (fun hm M1 W1 e0 ez ek => ⟨_, rfl, rfl, by decide, fun z => absurd rfl z, fun _ => hKt hm M1 (fun z hz => ez z (by omega)) W1 e0⟩) (fun hz hA _ _ M1 W1 e0 ez ek => ⟨_, rfl, rfl, by decide, fun _ => ?_, fun z => absurd z (by decide)⟩)
  have hK := hK hz hA
  have hsw := W1.2.2.1.2.1
  have p3 := W1.2.1.1.2.2.1
  obtain ⟨s8, s116, s99, s100⟩ := W1.2.2.2.2.2.2
  have e7 : im_u M1 6952 7 (M1 6952 6) 6952 7 = M1 6952 6 := im_rds _ _ _ _
  have n7 : ∀ k, k ≠ 7 → im_u M1 6952 7 (M1 6952 6) 6952 k = M1 6952 k := fun k a => im_rdk _ _ _ a
  have nx : ∀ x, x ≠ 6952 → im_u M1 6952 7 (M1 6952 6) x = M1 x := fun x a => im_u_ne _ _ _ a
  have hswN : swl (im_u M1 6952 7 (M1 6952 6)) w.gWa := swl_congr hsw (n7 130 (by decide)) (nx _ (by decide)) (nx _ (by decide)) (nx _ (by decide))
  generalize im_u M1 6952 7 (M1 6952 6) = N at e7 n7 nx hswN ⊢
  refine c_rtakeWalletsP hswN (by omega) (by omega) (by omega) (fun M2 f1 f2 f3 f4 f5 f6 => ⟨rfl, rfl, ?_⟩)
  rw [e7] at f3 f4
  have h60 : w.gWa.1 ≤ 60 := hsw.2.1
  have fx : ∀ x, x ≠ 6952 → x ≠ 6955 → x ≠ 7031 → x ≠ 7032 → x ≠ 7033 → M2 x = M1 x := fun x a b c d f => (f1 x a b c d f).trans (nx x a)
  have fk : ∀ k, k ≠ 7 → k ≠ 116 → M2 6952 k = M1 6952 k := fun k a b => (f2 k a b).trans (n7 k a)
  have W2 : RW M2 w := W1.scr0 ⟨fun x a b c d f => fx x a (by omega) (by omega) (by omega) (by omega), fun x i a b c => by rw [fx x (by omega) (by omega) (by omega) (by omega) (by omega)], fun x i a b => by rw [fx x (by omega) (by omega) (by omega) (by omega) (by omega)], fun i hi => by rw [f3 i hi, nx 6955 (by decide)], fun k hk => fk k (by omega) (by omega)⟩ (fk 19 (by decide) (by decide)) (fk 20 (by decide) (by decide)) ⟨by rw [fk 8 (by decide) (by decide)]; exact s8, by rw [f5]; omega, by rw [fk 99 (by decide) (by decide)]; exact s99, by rw [fk 100 (by decide) (by decide)]; exact s100⟩
  have c02 : M2 6952 0 = 0 := (fk 0 (by decide) (by decide)).trans e0
  have fr : ∀ z, z < 6952 ∨ 7080 < z → M2 z = M z := fun z hz => (fx z (by omega) (by omega) (by omega) (by omega) (by omega)).trans (ez z (by omega))
  refine c_walletAt ⟨by omega, by omega⟩ hpa htk (fun y y0 y1 z1 z2 => ⟨_, rfl, rfl, by constructor <;> omega, fun _ => ⟨⟨y0, by omega⟩, ?_⟩, fun z => by omega⟩) (fun hno => ⟨_, rfl, rfl, by decide, fun z => absurd rfl z, fun _ => ?_⟩)
  · have ey : ((y.toNat : Nat) : Int) = y := by omega
    obtain ⟨c1, c2, c3⟩ := f6 y.toNat (by omega)
    rw [← c1, ← c2, ey, z1, z2] at c3
    exact c_rtellN W2 c3 (by omega) (by omega) (fun M' f W c => hK M' (fun z hz => (f z hz).trans (fr z hz)) W (c.trans c02))
  · have hnw : ¬ hs2 w.gWa pa tk' := fun z => by
      obtain ⟨i, i1, i2, i3⟩ := hswN.2.2.2.2 pa tk' z
      obtain ⟨c1, c2, _⟩ := f6 i i1
      exact hno i (by omega) (by omega) ⟨c1.trans i2, c2.trans i3⟩
    have h0 : hld w.gWa pa tk' = 0 := by unfold hld; rw [if_neg hnw]
    rw [h0] at hK
    have k74 : im_u M2 6952 4 0 6952 7 = M2 6952 7 := im_rdk _ _ _ (by decide)
    refine c_zero (by rw [k74]; omega) (by rw [k74]; omega) (fun M3 g1 g2 g3 => ⟨_, rfl, rfl, ?_⟩)
    rw [k74] at g1 g2 g3 ⊢
    have gx : ∀ x, x ≠ 6952 → x ≠ 6955 → M3 x = M2 x := fun x a b => (g1.1 x (fun z => by cases z) b a).trans (im_u_ne _ _ _ a)
    have gk : ∀ k, k ≠ 7 → k ≠ 4 → M3 6952 k = M2 6952 k := fun k a b => (g1.2.1 k (by simp [a])).trans (im_rdk _ _ _ b)
    have g4 : M3 6952 4 = 0 := (g1.2.1 4 (by simp)).trans (im_rds _ _ _ _)
    have W0 : RW (im_u M2 6952 4 0) (ouW w []) := W2.out (fun x a _ => im_u_ne _ _ _ a) (fun k a => im_rdk _ _ _ a) ⟨im_rds _ _ _ _, fun i a b => absurd b (by show ¬ i < (0 : Int); omega), by decide⟩
    have e62 : M2 6952 6 = M1 6952 6 := fk 6 (by decide) (by decide)
    have W3 : RW M3 (ouW w []) := W0.tops (fun x a b => g1.1 x (fun z => by cases z) b a) (fun k a _ => g1.2.1 k (by simp [a])) (by rw [gk 8 (by decide) (by decide), fk 8 (by decide) (by decide)]; exact s8) (fun i hi => g1.2.2 i (by rw [im_rdk _ _ _ (by decide)] at hi; omega))
    refine c_rnumberL (T := M3 6952 7) (L := []) ⟨0, g2, by omega, by omega, by decide⟩ (by omega) ⟨g4, fun i a b => absurd b (by show ¬ i < (0 : Int); omega), by decide⟩ (by omega) (fun M' f o => ⟨rfl, rfl, ?_⟩)
    have o' : rOL M' (nuL 0) := o
    rw [o'.1]
    exact hK M' (fun z hz => by rw [f.1 z (by omega) (by omega), gx z (by omega) (by omega)]; exact fr z hz) (W3.out f.1 f.2 o') (by rw [f.2 0 (by decide), gk 0 (by decide) (by decide)]; exact c02)
end STATER
