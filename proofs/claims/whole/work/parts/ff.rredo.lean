/-! THE REFERENCE does a record again -/
def sml (p : Int) : Int := if 0 ≤ p ∧ p ≤ 15 then p else -1
theorem sml_c (p : Int) : ((0 ≤ p ∧ p < 16) ∧ sml p = p) ∨ (¬ (0 ≤ p ∧ p < 16) ∧ sml p = -1) := by
  unfold sml; split <;> omega
theorem sml_i (p : Int) : im_i32 (sml p) := by
  rcases sml_c p with z | z
  · rw [z.2]; constructor <;> omega
  · rw [z.2]; decide
theorem sml_n {p : Int} (h : ¬ (0 ≤ p ∧ p < 16)) : ¬ (0 ≤ sml p ∧ sml p < 16) := by
  rcases sml_c p with z | z
  · exact absurd z.1 h
  · omega
theorem sml_y {p : Int} (h : 0 ≤ p ∧ p < 16) : sml p = p := by
  rcases sml_c p with z | z
  · exact z.2
  · exact absurd h z.1
theorem keO_s (w : Wd) (ag k : Int) (t : Int → Int) (n w0 : Int) : keO w ag k t n w0 = keO w ag (sml k) t n w0 := by
  by_cases h : 0 ≤ k ∧ k < 16
  · rw [sml_y h]
  · unfold keO; rw [if_pos h, if_pos (sml_n h)]
theorem drO_s (w : Wd) (ag k : Int) : drO w ag k = drO w ag (sml k) := by
  by_cases h : 0 ≤ k ∧ k < 16
  · rw [sml_y h]
  · unfold drO; rw [if_pos h, if_pos (sml_n h)]
theorem enO_s (w : Wd) (ag k : Int) : enO w ag k = enO w ag (sml k) := by
  by_cases h : 0 ≤ k ∧ k < 16
  · rw [sml_y h]
  · unfold enO; rw [if_pos h, if_pos (sml_n h)]
theorem trO_s (w : Wd) (ag i fr to : Int) (t : Int → Int) (n : Int) (J0 : Ip) (ρ ρ' : Rl) (cp : Int) : trO w ag i fr to t n J0 ρ ρ' cp = trO w ag (sml i) fr to t n J0 ρ ρ' cp := by
  by_cases h : 0 ≤ i ∧ i < 16
  · rw [sml_y h]
  · unfold trO; rw [if_pos h, if_pos (sml_n h)]
theorem beO_s (w : Wd) (ag i k tm : Int) : beO w ag i k tm = beO w ag (sml i) (sml k) tm := by
  by_cases h : 0 ≤ i ∧ i < 16 ∧ 0 ≤ k ∧ k < 16
  · rw [sml_y ⟨h.1, h.2.1⟩, sml_y h.2.2]
  · have h' : ¬ (0 ≤ sml i ∧ sml i < 16 ∧ 0 ≤ sml k ∧ sml k < 16) := by
      intro z
      rcases sml_c i with a | a <;> rcases sml_c k with b | b <;> omega
    unfold beO; rw [if_pos h, if_pos h']
theorem Wd.sjr (w : Wd) : w.sJr w.gJr = w := by
  have h1 : w.sJr w.gJr = ((w.gTp, w.gTn, w.gOb, w.gOn, w.gFc, w.gFp, w.gRw, w.gM, w.gRt, w.gIn, w.gPm, w.gWa, w.gMi, w.gPy, w.gWr, w.gMd, w.gDe, w.gJr) : Wd) := rfl
  rw [h1]; exact (Wd.eta w).symm
theorem Wd.sjf (w : Wd) : ((w.sFc 0).sFp (-1)).sJr w.gJr = (w.sFc 0).sFp (-1) := Wd.sjr ((w.sFc 0).sFp (-1))
theorem entO_1 {J : Jw} {kd many a b c : Int} {t : Int → Int} {n : Int} : entO 1 J kd many a b c t n = (0, J) := if_neg (by decide)
/-- a record is done again, or it can't be -/
def RdK (K : im_K) (e : im_E) (M : im_M) (r : Int × Wd) : Prop := ∀ M' x, (x = 0 ∨ x = 1) → (x = 1 ↔ 0 ≤ r.1) → (∀ y, y < 6952 ∨ 7080 < y → M' y = M y) → RW M' r.2 → K (.inl (some (vI x))) e M'
theorem RdK.no {K : im_K} {e : im_E} {M M' : im_M} {r : Int × Wd} (h : RdK K e M r) (hr : r.1 < 0) (hf : ∀ y, y < 6952 ∨ 7080 < y → M' y = M y) (hw : RW M' r.2) : K (.inl (some (vI 0))) e M' := h M' 0 (Or.inl rfl) ⟨fun z => absurd z (by decide), fun z => by omega⟩ hf hw
theorem RdK.yes {K : im_K} {e : im_E} {M M' : im_M} {r : Int × Wd} (h : RdK K e M r) (hr : 0 ≤ r.1) (hf : ∀ y, y < 6952 ∨ 7080 < y → M' y = M y) (hw : RW M' r.2) : K (.inl (some (vI 1))) e M' := h M' 1 (Or.inr rfl) ⟨fun _ => hr, fun _ => rfl⟩ hf hw
theorem RSF.fr {M M' : im_M} (F : RSF M M') : ∀ y, y < 6952 ∨ 7080 < y → M' y = M y := fun y hy => F.1 y (by omega) (by omega) (by omega) (by omega) (by omega)
/-- what the reference asks besides -/
def RcR (w : Wd) : Prop := (sbk w.gWa ∧ sbk w.gMi) ∧ (∀ i, 0 ≤ i ∧ i < 16 → (w.gIn i).1 = 1 → ∃ e0, insR w.gRw w.gM e0 (w.gIn i)) ∧ (∀ i, 0 ≤ i → i < w.gM → ∃ x, ends (w.gRw 1) w.gM i x) ∧ ∀ t n w0 S, (0 ≤ n ∧ n ≤ 16384 ∧ ∀ i, 0 ≤ i → i < n → 0 ≤ t i ∧ t i < 256) → prsT t n w.gM w0 = .inr S → ends (S.2.1 1) S.2.2.1 w.gM S.2.2.1 ∧ S.2.1 1 w.gM = 0
section RREDO
variable {g : im_g} {d : Nat} {e : im_E} {M : im_M} {K : im_K} {w : Wd} {t : Int → Int} {n : Int}
theorem c_small {p : Int} (hp : im_i64 p) (hd : 1 ≤ d) (hK : K (.inl (some (vI (sml p)))) e M) : im_T g d 450 0 [some (vL p), none] [] e M K := by
  refine b_small_0 hd (c_isInQ hp (by decide) (by decide) (fun a ha => ⟨_, rfl, rfl, by constructor <;> omega, fun x hx => ?_⟩))
  have : x = sml p := by unfold sml; split <;> omega
  rw [this]; exact hK
theorem c_red1 {k w0 : Int} (h : RW M w) (hrt : rtx M t n) (hQ : RcQ w) (hR : RcR w) (hk : im_i32 k) (hd : 10 ≤ d) (hK : RdK K e M (keO w 1 k t n w0)) : im_T g d 272 0 [some (.ref 6952), some (vI k)] [] e M (im_ri (fun x5 e_ M4 => e = e_ ∧ (im_i32 x5) ∧ ((¬ x5 = 0 → K (.inl (some (vI 0))) e M4) ∧ (x5 = 0 → im_T g d 312 0 [some (.ref 6952), some (vI k)] [] e M4 (im_ri (fun x9 e_ M8 => e = e_ ∧ (im_i32 x9) ∧ ((x9 ≤ 0 → K (.inl (some (vI 0))) e M8) ∧ (0 < x9 → K (.inl (some (vI 1))) e M8)))))))) := by
  obtain ⟨_, ⟨q4, q5, q6⟩, q7, _, q11, _⟩ := hQ
  obtain ⟨_, _, r3, r4⟩ := hR
  refine c_tryKeep (w0 := w0) h hrt q4.1 q5 q6 hk hd (fun hno => ⟨_, rfl, rfl, by decide, fun _ => ?_, fun z => absurd z (by decide)⟩) (fun hI hr f hf M3 F3 e3 _ hfa hs3 => ⟨_, rfl, rfl, by decide, fun _ => ?_, fun z => absurd z (by decide)⟩) (fun hI hr S hS M3 F3 e3 e59 hfa hs3 hD => ⟨_, rfl, rfl, by split <;> decide, fun hne => ?_, fun heq => ?_⟩)
  · have E : (keO w 1 k t n w0).1 < 0 ∧ (keO w 1 k t n w0).2 = w := by
      unfold keO
      by_cases hI : 0 ≤ k ∧ k < 16
      · rw [if_neg (Decidable.not_not.mpr hI), if_pos (fun z => hno ⟨hI.1, hI.2, z⟩)]; exact ⟨show (-103 : Int) < 0 by decide, rfl⟩
      · rw [if_pos hI]; exact ⟨show (-101 : Int) < 0 by decide, rfl⟩
    exact hK.no E.1 (fun _ _ => rfl) (by rw [E.2]; exact h)
  · have E : keO w 1 k t n w0 = (-1, (w.sFc f.1).sFp f.2) := by
      unfold keO; rw [if_neg (Decidable.not_not.mpr hI), if_neg (Decidable.not_not.mpr hr), hf]
    rw [E] at hK
    exact hK.no (show (-1 : Int) < 0 by decide) F3.fr (h.scr F3 hfa hs3)
  · have h4 : 4000 < S.2.2.1 := by
      by_cases z : 4000 < S.2.2.1
      · exact z
      · rw [if_neg z] at hne; exact absurd rfl hne
    have E : keO w 1 k t n w0 = (-9, (w.sFc 0).sFp (-1)) := by
      unfold keO; rw [if_neg (Decidable.not_not.mpr hI), if_neg (Decidable.not_not.mpr hr), hS]
      dsimp only
      rw [if_pos h4]
    rw [E] at hK
    exact hK.no (show (-9 : Int) < 0 by decide) F3.fr (h.scr F3 hfa hs3)
  · have h4 : ¬ 4000 < S.2.2.1 := by
      intro z
      rw [if_pos z] at heq; exact absurd heq (by decide)
    have E : keO w 1 k t n w0 = (S.2.2.1 - w.gM, (((((w.sFc 0).sFp (-1)).sRt (im_up w.gRt k w.gM)).sRw (glR w.gRw w.gM S.2.1)).sM S.2.2.1).sDe (w.gDe + n + 1)) := by
      unfold keO; rw [if_neg (Decidable.not_not.mpr hI), if_neg (Decidable.not_not.mpr hr), hS]
      dsimp only
      rw [if_neg h4, entO_1, if_neg (fun z => z rfl)]
      dsimp only
      rw [Wd.sjf]
    rw [E] at hK
    have W3 := h.scr F3 hfa hs3
    have k6 := F3.2.2.2.2 6 (by omega)
    have k36 := F3.2.2.2.2 36 (by omega)
    obtain ⟨y1, y2⟩ := r4 t n w0 S ⟨hrt.2.1, hrt.2.2.1, fun i a b => (hrt.2.2.2 i a b).2⟩ hS
    have hlt : w.gM < S.2.2.1 := hD.2.2.1
    have hm0 := q4.1
    rw [← k6, ← k36] at hD
    obtain ⟨W', hW'⟩ : ∃ x, x = (w.sFc 0).sFp (-1) := ⟨_, rfl⟩
    have eR : W'.gRw = w.gRw := by rw [hW']; rfl
    have eM : W'.gM = w.gM := by rw [hW']; rfl
    have eT : W'.gRt = w.gRt := by rw [hW']; rfl
    have eD : W'.gDe = w.gDe := by rw [hW']; rfl
    rw [← hW'] at W3 hK
    refine c_doKeep (w := W') (n := n) (M0 := M) (S := S) W3 hI (by rw [eR, eM]; exact q4) (by omega) (by rw [eT, eM]; exact fun i a b => q11 i ⟨a, b⟩) (by rw [eR, eM]; exact r3) (by rw [eM]; exact hD) hrt.2.1 (by rw [eM]; exact y1) (by rw [eM]; exact y2) (fun M5 f5 e5 W5 => ⟨_, rfl, rfl, ?_, fun z => ?_, fun _ => ?_⟩)
    · rw [eM]; constructor <;> omega
    · rw [eM] at z; omega
    · rw [eR, eM, eT, eD] at W5
      exact hK.yes (show 0 ≤ S.2.2.1 - w.gM by omega) (fun x hx => (f5 x hx).trans (F3.fr x hx)) W5
theorem c_red2 {k : Int} (h : RW M w) (hk : (0 ≤ k ∧ k < 16) ∨ k = -1) (hK : RdK K e M (drO w 1 k)) : (im_i32 k) ∧ ((((¬ k = (-1) → (0 ≤ k ∧ k < 16) ∧ ((¬ (M 6984 k) = 0 → K (.inl (some (vI 1))) e (im_u M 6984 k 0)))))) ∧ ((((k = (-1))) ∨ ((¬ k = (-1)) ∧ ((M 6984 k) = 0))) → K (.inl (some (vI 0))) e M)) := by
  obtain ⟨_, ⟨_, hr, _⟩, _⟩ := id h
  refine ⟨by constructor <;> omega, fun hne => ⟨by omega, fun h84 => ?_⟩, fun hor => ?_⟩
  · have hI : 0 ≤ k ∧ k < 16 := by omega
    have hrk : w.gRt k ≠ -1 := fun z => h84 ((hr k hI.1 hI.2).1 z)
    have E : drO w 1 k = (0, w.sRt (im_up w.gRt k (-1))) := by
      unfold drO; rw [if_neg (Decidable.not_not.mpr hI), if_neg hrk, entO_1, if_neg (fun z => z rfl)]
      dsimp only
      rw [Wd.sjr]
    rw [E] at hK
    have W3 := h.rt (M' := im_u M 6984 k 0) (rt := im_up w.gRt k (-1)) (fun x a b => im_u_ne _ _ _ (by omega)) (fun _ _ => im_rdn _ _ _ _ (by decide)) (fun i i0 i1 => by
      have hri := hr i i0 i1
      rw [im_rdx, im_u_ne _ _ _ (by decide), im_u_ne _ _ _ (by decide)]
      unfold im_up
      by_cases hik : i = k
      · rw [if_pos hik, if_pos hik]; exact ⟨fun _ => rfl, fun z => absurd rfl z⟩
      · rw [if_neg hik, if_neg hik]; exact hri)
    exact hK.yes (show (0 : Int) ≤ 0 by decide) (fun x hx => im_u_ne _ _ _ (by omega)) W3
  · have E : (drO w 1 k).1 < 0 ∧ (drO w 1 k).2 = w := by
      unfold drO
      by_cases hI : 0 ≤ k ∧ k < 16
      · have hrk : w.gRt k = -1 := by
          by_cases z : w.gRt k = -1
          · exact z
          · have := ((hr k hI.1 hI.2).2 z).1; omega
        rw [if_neg (Decidable.not_not.mpr hI), if_pos hrk]; exact ⟨show (-103 : Int) < 0 by decide, rfl⟩
      · rw [if_pos hI]; exact ⟨show (-101 : Int) < 0 by decide, rfl⟩
    exact hK.no E.1 (fun _ _ => rfl) (by rw [E.2]; exact h)
theorem c_red4 {i : Int} (h : RW M w) (hQ : RcQ w) (hi : (0 ≤ i ∧ i < 16) ∨ i = -1) (hd : 2 ≤ d) (hK : RdK K e M (enO w 1 i)) : (im_i32 i) ∧ ((i = (-1) → K (.inl (some (vI 0))) e M) ∧ (¬ i = (-1) → im_T g d 348 0 [some (.ref 6952), some (vI i)] [] e M (im_ri (fun x57 e_ M56 => e = e_ ∧ (im_i32 x57) ∧ ((x57 = 0 → K (.inl (some (vI 0))) e M56) ∧ (¬ x57 = 0 → (0 ≤ i ∧ i < 16) ∧ K (.inl (some (vI 1))) e (im_u M56 6994 i 0))))))) := by
  obtain ⟨_, ⟨_, _, hin⟩, _⟩ := id h
  obtain ⟨_, ⟨q4, _⟩, q7, _⟩ := hQ
  have hii : im_i32 i := by constructor <;> omega
  refine ⟨hii, fun hz => ?_, fun hz => ?_⟩
  · have E : enO w 1 i = (-101, w) := by unfold enO; rw [if_pos (by omega)]
    rw [E] at hK
    exact hK.no (show (-101 : Int) < 0 by decide) (fun _ _ => rfl) h
  · have hI : 0 ≤ i ∧ i < 16 := by omega
    refine c_risOver h q4 (fun z => q7 i z) hii hd (fun x hx hl => ⟨_, rfl, rfl, by constructor <;> omega, fun h0 => ?_, fun h1 => ⟨hI, ?_⟩⟩)
    · have E : (enO w 1 i).1 < 0 ∧ (enO w 1 i).2 = w := by
        unfold enO
        rw [if_neg (Decidable.not_not.mpr hI)]
        by_cases c1 : (w.gIn i).1 = 0
        · rw [if_pos c1]; exact ⟨show (-103 : Int) < 0 by decide, rfl⟩
        · have c1' : (w.gIn i).1 = 1 := (q7 i hI).1.resolve_left c1
          have c2 : ¬ ovr w i := fun z => by have := hl.mpr ⟨hI.1, hI.2, c1', z⟩; omega
          rw [if_neg c1, if_pos c2]; exact ⟨show (-103 : Int) < 0 by decide, rfl⟩
      exact hK.no E.1 (fun _ _ => rfl) (by rw [E.2]; exact h)
    · obtain ⟨_, _, q3, q4'⟩ := hl.mp (by omega)
      have E : enO w 1 i = (0, w.sIn (upI w.gIn i (0, (w.gIn i).2))) := by
        unfold enO
        rw [if_neg (Decidable.not_not.mpr hI), if_neg (by omega), if_neg (Decidable.not_not.mpr q4'), entO_1, if_neg (fun z => z rfl)]
        dsimp only
        rw [Wd.sjr]
      rw [E] at hK
      have W3 := h.ins (M' := im_u M 6994 i 0) (i := i) (I := (0, (w.gIn i).2)) (fun x a b => im_u_ne _ _ _ (by omega)) (fun _ _ => im_rdn _ _ _ _ (by decide)) (fun k k0 k1 => by
        have hk' := hin k k0 k1
        obtain ⟨⟨u1, u2, u3⟩, S1, S2, S3, S4, S5⟩ := hk'
        have ex : ∀ x, x ≠ 6994 → im_u M 6994 i 0 x = M x := fun x hx => im_u_ne _ _ _ hx
        unfold upI
        by_cases hik : k = i
        · rw [if_pos hik]
          subst hik
          exact ⟨⟨im_rds _ _ _ _, by rw [ex 6995 (by decide)]; exact u2, by rw [ex 6996 (by decide)]; exact u3⟩, SB2_congr S1 (ex _ (by decide)) (ex _ (by decide)) (ex _ (by decide)) (ex _ (by decide)), SB2_congr S2 (ex _ (by decide)) (ex _ (by decide)) (ex _ (by decide)) (ex _ (by decide)), SB1_congr S3 (ex _ (by decide)) (ex _ (by decide)) (ex _ (by decide)), SB1_congr S4 (ex _ (by decide)) (ex _ (by decide)) (ex _ (by decide)), S5⟩
        · rw [if_neg hik]
          exact ⟨⟨by rw [im_rdx, if_neg hik]; exact u1, by rw [ex 6995 (by decide)]; exact u2, by rw [ex 6996 (by decide)]; exact u3⟩, SB2_congr S1 (ex _ (by decide)) (ex _ (by decide)) (ex _ (by decide)) (ex _ (by decide)), SB2_congr S2 (ex _ (by decide)) (ex _ (by decide)) (ex _ (by decide)) (ex _ (by decide)), SB1_congr S3 (ex _ (by decide)) (ex _ (by decide)) (ex _ (by decide)), SB1_congr S4 (ex _ (by decide)) (ex _ (by decide)) (ex _ (by decide)), S5⟩)
      exact hK.yes (show (0 : Int) ≤ 0 by decide) (fun x hx => im_u_ne _ _ _ (by omega)) W3
end RREDO
