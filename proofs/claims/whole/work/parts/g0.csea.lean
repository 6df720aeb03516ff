/-! THE CLASS's search: small steps -/
theorem bl_len (R : Rw) (i : Int) (k : Nat) : (bl R i k).length = 2 * k := by
  induction k with
  | zero => rfl
  | succ k ih => rw [bl, List.length_append, ih]; simp only [List.length_cons, List.length_nil]; omega
theorem bl_get (R : Rw) (i : Int) : ∀ (k w : Nat), w < 2 * k → (bl R i k)[w]? = some (if w % 2 = 0 then R (8 + w / 2) i else R (12 + w / 2) i) := by
  intro k
  induction k with
  | zero => intro w h; exact absurd h (Nat.not_lt_zero _)
  | succ k ih =>
    intro w h
    rw [bl]
    by_cases c : w < 2 * k
    · rw [List.getElem?_append_left (by rw [bl_len]; exact c)]
      exact ih w c
    · rw [List.getElem?_append_right (by rw [bl_len]; omega), bl_len]
      by_cases c2 : w = 2 * k
      · subst c2
        rw [Nat.sub_self, if_pos (by omega), show 2 * k / 2 = k by omega]
        rfl
      · have : w = 2 * k + 1 := by omega
        subst this
        rw [show 2 * k + 1 - 2 * k = 1 by omega, if_neg (by omega), show (2 * k + 1) / 2 = k by omega]
        rfl
/-- what a proposal leaves as it was -/
def PFr (j : Nat) (M M' : im_M) : Prop := (∀ x, (x < 931 ∨ 935 < x) → (x < 1207 ∨ 1793 ≤ x) → (x < 1796 ∨ 1799 < x) → x ≠ 1801 + 2 * j → x ≠ 1802 + 2 * j → (x < 2057 ∨ 2061 < x) → M' x = M x) ∧ (∀ x, (1796 ≤ x ∧ x ≤ 1799) ∨ (2057 ≤ x ∧ x ≤ 2059) → ∀ q, q ≠ (j : Int) → M' x q = M x q)
theorem PFr.rf (j : Nat) (M : im_M) : PFr j M M := ⟨fun _ _ _ _ _ _ _ => rfl, fun _ _ _ _ => rfl⟩
theorem PFr.trans {j : Nat} {M M1 M2 : im_M} (h : PFr j M M1) (h' : PFr j M1 M2) : PFr j M M2 := ⟨fun x a b c d f i => (h'.1 x a b c d f i).trans (h.1 x a b c d f i), fun x a q b => (h'.2 x a q b).trans (h.2 x a q b)⟩
theorem PFr.u {j : Nat} {M : im_M} {x : Nat} (v : Int) (hx : (1796 ≤ x ∧ x ≤ 1799) ∨ (2057 ≤ x ∧ x ≤ 2059)) : PFr j M (im_u M x j v) := ⟨fun y a b c d f i => im_u_ne _ _ _ (by omega), fun y hy q hq => by
  by_cases z : y = x
  · rw [z, im_rdk _ _ _ hq]
  · rw [im_u_ne _ _ _ z]⟩
theorem PFr.nf {j : Nat} {M M' : im_M} {q : Nat} (h : NF q M M') (hq : q = 1801 + 2 * j ∨ q = 2060) (hj : j < 128) : PFr j M M' := ⟨fun y a b c d f i => h y (by omega) (by omega), fun y hy z hz => by rw [h y (by omega) (by omega)]⟩
theorem PFr.wd {j : Nat} {M M' : im_M} {δ : Nat} (h : WD δ M M') : PFr j M M' := ⟨fun y a b c d f i => h.1 y (by omega) (by omega) (by omega) (by omega), fun y hy z hz => by rw [h.1 y (by omega) (by omega) (by omega) (by omega)]⟩
theorem PFr.xu {j : Nat} {M : im_M} {s t : Int} : PFr j M (im_u (im_u (im_u M 931 10 s) 931 11 t) 931 12 0) := ⟨fun y a b c d f i => by rw [im_u_ne _ _ _ (by omega), im_u_ne _ _ _ (by omega), im_u_ne _ _ _ (by omega)], fun y hy z hz => by rw [im_u_ne _ _ _ (by omega), im_u_ne _ _ _ (by omega), im_u_ne _ _ _ (by omega)]⟩
/-- the path's numbers -/
def pN (M : im_M) : Prop := (∀ i : Nat, i < 128 → M 1800 i = ((1801 + 2 * i : Nat) : Int) ∧ ∃ v, cn M (1801 + 2 * i) v) ∧ ∃ w, cn M 2060 w
theorem pN.nf {M M' : im_M} {q : Nat} {v : Int} {j : Nat} (h : pN M) (hf : NF q M M') (hq : q = 1801 + 2 * j ∨ q = 2060) (hj : j < 128) (hv : cn M' q v) : pN M' := by
  obtain ⟨h1, w, h2⟩ := h
  refine ⟨fun i hi => ⟨by rw [hf 1800 (by omega) (by omega)]; exact (h1 i hi).1, ?_⟩, ?_⟩
  · by_cases z : q = 1801 + 2 * i
    · rw [← z]; exact ⟨v, hv⟩
    · obtain ⟨y, hy⟩ := (h1 i hi).2
      exact ⟨y, cn_congr hy (hf _ (by omega) (by omega)) (hf _ (by omega) (by omega))⟩
  · by_cases z : q = 2060
    · rw [← z]; exact ⟨v, hv⟩
    · exact ⟨w, cn_congr h2 (hf _ (by omega) (by omega)) (hf _ (by omega) (by omega))⟩
theorem pN.cg {M M' : im_M} (h : pN M) (hs : ∀ x, (1800 ≤ x ∧ x ≤ 2056) ∨ x = 2060 ∨ x = 2061 → M' x = M x) : pN M' := by
  obtain ⟨h1, w, h2⟩ := h
  exact ⟨fun i hi => ⟨by rw [hs 1800 (by omega)]; exact (h1 i hi).1, (h1 i hi).2.imp fun y hy => cn_congr hy (hs _ (by omega)) (hs _ (by omega))⟩, w, cn_congr h2 (hs _ (by omega)) (hs _ (by omega))⟩
abbrev bpO (bp : Nat) : Prop := (13 ≤ bp ∧ bp + 46 ≤ 666) ∨ (2072 ≤ bp ∧ bp + 46 ≤ 6952)
theorem CT.cg {M M' : im_M} {e : im_E} {R : Rw} {m E : Int} {giv : Bk} {st en lk fl : Int} {s : TS} {bs bp : Nat} (h : CT M e R m E giv st en lk fl s bs bp 20) (hb : 7082 ≤ bs) (hbp : bpO bp) (hs : ∀ x, x < 1793 ∨ 2062 ≤ x → M' x = M x) : CT M' e R m E giv st en lk fl s bs bp 20 := by
  obtain ⟨⟨a1, a2, a3, a4, ⟨b1, b2, b3, b4⟩, a6, a7⟩, c2, c3, ⟨c4, c5, c6, c7⟩, c8, c9, c10, ⟨w, c11⟩, ⟨c12, c13, c14⟩⟩ := h
  have f931 : M' 931 = M 931 := hs 931 (by omega)
  have fbs : M' bs = M bs := hs bs (by omega)
  exact ⟨⟨by rw [f931]; exact a1, a2, a3, a4, ⟨cbk_congr b1 (fun y y1 y2 => hs y (by omega)), cbk_congr b2 (fun y y1 y2 => hs y (by omega)), cbk_congr b3 (fun y y1 y2 => hs y (by omega)), cbk_congr b4 (fun y y1 y2 => hs y (by omega))⟩, by rw [f931]; exact a6, a7⟩, CP_congr c2 (fun y y1 y2 => hs y (by omega)), c3.congr (hs 932 (by omega)) (fun y y1 y2 => hs y (by omega)), ⟨by rw [f931]; exact c4, by rw [f931]; exact c5, by rw [f931]; exact c6, by rw [fbs]; exact c7⟩, cwb_congr c8 (fun y y1 y2 => hs y (by omega)), rw6_congr c9 (fun y y1 y2 => hs y (by omega)), rw6_congr c10 (fun y y1 y2 => hs y (by omega)), ⟨w, cn_congr c11 (hs _ (by omega)) (hs _ (by omega))⟩, ⟨c12, c13, c14⟩⟩
section CSEA
variable {g : im_g} {d : Nat} {e : im_E} {M : im_M} {K : im_K} {R : Rw} {m E : Int}
/-- a row of the path is set -/
theorem c_pset {j : Nat} {t a b c : Int} (hj : j < 128) (ht : im_i32 t) (ha : im_i64 a) (hb : im_i64 b) (hc : im_i64 c) (hK : ∀ M', (∀ x, (x < 1796 ∨ 1799 < x) → M' x = M x) → PFr j M M' → (M' 1796 j = t ∧ M' 1797 j = a ∧ M' 1798 j = b ∧ M' 1799 j = c) → K (.inl none) e M') : im_T g d 106 0 [some (.ref 1795), some (vI j), some (vI t), some (vL a), none, some (vL b), none, some (vL c), none] [] e M K := by
  refine k_Row_set_0 rw_1795.1 ⟨by constructor <;> omega, fun _ => ⟨by decide, fun _ => ⟨⟨by omega, by omega⟩, ht, ha, hb, hc, ?_⟩⟩, fun z => by omega⟩
  refine hK _ (fun x hx => by rw [im_u_ne _ _ _ (by omega), im_u_ne _ _ _ (by omega), im_u_ne _ _ _ (by omega), im_u_ne _ _ _ (by omega)]) ((PFr.u _ (by omega)).trans ((PFr.u _ (by omega)).trans ((PFr.u _ (by omega)).trans (PFr.u _ (by omega))))) ⟨?_, ?_, ?_, ?_⟩
  · rw [im_rdn _ _ _ _ (by decide), im_rdn _ _ _ _ (by decide), im_rdn _ _ _ _ (by decide)]; exact im_rds _ _ _ _
  · rw [im_rdn _ _ _ _ (by decide), im_rdn _ _ _ _ (by decide)]; exact im_rds _ _ _ _
  · rw [im_rdn _ _ _ _ (by decide)]; exact im_rds _ _ _ _
  · exact im_rds _ _ _ _
/-- a bound of a choice is loaded -/
theorem c_loadB {n : Int} {w q : Nat} (hC : CP M R m E) (hm : m ≤ 5000) (n0 : 0 ≤ n) (n1 : n < m) (hk : R 0 n = 29) (hp : 1 ≤ R 6 n ∧ R 6 n ≤ 4) (hw : (w : Int) < 2 * R 6 n) (hq : im_num e q) (hd : 2 ≤ d)
    (hK : ∀ M', NF q M M' → cn M' q (if w % 2 = 0 then R (8 + w / 2) n else R (12 + w / 2) n) → K (.inl none) e M') : im_T g d 243 0 [some (.ref 13), some (vI n), some (vI w), some (.ref q), none, none] [] e M K := by
  obtain ⟨pe, hds, _⟩ := (hC.2 n n0 n1).1.2.2.2.2.2.2.2.2 hk (by omega)
  have h22 := nm_22 hq
  have hge := bl_get R n (R 6 n).toNat w (by omega)
  generalize hv : (if w % 2 = 0 then R (8 + w / 2) n else R (12 + w / 2) n) = v at hK hge
  have loop : ∀ (r : Nat) (L : List Int) (p : Int) (i : Nat) (N : im_M), i + r = w + 1 → NF q M N → dsq M p L pe → (r ≠ 0 → L[r - 1]? = some v) → (r = 0 → cn N q v) → im_T g d 243 11 [some (.ref 13), none, some (vI w), some (.ref q), some (vI p), some (vI i)] [] e N K := by
    intro r
    induction r with
    | zero =>
      intro L p i N hi hf _ _ hz
      exact k_Pool_loadBound_11 hq (by omega) ⟨by constructor <;> omega, by constructor <;> omega, fun _ => hK N hf (hz rfl), fun z => by omega⟩
    | succ r ih =>
      intro L p i N hi hf hdL hL _
      cases L with
      | nil => exact absurd (hL (by omega)) (by simp)
      | cons x L =>
        obtain ⟨p', h1, h2⟩ := hdL
        have h1' : dgs N p x p' := by
          unfold dgs at h1 ⊢
          rw [hf 22 (Ne.symm h22.1) (Ne.symm h22.2)]
          exact h1
        refine k_Pool_loadBound_11 hq (by omega) ⟨by constructor <;> omega, by constructor <;> omega, fun z => by omega, fun _ => c_load hq h1' (by omega) (fun N1 f1 c1 => ⟨_, rfl, rfl, ?_⟩)⟩
        have ui : ((i : Int) + 1) = ((i + 1 : Nat) : Int) := by omega
        rw [ui]
        refine ih L p' (i + 1) N1 (by omega) (fun y a b => (f1 y a b).trans (hf y a b)) h2 (fun hr => ?_) (fun hr => ?_)
        · have := hL (by omega)
          cases r with
          | zero => exact absurd rfl hr
          | succ r => exact this
        · have := hL (by omega)
          subst hr
          have : x = v := Option.some.inj this
          rw [← this]; exact c1
  exact k_Pool_loadBound_0 hq ⟨⟨n0, by omega⟩, loop (w + 1) _ _ 0 M (by omega) (fun _ _ _ => rfl) hds (fun _ => hge) (fun z => by omega)⟩
end CSEA
