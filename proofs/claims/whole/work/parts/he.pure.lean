/-! THE LAW comes to an end with true, and there is room -/
theorem D452_20 {g : im_g} : im_D g 452 20 (.iconst 0) 21 := im_D.of (by decide +kernel)
theorem D452_21 {g : im_g} : im_D g 452 21 (.istore 4) 23 := im_D.of (by decide +kernel)
theorem law_20 {g : im_g} {d : Nat} (hg : g.2 ≤ 384) (hd : 130 ≤ d) : im_T g d 452 20 [some (.float 200), some (.ref 0), some (.ref 6952), some (.ref 7081), none, none, none, none] [] [] M00 (fun o e' M' => o = .inl (some (vI 1)) ∧ xcn e' ≤ 64 ∧ RB M' e') := by
  refine im_iconst (q := 21) D452_20 ?_
  refine im_st1 (q := 23) (i := 4) (L' := lwL 0) D452_21 (Or.inr rfl) (Nat.le_of_ble_eq_true rfl) rfl ?_
  exact l_law hg hd 64 0 [] M00 w00 (Int.le_refl _) (by omega) (by decide) (by decide) LW00 (fun e' M' a b => ⟨rfl, a, b⟩)
theorem lvc_le (M : im_M) : ∀ n, lvc M n ≤ n := by
  intro n
  induction n with
  | zero => exact Nat.le_refl _
  | succ n ih =>
    show lvc M n + (if M 1794 (n : Int) = -1 then 0 else 1) ≤ n + 1
    by_cases c : M 1794 (n : Int) = -1
    · rw [if_pos c]; omega
    · rw [if_neg c]; omega
def zsz (s : im_Sh) : Nat := (if s.1 = 6 then 0 else s.2.1) + 6
theorem ex_len : ∀ e : im_E, e.length = stc e + xcn e ∧ (e.map zsz).sum = stz e + 6 * e.length := by
  intro e
  induction e with
  | nil => exact ⟨rfl, rfl⟩
  | cons s e ih =>
    obtain ⟨i1, i2⟩ := ih
    have hb : [s] ++ e = s :: e := rfl
    obtain ⟨a1, a2, a3⟩ := stc_app [s] e
    rw [hb] at a1 a2 a3
    rw [a1, a2, a3, List.length_cons, List.map_cons, List.sum_cons, i2]
    by_cases c : s.1 = 6
    · have n0 : nex s = false := by unfold nex; rw [c]; rfl
      have b1 : stc [s] = 0 := by unfold stc; rw [List.filter_cons, n0]; rfl
      have b2 : stz [s] = 0 := by unfold stz; rw [List.filter_cons, n0]; rfl
      have b3 : xcn [s] = 1 := by
        unfold xcn
        rw [List.filter_cons, c]; rfl
      have b4 : zsz s = 6 := by unfold zsz; rw [if_pos c]
      rw [b1, b2, b3, b4]
      omega
    · have n0 : Nat.beq s.1 6 = false := by
        cases h : Nat.beq s.1 6 with
        | true => exact absurd (Nat.eq_of_beq_eq_true h) c
        | false => rfl
      have n1 : nex s = true := by unfold nex; rw [n0]; rfl
      have b1 : stc [s] = 1 := by unfold stc; rw [List.filter_cons, n1]; rfl
      have b2 : stz [s] = s.2.1 := by unfold stz; rw [List.filter_cons, n1]; rfl
      have b3 : xcn [s] = 0 := by
        unfold xcn
        rw [List.filter_cons, n0]; rfl
      have b4 : zsz s = s.2.1 + 6 := by unfold zsz; rw [if_neg c]
      rw [b1, b2, b3, b4]
      omega
theorem sz_im (s : im_Sh) (f : Int → Int) : am_sz (im_c s f) ≤ zsz s := by
  obtain ⟨t, n, rs⟩ := s
  unfold zsz
  match t with
  | 0 =>
    show n ≤ (if (0 : Nat) = 6 then 0 else n) + 6
    rw [if_neg (by decide)]; omega
  | 1 =>
    show n ≤ (if (1 : Nat) = 6 then 0 else n) + 6
    rw [if_neg (by decide)]; omega
  | 2 =>
    show n ≤ (if (2 : Nat) = 6 then 0 else n) + 6
    rw [if_neg (by decide)]; omega
  | 3 =>
    show n ≤ (if (3 : Nat) = 6 then 0 else n) + 6
    rw [if_neg (by decide)]; omega
  | 4 =>
    show n ≤ (if (4 : Nat) = 6 then 0 else n) + 6
    rw [if_neg (by decide)]; omega
  | 5 =>
    show n ≤ (if (5 : Nat) = 6 then 0 else n) + 6
    rw [if_neg (by decide)]; omega
  | 6 => exact Nat.le_refl _
  | 7 => show 6 ≤ _; omega
  | 8 => show 6 ≤ _; omega
  | 9 => show 6 ≤ _; omega
  | c + 10 =>
    show ((List.range n).map (im_fv c rs f)).length ≤ (if c + 10 = 6 then 0 else n) + 6
    rw [List.length_map, List.length_range, if_neg (by omega)]; omega
theorem sl_le : ∀ (h : am_H) (sh : im_E), h.length = sh.length → (∀ (a : Nat) (s : im_Sh) (c : va_E), sh[a]? = some s → h[a]? = some c → am_sz c ≤ zsz s) → am_sl h ≤ (sh.map zsz).sum := by
  intro h
  induction h with
  | nil => intro sh _ _; exact Nat.zero_le _
  | cons c h ih =>
    intro sh hl hp
    cases sh with
    | nil => cases hl
    | cons s sh =>
      rw [am_sl_cons, List.map_cons, List.sum_cons]
      have h1 := hp 0 s c rfl rfl
      have h2 := ih sh (Nat.succ.inj hl) (fun a s' c' ha hc => hp (a + 1) s' c' ha hc)
      omega
theorem sh0_z : (im_sh0.map zsz).sum ≤ 2591836 + 6 * 7082 := by
  have h : ∀ B : am_H, ((B.map im_so).map zsz).sum ≤ am_sl B + 6 * B.length := by
    intro B
    induction B with
    | nil => exact Nat.le_refl _
    | cons c B ih =>
      rw [List.map_cons, List.map_cons, List.sum_cons, am_sl_cons, List.length_cons]
      have h1 : zsz (im_so c) ≤ am_sz c + 6 := by
        rw [← so_sz c]
        unfold zsz
        by_cases z : (im_so c).1 = 6
        · rw [if_pos z]; omega
        · rw [if_neg z]; exact Nat.le_refl _
      omega
  have := h pu_H
  rw [pu_H_sl, pu_H_len] at this
  exact this
theorem room_of {e' : im_E} {M' : im_M} {h' : am_H} (hw : im_W (im_sh0 ++ e') M' h') (hx : xcn e' ≤ 64) (hr : RB M' e') : h'.length ≤ 600128 ∧ am_sl h' ≤ 7301098 := by
  have hl := lvc_le M' 128
  obtain ⟨r1, r2⟩ := hr
  obtain ⟨x1, x2⟩ := ex_len e'
  have h7 : im_sh0.length = 7082 := by unfold im_sh0; rw [List.length_map, pu_H_len]
  have hlen : h'.length = 7082 + e'.length := by rw [hw.1, List.length_append, h7]
  have hs := sl_le h' (im_sh0 ++ e') hw.1 (fun a s c ha hc => by
    have := (hw.2 a s ha).1
    rw [hc] at this
    rw [Option.some.inj this]
    exact sz_im _ _)
  rw [List.map_append, List.sum_append, x2] at hs
  have h0 := sh0_z
  refine ⟨by omega, by omega⟩
theorem law_T (xs : Nat → Int32) (L d : Nat) (hL : L ≤ 384) (hd : 130 ≤ d) : am_T (pu_G xs L) d 452 20 [(3, .ref 7081), (2, .ref 6952), (1, .ref 0), (0, .float 200)] [] pu_H (fun o h' => o = .inl (some (.int 1)) ∧ h'.length ≤ 600128 ∧ am_sl h' ≤ 7301098) := by
  have h := law_20 (g := (xs, L)) hL hd [(3, .ref 7081), (2, .ref 6952), (1, .ref 0), (0, .float 200)] pu_H (fun i v hv => by
    match i with
    | 0 => cases hv; rfl
    | 1 => cases hv; rfl
    | 2 => cases hv; rfl
    | 3 => cases hv; rfl
    | 4 => cases hv
    | 5 => cases hv
    | 6 => cases hv
    | 7 => cases hv
    | i + 8 => cases hv) W00
  exact h.mono (fun o h' ⟨e', M', hw, ho, hx, hr⟩ => ⟨ho, room_of hw hx hr⟩)
