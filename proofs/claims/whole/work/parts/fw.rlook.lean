/-! THE REFERENCE looks ahead -/
theorem RW.lk {M M' : im_M} {w : Wd} {L : List Int} {md : Int} (h : RW M w) (hs : ∀ x, x ≠ 6952 → x ≠ 6954 → (x < 6955 ∨ 6958 < x) → (x < 6979 ∨ 6983 < x) → (x < 7011 ∨ 7041 < x) → (x < 7057 ∨ 7079 < x) → M' x = M x) (hf : ∀ k : Int, k = 2 ∨ k = 6 ∨ k = 19 ∨ k = 20 ∨ k = 36 ∨ k = 38 ∨ k = 62 ∨ k = 130 ∨ k = 134 ∨ k = 137 ∨ k = 143 ∨ (177 ≤ k ∧ k ≤ 180) → M' 6952 k = M 6952 k) (hp : ∀ i, i < M 6952 6 → M' 6955 i = M 6955 i) (ho : rOL M' L) (hmd : M' 6952 175 = md) (hsc : rScr M') : RW M' ((ouW w L).sMd md) := by
  obtain ⟨⟨⟨t1, t2, t3⟩, _, ⟨f1, f2⟩⟩, ⟨⟨p1, p2, p3, p4⟩, r, i⟩, ⟨b1, b2, b3⟩, ⟨s1, s2⟩, _, ⟨j0, j1, j2, j3, j4⟩, _⟩ := h
  have hs' : ∀ x, (x = 6953 ∨ (6959 ≤ x ∧ x ≤ 6978) ∨ (6984 ≤ x ∧ x ≤ 7010) ∨ (7042 ≤ x ∧ x ≤ 7056) ∨ x = 7080) → M' x = M x := fun x hx => hs x (by omega) (by omega) (by omega) (by omega) (by omega) (by omega)
  exact ⟨⟨⟨(hf 2 (by omega)).trans t1, fun k k0 k1 => by rw [hs' 6953 (by omega)]; exact t2 k k0 k1, t3⟩, ho, ⟨(hf 19 (by omega)).trans f1, (hf 20 (by omega)).trans f2⟩⟩, ⟨⟨RP_congr p1 (hf 6 (by omega)) (hf 36 (by omega)) (fun x _ _ => hs' x (by omega)) hp, (hf 38 (by omega)).trans p2, by rw [hf 6 (by omega)]; exact p3, by rw [hf 36 (by omega)]; exact p4⟩, (by show rRoots M' w.gRw w.gM w.gRt; unfold rRoots; rw [hs' 6984 (by omega), hs' 6985 (by omega), hs' 6986 (by omega)]; exact r), (fun k k0 k1 => rIn1_congr (i k k0 k1) (fun x _ _ => hs' x (by omega)))⟩, ⟨rPm_congr b1 (hf 62 (by omega)) (hs' _ (by omega)) (hs' _ (by omega)), swl_congr b2 (hf 130 (by omega)) (hs' _ (by omega)) (hs' _ (by omega)) (hs' _ (by omega)), rMi_congr b3 (hf 134 (by omega)) (hs' _ (by omega)) (hs' _ (by omega))⟩, ⟨sr5_congr s1 (hf 137 (by omega)) (hs' _ (by omega)) (hs' _ (by omega)) (hs' _ (by omega)) (hs' _ (by omega)) (hs' _ (by omega)), sr5_congr s2 (hf 143 (by omega)) (hs' _ (by omega)) (hs' _ (by omega)) (hs' _ (by omega)) (hs' _ (by omega)) (hs' _ (by omega))⟩, hmd, ⟨fun x x0 x1 => by rw [hs' 7080 (by omega)]; exact j0 x x0 x1, (hf 177 (by omega)).trans j1, (hf 178 (by omega)).trans j2, (hf 179 (by omega)).trans j3, (hf 180 (by omega)).trans j4⟩, hsc⟩
def bE : Bk := (0, z0, z0, z0)
/-- what a search begins with -/
def lkG (w : Wd) (k fr : Int) : Bk := if fr = 0 then (w.gIn k).2.2.2.2.2.2 else w.gPm
def lkL (w : Wd) (k fr : Int) : Lv := if fr = 0 then ((w.gIn k).2.1, (w.gIn k).2.2.1, (w.gIn k).2.2.2.1, (w.gIn k).2.2.2.2.1, (w.gIn k).2.2.2.2.2.1) else (w.gRt k, 0, bE, bE, bE)
def lkH (w : Wd) (k fr e0 : Int) : Prop := sbk (lkG w k fr) ∧ TP w.gRw w.gM e0 (lkG w k fr) ∧ e0 - (lkL w k fr).nd ≤ 1000 ∧ lvO w.gRw w.gM e0 (lkL w k fr) []
noncomputable def lkW (w : Wd) (o : Int × Int × (Nat → Pe) × Nat) : Wd := (ouW w (if o.1 = 1 then ltk [] (paT o.2.2.1 o.2.2.2) else [])).sMd o.2.1
section RLOOK
variable {g : im_g} {d : Nat} {e : im_E} {M : im_M} {K : im_K} {R : Rw} {m : Int} {giv : Bk} {l : Lv} {e0 : Int}
theorem c_takeFresh {k : Int} {pm : Bk} (hk : 0 ≤ k ∧ k < 16) (hpm : rPm M pm) (h0 : 0 ≤ M 6952 7) (h7 : M 6952 7 + 6040 ≤ 1100000) (hd : 1 ≤ d)
    (hK : ∀ M', (∀ x, x ≠ 6952 → x ≠ 6955 → x ≠ 7019 → x ≠ 7020 → M' x = M x) → (∀ f, f ≠ 7 → f ≠ 83 → f ≠ 84 → f ≠ 85 → f ≠ 89 → f ≠ 93 → f ≠ 96 → M' 6952 f = M 6952 f) → (∀ i, i < M 6952 7 → M' 6955 i = M 6955 i) → (M 6952 7 ≤ M' 6952 7 ∧ M' 6952 7 ≤ M 6952 7 + 6040) → (M' 6952 83 = M 6985 k ∧ M' 6952 84 = 0 ∧ M' 6952 85 = 0 ∧ M' 6952 89 = 0 ∧ M' 6952 93 = 0) → rb1 M' 96 7019 7020 pm (M' 6952 7) → K (.inl none) e M') : im_T g d 429 0 [some (.ref 6952), some (vI k), none] [] e M K := by
  obtain ⟨p1, p2, p3, p4⟩ := hpm
  refine b_takeFresh_0 ⟨hk, ?_⟩
  rw [p1]
  generalize hB : im_u (im_u (im_u (im_u (im_u (im_u M 6952 83 (M 6985 k)) 6952 84 0) 6952 85 0) 6952 89 0) 6952 93 0) 6952 96 (pm.1 : Int) = B
  have bx : ∀ x, x ≠ 6952 → B x = M x := fun x a => by rw [← hB]; iterate 6 rw [im_u_ne _ _ _ a]
  have bk : ∀ f, f ≠ 83 → f ≠ 84 → f ≠ 85 → f ≠ 89 → f ≠ 93 → f ≠ 96 → B 6952 f = M 6952 f := fun f a b c d i j => by rw [← hB, im_rdk _ _ _ j, im_rdk _ _ _ i, im_rdk _ _ _ d, im_rdk _ _ _ c, im_rdk _ _ _ b, im_rdk _ _ _ a]
  have b96 : B 6952 96 = (pm.1 : Int) := by rw [← hB]; exact im_rds _ _ _ _
  have b93 : B 6952 93 = 0 := by rw [← hB, im_rdk _ _ _ (by decide)]; exact im_rds _ _ _ _
  have b89 : B 6952 89 = 0 := by rw [← hB, im_rdk _ _ _ (by decide), im_rdk _ _ _ (by decide)]; exact im_rds _ _ _ _
  have b85 : B 6952 85 = 0 := by rw [← hB, im_rdk _ _ _ (by decide), im_rdk _ _ _ (by decide), im_rdk _ _ _ (by decide)]; exact im_rds _ _ _ _
  have b84 : B 6952 84 = 0 := by rw [← hB, im_rdk _ _ _ (by decide), im_rdk _ _ _ (by decide), im_rdk _ _ _ (by decide), im_rdk _ _ _ (by decide)]; exact im_rds _ _ _ _
  have b83 : B 6952 83 = M 6985 k := by rw [← hB, im_rdk _ _ _ (by decide), im_rdk _ _ _ (by decide), im_rdk _ _ _ (by decide), im_rdk _ _ _ (by decide), im_rdk _ _ _ (by decide)]; exact im_rds _ _ _ _
  clear hB
  have b7 := bk 7 (by decide) (by decide) (by decide) (by decide) (by decide) (by decide)
  have b62 := bk 62 (by decide) (by decide) (by decide) (by decide) (by decide) (by decide)
  have loop : ∀ (q i : Nat) (N : im_M), i + q = pm.1 → (∀ x, x ≠ 6952 → x ≠ 6955 → x ≠ 7019 → x ≠ 7020 → N x = B x) → (∀ f, f ≠ 7 → N 6952 f = B 6952 f) → (∀ z, z < M 6952 7 → N 6955 z = M 6955 z) → (M 6952 7 ≤ N 6952 7 ∧ N 6952 7 ≤ M 6952 7 + 302 * i) → (∀ j : Nat, j < i → N 7019 j = pm.2.1 j ∧ rnp N 0 (N 6952 7) (N 7020 j) (pm.2.2.2 j)) → im_T g d 429 40 [some (.ref 6952), none, some (vI i)] [] e N K := by
    intro q
    induction q with
    | zero =>
      intro i N hi nx nk np n7 hj
      have hi' : i = pm.1 := by omega
      have n62 : N 6952 62 = (pm.1 : Int) := by rw [nk 62 (by decide), b62]; exact p1
      refine b_takeFresh_40 hd ⟨by constructor <;> omega, fun _ => ?_, fun z => by omega⟩
      refine hK N (fun x a b c f => (nx x a b c f).trans (bx x a)) (fun f a a1 a2 a3 a4 a5 a6 => (nk f a).trans (bk f a1 a2 a3 a4 a5 a6)) np (by omega) ⟨by rw [nk 83 (by decide)]; exact b83, by rw [nk 84 (by decide)]; exact b84, by rw [nk 85 (by decide)]; exact b85, by rw [nk 89 (by decide)]; exact b89, by rw [nk 93 (by decide)]; exact b93⟩ ⟨by rw [nk 96 (by decide)]; exact b96, by omega, p3, fun j hj' => (hj j (by omega)).1, fun j hj' => (hj j (by omega)).2⟩
    | succ q ih =>
      intro i N hi nx nk np n7 hj
      have n62 : N 6952 62 = (pm.1 : Int) := by rw [nk 62 (by decide), b62]; exact p1
      obtain ⟨p41, p42⟩ := p4 i (by omega)
      refine b_takeFresh_40 hd ⟨by constructor <;> omega, fun z => by omega, fun _ => ⟨⟨by omega, by omega⟩, ⟨by omega, by omega⟩, ?_⟩⟩
      have e92 : N 6992 i = pm.2.1 i := by rw [nx 6992 (by decide) (by decide) (by decide) (by decide), bx 6992 (by decide)]; exact p41
      rw [e92]
      have u7 : im_u N 7019 i (pm.2.1 i) 6952 7 = N 6952 7 := im_rdn _ _ _ _ (by decide)
      refine c_rload (x := pm.2.2.2 i) sf_6993 (by decide) (by decide) (by decide) (by omega) (by omega) (sn_congr p42 (fun z _ _ => by rw [im_rdn _ _ _ _ (by decide), nx 6993 (by decide) (by decide) (by decide) (by decide), bx 6993 (by decide)])) (by rw [u7]; omega) (by rw [u7]; omega) (fun N1 f1 f2 f3 => ⟨_, rfl, rfl, by rw [u7]; constructor <;> omega, ?_⟩)
      rw [u7] at f1 f2 f3 ⊢
      have x1 : ∀ x, x ≠ 6952 → x ≠ 6955 → x ≠ 7019 → N1 x = N x := fun x a b c => (f1.1 x (fun z => by cases z) b a).trans (im_u_ne _ _ _ c)
      have k1 : ∀ f, f ≠ 7 → N1 6952 f = N 6952 f := fun f a => (f1.2.1 f (by simp [a])).trans (im_rdn _ _ _ _ (by decide))
      have q1 : ∀ z, z < N 6952 7 → N1 6955 z = N 6955 z := fun z hz => (f1.2.2 z hz).trans (im_rdn _ _ _ _ (by decide))
      have n19 : ∀ z : Int, N1 7019 z = if z = (i : Int) then pm.2.1 i else N 7019 z := fun z => by rw [f1.1 7019 (fun z => by cases z) (by decide) (by decide), im_rdx]
      have ui : ((i : Int) + 1) = ((i + 1 : Nat) : Int) := by omega
      rw [ui]
      have v7 : im_u N1 7020 i (N 6952 7) 6952 7 = N1 6952 7 := im_rdn _ _ _ _ (by decide)
      refine ih (i + 1) _ (by omega) (fun x a b c f => by rw [im_u_ne _ _ _ f, x1 x a b c]; exact nx x a b c f) (fun f a => by rw [im_rdn _ _ _ _ (by decide), k1 f a]; exact nk f a) (fun z hz => by rw [im_rdn _ _ _ _ (by decide), q1 z (by omega)]; exact np z hz) (by rw [v7]; omega) (fun j hj' => ?_)
      rw [v7, im_rdn _ _ _ _ (by decide), n19, im_rdx]
      by_cases z : j = i
      · subst z
        rw [if_pos rfl, if_pos rfl]
        exact ⟨rfl, rnp_congr f3 (fun z _ => im_rdn _ _ _ _ (by decide)) (Int.le_refl _)⟩
      · have z' : ¬ (j : Int) = (i : Int) := fun q => z (by omega)
        rw [if_neg z', if_neg z', x1 7020 (by decide) (by decide) (by decide)]
        exact ⟨(hj j (by omega)).1, rnp_congr (hj j (by omega)).2 (fun z hz => by rw [im_rdn _ _ _ _ (by decide)]; exact q1 z hz) (by omega)⟩
  exact loop pm.1 0 B (by omega) (fun _ _ _ _ _ => rfl) (fun _ _ => rfl) (fun z _ => by rw [bx 6955 (by decide)]) ⟨by omega, by omega⟩ (fun j hj => absurd hj (Nat.not_lt_zero j))
/-- nothing is known yet; the search begins -/
theorem c_rsea {mask fuel T : Int} {N : Nat} {P : Nat → Pe} {o : Int × Int × (Nat → Pe) × Nat} (hW : WFP R m) (hTP : TP R m e0 giv) (hn : ∀ j, 0 ≤ j → j < m → R 4 j ≤ 9223372036854775807 ∧ R 5 j ≤ 9223372036854775807 ∧ R 6 j ≤ 9223372036854775807) (hd : 21 ≤ d) (hfu : 0 ≤ fuel ∧ fuel ≤ 400) (h : KPL M R m giv l T) (hlv : lvO R m e0 l []) (h6 : M 6952 6 ≤ T) (h102 : M 6952 102 = 1) (h8 : M 6952 8 = 0 ∨ M 6952 8 = 1) (h116 : 0 ≤ M 6952 116 ∧ M 6952 116 ≤ 60) (h36 : M 6952 36 ≤ 20400) (h175 : M 6952 175 = 0) (hOL : rOL M []) (h7 : T + 700 * (e0 - l.nd) + 400 * l.ac.1 + 2416 * 104 ≤ 1100000) (hr : srS R giv mask fuel N 0 [(l, ofs R giv l)] P o)
    (hK : ∀ M1 M', STp 0 T M M1 → SS M1 R m giv T → qF M1 M' → M1 6952 175 = o.2.1 → (o.1 = 1 → rOL M' (ltk [] (paT o.2.2.1 o.2.2.2))) → (o.1 ≠ 1 → M' = M1) → K (.inl (some (vI o.1))) e M') : im_T g d 428 146 [some (.ref 6952), none, none, some (vI mask), some (vI fuel), none, some (vI 0)] [] e M K := by
  have loop : ∀ (q i : Nat) (B : im_M), i + q = 64 → (∀ x, x ≠ 7037 → B x = M x) → (∀ j : Nat, j < i → B 7037 j = 0) → im_T g d 428 146 [some (.ref 6952), none, none, some (vI mask), some (vI fuel), none, some (vI i)] [] e B K := by
    intro q
    induction q with
    | succ q ih =>
      intro i B hi bx hz
      refine b_look4_146 (by omega) ⟨by constructor <;> omega, fun z => by omega, fun _ => ⟨⟨by omega, by omega⟩, ?_⟩⟩
      have ui : ((i : Int) + 1) = ((i + 1 : Nat) : Int) := by omega
      rw [ui]
      refine ih (i + 1) _ (by omega) (fun x a => (im_u_ne _ _ _ a).trans (bx x a)) (fun j hj => ?_)
      rw [im_rdx]
      split
      · rfl
      · exact hz j (by omega)
    | zero =>
      intro i B hi bx hz
      have hi' : i = 64 := by omega
      subst hi'
      refine b_look4_146 (by omega) ⟨by decide, fun _ => ?_, fun z => absurd z (by decide)⟩
      obtain ⟨h1, ⟨st, en, h2⟩, ⟨hT0, h77⟩, h83, h84⟩ := h
      have b52 : B 6952 = M 6952 := bx 6952 (by decide)
      have KB : KPL B R m giv l T := ⟨RP_congr h1 (by rw [b52]) (by rw [b52]) (fun x a b => bx x (by omega)) (fun i _ => by rw [bx 6955 (by decide)]), ⟨st, en, RE_congr h2 (fun k _ _ => by rw [b52]) (fun x a b => bx x (by omega)) (fun i _ => by rw [bx 6955 (by decide)]) (Int.le_refl _)⟩, ⟨hT0, by rw [b52]; exact h77⟩, by rw [b52]; exact h83, by rw [b52]; exact h84⟩
      have F0 : STp 0 T M B := ⟨fun x a b c d f i => bx x (by omega), fun k _ => by rw [b52], fun i _ => by rw [bx 6955 (by decide)], fun x a b q _ => by rw [bx x (by omega)], fun x a q _ => by rw [bx x (by omega)]⟩
      have hElt := hlv.2.2.2.2.1.lt
      have hTn : R 0 l.nd = 3 → R 5 l.nd ≠ 0 → 0 ≤ hld giv (R 5 l.nd) 0 ∧ hld giv (R 5 l.nd) 0 ≤ 1000000000000000 := fun f h5 => hTP l.nd hlv.2.1.1 hlv.2.1.2.1 f hElt (fun i i1 i2 => hlv.2.2.2.2.1.2 i i1 i2) h5
      refine b_search_0 (by omega) (c_keepLevel (j := 0) hW (by omega) (by decide) KB (by omega) hlv.2.1.1 hlv.2.1.2.1 hlv.2.1.2.2 hTn (fun N1 x1 k1 y1 F1 rl1 cu1 => ⟨rfl, rfl, ?_⟩))
      have hkn : ∀ Γ : Env, Γ.2.2.2.1 = giv → KN N1 R m Γ := fun Γ _ s s0 s1 hs => by
        exfalso
        rw [x1 7037 (by decide) (by decide) (by decide)] at hs
        have := hz s.toNat (by omega)
        rw [show ((s.toNat : Nat) : Int) = s by omega] at this
        exact hs this
      have gk : ∀ k, k ≠ 7 → k ≠ 8 → k ≠ 122 → k ≠ 124 → N1 6952 k = M 6952 k := fun k a b c f => (k1 k a b c f).trans (by rw [b52])
      have p5 : ∀ i, i < T → N1 6955 i = M 6955 i := fun i hi => by rw [F1.2.2.1 i hi, bx 6955 (by decide)]
      have SS1 : SS N1 R m giv T := by
        refine ⟨RP_congr h1 (gk 6 (by decide) (by decide) (by decide) (by decide)) (gk 36 (by decide) (by decide) (by decide) (by decide)) (fun x a b => by rw [x1 x (by omega) (by omega) (by omega), bx x (by omega)]) (fun i hi => p5 i (by omega)), ⟨rb1_congr h2.2.2.2.1.1 (gk 96 (by decide) (by decide) (by decide) (by decide)) (by rw [x1 7019 (by decide) (by decide) (by decide), bx 7019 (by decide)]) (by rw [x1 7020 (by decide) (by decide) (by decide), bx 7020 (by decide)]) (fun i hi => p5 i hi) (Int.le_refl _), h2.2.2.2.1.2⟩, ⟨by rw [gk 6 (by decide) (by decide) (by decide) (by decide)]; exact h6, hT0⟩, ⟨by rw [gk 102 (by decide) (by decide) (by decide) (by decide)]; exact h102, hkn, by rw [y1.2, b52]; exact h8⟩, by rw [gk 116 (by decide) (by decide) (by decide) (by decide)]; exact h116, by rw [gk 36 (by decide) (by decide) (by decide) (by decide)]; exact h36, by rw [gk 99 (by decide) (by decide) (by decide) (by decide), h2.2.2.2.2.1.1]; exact h2.2.2.2.2.2.1, by rw [gk 100 (by decide) (by decide) (by decide) (by decide), h2.2.2.2.2.1.2]; exact h2.2.2.2.2.2.2⟩
      have hmu : mu R l ≤ 103 := by
        unfold mu
        have := (hW.2.2 l.nd hlv.2.1.1 hlv.2.1.2.1).2.2.1
        (repeat' split) <;> omega
      have rs : rStk N1 R m e0 giv T 1100000 P T [(l, ofs R giv l)] := ⟨T, ⟨Int.le_refl _, Int.le_refl _⟩, rl1, cu1, ⟨hlv.1, hlv.2.1, hlv.2.2.1, hlv.2.2.2.1, hlv.2.2.2.2.1, ofs_ok hW hn hlv.2.1.1 hlv.2.1.2.1 hlv.2.2.1 hTn⟩, by show mu R l + ((0 : Nat) : Int) ≤ 103; omega, by show T + 700 * (e0 - l.nd) + 400 * l.ac.1 + 2416 * (104 - ((0 : Nat) : Int)) ≤ 1100000; omega, fun i hi => absurd hi (by show ¬ 0 = i + 1; omega), trivial⟩
      exact l_rsearch (d := d - 1) (e := e) (K := im_ri (fun x4 e_ M3 => e = e_ ∧ K (.inl (some (vI x4))) e M3)) (mask := mask) (fuel := fuel) (T0 := T) (P0 := 1100000) (M0 := M) (o := o) (L0 := []) hW hTP hn (by omega) (Int.le_refl _) hfu hOL (fun M1 M' a b c f q r => ⟨_, rfl, rfl, hK M1 M' a b c f q r⟩) N 0 [(l, ofs R giv l)] P T N1 hr rs SS1 (by rw [gk 175 (by decide) (by decide) (by decide) (by decide)]; exact h175) (Int.le_refl _) hfu.1 (F0.trans F1)
  exact loop 64 0 M rfl (fun _ _ => rfl) (fun j hj => absurd hj (Nat.not_lt_zero j))
end RLOOK
