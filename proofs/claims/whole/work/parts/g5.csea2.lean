/-! THE CLASS's search: its loop -/
theorem appC_30 {R : Rw} {giv : Bk} {st en lk : Int} {s : TS} {a b c v a' b' c' v' : Int} : ∀ (f : Nat) (n : Int), appC R giv st en lk s 30 a b c v f n = appC R giv st en lk s 30 a' b' c' v' f n := by
  intro f
  induction f with
  | zero => intro n; rfl
  | succ f ih =>
    intro n
    rw [appC, appC]
    by_cases h1 : n = -1
    · rw [if_pos h1, if_pos h1]
    · rw [if_neg h1, if_neg h1]
      by_cases h2 : R 0 n = 30
      · rw [if_pos ⟨h2, Or.inl rfl⟩, if_pos ⟨h2, Or.inl rfl⟩]
        have ht : tkn' R (s.env giv st en) n 30 v = tkn' R (s.env giv st en) n 30 v' := by
          unfold tkn'
          rw [if_neg (by decide), if_neg (by decide)]
          rfl
        have hk : takeO lk (s.sNd (R 17 n)) 30 a b c v = takeO lk (s.sNd (R 17 n)) 30 a' b' c' v' := by
          unfold takeO
          rw [if_neg (by decide), if_pos rfl, if_neg (by decide), if_pos rfl]
        rw [ht, hk, ih]
      · rw [if_neg (fun z => h2 z.1), if_neg (fun z => h2 z.1), ih]
theorem appO_30 {R : Rw} {giv : Bk} {st en lk : Int} {s : TS} {a b c v a' b' c' v' : Int} : appO R giv st en lk s 30 a b c v = appO R giv st en lk s 30 a' b' c' v' := by
  unfold appO
  rw [appC_30]
theorem trP_eq {R : Rw} {giv : Bk} {l : Lv} {p : Pe} {ρ ρ' : Rl} {cp v i : Int} (hk : peO p) (hv : p.1 = 28 ∨ p.1 = 29 → v = p.2.2.2.2.1) : runO R giv 1 p.2.2.2.2.2 p.2.2.2.2.2 l.ls (fun _ => p.1) (fun _ => p.2.1) (fun _ => p.2.2.1) (fun _ => p.2.2.2.1) (fun _ => v) (if p.1 = -1 then 0 else 1) i (l.ts ρ ρ' cp) = trP R giv l p ρ ρ' cp := by
  unfold trP
  by_cases h1 : p.1 = -1
  · rw [if_pos h1]
    rfl
  · rw [if_neg h1]
    by_cases h2 : p.1 = 28 ∨ p.1 = 29
    · rw [hv h2]
      rfl
    · have h30 : p.1 = 30 := by
        rcases hk.1 with z | z | z | z
        · exact absurd z h1
        · exact absurd (Or.inl z) h2
        · exact absurd (Or.inr z) h2
        · exact z
      have hins : ∀ (x y : Int) (s : TS), insO R giv (max p.2.2.2.2.2 l.ls) p.2.2.2.2.2 1 (fun _ => p.1) (fun _ => p.2.1) (fun _ => p.2.2.1) (fun _ => p.2.2.2.1) (fun _ => v) 1 x s = insO R giv (max p.2.2.2.2.2 l.ls) p.2.2.2.2.2 1 (fun _ => p.1) (fun _ => p.2.1) (fun _ => p.2.2.1) (fun _ => p.2.2.2.1) (fun _ => p.2.2.2.2.1) 1 y s := fun x y s => by
        rw [insO, insO, h30, appO_30 (a' := p.2.1) (b' := p.2.2.1) (c' := p.2.2.2.1) (v' := p.2.2.2.2.1)]
        rfl
      unfold runO
      simp only [hins i 0]
/-- what a search leaves as it was -/
def GF (M0 M : im_M) : Prop := ∀ x, (x < 931 ∨ 935 < x) → (x < 1207 ∨ 2061 < x) → x < 7082 → M x = M0 x
theorem PFr.gf {j : Nat} {M0 M M' : im_M} (hj : j < 128) (h : PFr j M M') (hG : GF M0 M) : GF M0 M' := fun x a b c => (h.1 x a (by omega) (by omega) (by omega) (by omega) (by omega)).trans (hG x a b c)
theorem CSW.mv {M M' : im_M} {e e' : im_E} {R : Rw} {m E : Int} {giv : Bk} {bp : Nat} (h : CSW M e R m E giv bp) (hbp : bpO bp) (hs : ∀ x, ((13 ≤ x ∧ x < 1793) ∨ (1800 ≤ x ∧ x ≤ 2056) ∨ (2060 ≤ x ∧ x < 6952)) → M' x = M x) (h8 : M' 1793 8 = M 1793 8) (hb : bkN e' bp 20) (hl : cLv M' e') : CSW M' e' R m E giv bp := by
  obtain ⟨⟨p1, p2, p3, ⟨ρ, p4⟩, ⟨ρ', p5⟩, ⟨w, p6⟩⟩, ⟨p7, p7'⟩, ⟨p8, p9, p10⟩, p11, p12⟩ := h
  refine ⟨⟨CP_congr p1 (fun x a b => hs x (by omega)), p2.congr (hs 932 (by omega)) (fun x a b => hs x (by omega)), cbx_congr p3 (fun x a b => hs x (by omega)), ⟨ρ, rw6_congr p4 (fun x a b => hs x (by omega))⟩, ⟨ρ', rw6_congr p5 (fun x a b => hs x (by omega))⟩, ⟨w, cn_congr p6 (hs _ (by omega)) (hs _ (by omega))⟩⟩, ⟨by rw [hs 931 (by omega)]; exact p7, by rw [hs 931 (by omega)]; exact p7'⟩, ⟨hb, cb_congr p9 (fun x a b => hs x (by omega)), h8.trans p10⟩, hl, p12.cg (fun x hx => hs x (by omega))⟩
/-- what a run changes -/
def XO (a : Nat) (M M' : im_M) : Prop := ∀ x, (x < a ∨ a + 259 ≤ x) → (x < 931 ∨ 935 < x) → (x < 1207 ∨ 1793 ≤ x) → M' x = M x
section CTRYC
variable {g : im_g} {d : Nat} {e : im_E} {M : im_M} {K : im_K} {R : Rw} {m E : Int} {giv : Bk} {l : Lv} {j bp : Nat}
/-- a try is run from the next level -/
theorem c_ctry {p : Pe} {L : List Pe} {e0 : Int} {a : Nat} (hW : WFP R m) (hj : j < 127) (hbp : bpO bp) (hd : 117 ≤ d) (hS : CSW M e R m E giv bp) (hlv : lvO R m e0 l (p :: L)) (hrd : cRy M j p) (ha : M 1794 ((j + 1 : Nat) : Int) = (a : Int)) (hb : (cb M (a + 1) 40 l.ac ∧ cb M (a + 87) 40 l.ch ∧ cb M (a + 173) 40 l.lt) ∧ M a 5 = l.nd ∧ M a 4 = l.ls) {x44 : Int} (hx44 : (¬ M 1796 j = -1 ∧ x44 = 1) ∨ (M 1796 j = -1 ∧ x44 = 0))
    (hKs : ∀ ρ ρ' cp s, trP R giv l p ρ ρ' cp = .inr s → ∀ M', XO a M M' → CSW M' e R m E giv bp → rw6 M' 1459 s.wrn → cLs M' (j + 1) (s.lv (max p.2.2.2.2.2 l.ls)) → OT s → VN R m s → s.acc.1 ≤ 40 → K (.inl (some (vI 0))) e M')
    (hKe : ∀ ρ ρ' cp z, trP R giv l p ρ ρ' cp = .inl z → z ≠ 0 → im_i32 z → ∀ M', XO a M M' → CSW M' e R m E giv bp → K (.inl (some (vI z))) e M') :
    im_T g d 109 0 [some (.ref 931), some (vL (M 2057 j)), none, some (vL (M 2057 j)), none, some (.ref 1795), some (vI j), some (vI x44), none, none, none] [] e (im_u (im_u (im_u M 931 4 (a : Int)) 931 5 (bp : Int)) 931 6 1) K := by
  obtain ⟨hpe, hp0⟩ := hlv.2.2.2.2.2 p (List.mem_cons_self)
  obtain ⟨hp1, hp2, hp3, hp4⟩ := id hpe
  have A1 := hS.aim (j := j + 1) (by omega) hbp ha hb
  obtain ⟨a82, _⟩ := hS.2.2.2.1.at (j := j + 1) (by omega) ha
  have ux : ∀ x, x ≠ 931 → im_u (im_u (im_u M 931 4 (a : Int)) 931 5 (bp : Int)) 931 6 1 x = M x := fun x a => by rw [im_u_ne _ _ _ a, im_u_ne _ _ _ a, im_u_ne _ _ _ a]
  have uk : ∀ k, (k < 4 ∨ 6 < k) → im_u (im_u (im_u M 931 4 (a : Int)) 931 5 (bp : Int)) 931 6 1 931 k = M 931 k := fun k a => by rw [im_rdk _ _ _ (by omega), im_rdk _ _ _ (by omega), im_rdk _ _ _ (by omega)]
  generalize im_u (im_u (im_u M 931 4 (a : Int)) 931 5 (bp : Int)) 931 6 1 = N at A1 ux uk
  obtain ⟨q4, st, en, fl, ρ, ρ', cp, CN⟩ := A1
  obtain ⟨⟨r1, r2, r3, r4⟩, r5, r6, r7⟩ := hrd
  obtain ⟨n1800, v0, nv0⟩ := hS.2.2.2.2.1 j (by omega)
  have hv : ∃ v, cn M (1801 + 2 * j) v ∧ (p.1 = 28 ∨ p.1 = 29 → v = p.2.2.2.2.1) := by
    by_cases z : p.1 = 28 ∨ p.1 = 29
    · exact ⟨_, (r2 z).2.2.2, fun _ => rfl⟩
    · exact ⟨v0, nv0, fun w => absurd w z⟩
  obtain ⟨v, nv, hvp⟩ := hv
  have hx : x44 = ((if p.1 = -1 then 0 else 1 : Nat) : Int) := by
    rw [r1] at hx44
    split <;> omega
  have heq := fun (ρ ρ' : Rl) (cp : Int) => trP_eq (R := R) (giv := giv) (l := l) (ρ := ρ) (ρ' := ρ') (cp := cp) (v := v) (i := (j : Int)) hpe hvp
  rw [r4, hx]
  -- what the others see
  have bk : ∀ {M' : im_M} {st' en' fl' : Int} {s' : TS}, XU a N M' → CT M' e R m E giv st' en' 1 fl' s' a bp 20 → XO a M M' ∧ CSW M' e R m E giv bp := fun {M' st' en' fl' s'} X' C' => by
    have f94 : M' 1794 = M 1794 := (X'.1 1794 (by omega) (by omega) (by omega) (by omega) (by omega) (by omega) (by omega)).trans (ux 1794 (by decide))
    refine ⟨fun x y0 y1 y2 => (X'.1 x y0 (by omega) (by omega) (by omega) (by omega) (by omega) y2).trans (ux x (by omega)), C'.csw ?_ ?_ ?_⟩
    · rw [X'.1 1793 (by omega) (by omega) (by omega) (by omega) (by omega) (by omega) (by omega), ux 1793 (by decide)]; exact hS.2.2.1.2.2
    · exact hS.2.2.2.1.fr (j := j + 1) (by omega) ha f94 ⟨_, C'.1.2.2.2.2.1.1⟩ ⟨_, C'.1.2.2.2.2.1.2.1⟩ ⟨_, C'.1.2.2.2.2.1.2.2.1⟩ (fun x y0 y1 => (X'.1 x y1 (by omega) (by omega) (by omega) (by omega) (by omega) (by omega)).trans (ux x (by omega)))
    · exact hS.2.2.2.2.cg (fun x hx => (X'.1 x (by omega) (by omega) (by omega) (by omega) (by omega) (by omega) (by omega)).trans (ux x (by omega)))
  refine c_run (n0 := if p.1 = -1 then 0 else 1) (i0 := (j : Int)) (nr := 128) (t := fun _ => p.1) (a := fun _ => p.2.1) (b := fun _ => p.2.2.1) (c := fun _ => p.2.2.2.1) (v := fun _ => v) (s := l.ts ρ ρ' cp) (least := l.ls) hW (by omega) (by split <;> omega) (by omega) rw_1795 CN (hlv.ot ρ ρ' cp) (hlv.vn ρ ρ' cp) q4 hlv.2.2.1 (by constructor <;> omega) (by constructor <;> omega) (fun k k0 k1 => ?_) (fun s hs M' X' h4 C' O' V' => ?_) (fun z hz z0 zi M' st' en' X' C' => ?_)
  · have hk : k = (j : Int) := by split at k1 <;> omega
    subst hk
    have ej : ((j : Int)).toNat = j := by omega
    refine ⟨rw_1795, ⟨by omega, by omega⟩, ⟨by omega, by omega⟩, ⟨by rw [ux 1796 (by decide)]; exact r1, by rw [ux 1797 (by decide)]; exact r5, by rw [ux 1798 (by decide)]; exact r6, by rw [ux 1799 (by decide)]; exact r7⟩, ?_, ?_⟩
    · rw [ej, ux 1800 (by decide)]; exact n1800
    · rw [ej]; exact cn_congr nv (ux _ (by omega)) (ux _ (by omega))
  · rw [heq] at hs
    obtain ⟨X, W⟩ := bk X' C'
    have f94 : M' 1794 = M 1794 := X 1794 (by omega) (by omega) (by omega)
    exact hKs ρ ρ' cp s hs M' X W C'.2.2.2.2.2.2.1 ⟨a, by rw [f94]; exact ha, ⟨C'.1.2.2.2.2.1.1, C'.1.2.2.2.2.1.2.1, C'.1.2.2.2.2.1.2.2.1⟩, C'.2.2.2.1.2.2.2, h4⟩ O' V' (cb_le C'.1.2.2.2.2.1.1)
  · rw [heq] at hz
    obtain ⟨s', fl', C'⟩ := C'
    obtain ⟨X, W⟩ := bk X' C'
    exact hKe ρ ρ' cp z hz z0 zi M' X W
end CTRYC
theorem QF.of {n : Nat} {M M' : im_M} (hn : n ≤ 128) (h94 : ∀ i : Nat, i < n → M' 1794 i = M 1794 i) (h58 : ∀ i : Nat, i < n → M' 2058 i = M 2058 i) (hx : ∀ x, (1796 ≤ x ∧ x ≤ 2057) ∨ x = 2059 → M' x = M x) (hb : ∀ i : Nat, i < n → ∀ b : Nat, M 1794 i = (b : Int) → ∀ x, b ≤ x → x < b + 259 → M' x = M x) : QF n M M' :=
  ⟨fun i hi => ⟨h94 i hi, h58 i hi, by rw [hx 2059 (by omega)], hb i hi⟩, fun i hi => ⟨⟨by rw [hx 1796 (by omega)], by rw [hx 1797 (by omega)], by rw [hx 1798 (by omega)], by rw [hx 1799 (by omega)], by rw [hx 1800 (by omega)], by rw [hx 2057 (by omega)]⟩, hx _ (by omega), hx _ (by omega)⟩⟩
section CSEAL
variable {g : im_g} {d : Nat} {K : im_K} {R : Rw} {m E : Int} {giv : Bk} {bp : Nat}
theorem l_csearch {mask fuel e0 c5 : Int} {M0 : im_M} (hW : WFP R m) (hTP : TP R m e0 giv) (hn : ∀ j, 0 ≤ j → j < m → R 4 j ≤ 9223372036854775807 ∧ R 5 j ≤ 9223372036854775807 ∧ R 6 j ≤ 9223372036854775807) (hbp : bpO bp) (hd : 118 ≤ d) (hfu : 0 ≤ fuel ∧ fuel ≤ 400) :
    ∀ (N : Nat) (mk : Int) (S : List (Lv × List Pe)) (P : Nat → Pe) (e : im_E) (M : im_M) (turn : Int), 2 * (fuel - mk) + S.length < N → 0 ≤ turn → turn + N ≤ 1200 → cStk M R m e0 giv P S → CSW M e R m E giv bp → M 1793 9 = mk → 0 ≤ mk → mk ≤ fuel → GF M0 M → M 1795 5 = c5 →
    (∀ o, srS R giv mask fuel N mk S P o → ∀ (ex : im_E) M', xcn ex = 0 → GF M0 M' → CSW M' (e ++ ex) R m E giv bp → M' 1793 9 = o.2.1 → (o.1 = 1 → M' 1795 5 = (o.2.2.2 : Int) ∧ o.2.2.2 ≤ 128 ∧ ∀ j, j < o.2.2.2 → peO (o.2.2.1 j) ∧ cPe M' j (o.2.2.1 j)) → (o.1 ≠ 1 → M' 1795 5 = c5) → (0 ≤ o.1 ∧ o.1 ≤ 2) → K (.inl (some (vI o.1))) (e ++ ex) M') →
    im_T g d 238 32 [some (.ref 1793), none, none, some (vI mask), some (vI fuel), some (vI ((S.length : Int) - 1)), some (vI turn), none, none] [] e M K := by
  have hTn : ∀ n, 0 ≤ n → n < m → EB R m e0 n → R 0 n = 3 → R 5 n ≠ 0 → 0 ≤ hld giv (R 5 n) 0 ∧ hld giv (R 5 n) 0 ≤ 1000000000000000 := fun n a b c f h5 => hTP n a b f c.lt (fun i i1 i2 => c.2 i i1 i2) h5
  intro N
  induction N with
  | zero => intro mk S P e M turn h; omega
  | succ N ih =>
    intro mk S P e M turn hN ht0 ht hStk hS h9 hmk hmf hG h5 hK
    cases S with
    | nil =>
      refine k_Search_run_32 (by omega) ⟨by constructor <;> omega, fun _ => ⟨by decide, fun z => absurd z (by decide)⟩, fun _ => ?_⟩
      have := hK (0, mk, P, 0) rfl [] M rfl hG (by rw [List.append_nil]; exact hS) h9 (fun z => absurd z (by show ¬ ((0 : Int) = 1); decide)) (fun _ => h5) (by show 0 ≤ (0 : Int) ∧ (0 : Int) ≤ 2; decide)
      rw [List.append_nil] at this
      exact this
    | cons x S =>
      obtain ⟨l, L⟩ := x
      have hlen : (((l, L) :: S).length : Int) - 1 = (S.length : Int) := by simp only [List.length_cons]; omega
      have hlen' : ((l, L) :: S).length = S.length + 1 := rfl
      rw [hlen]
      rw [hlen'] at hN
      obtain ⟨hcl, hcu, hlv, hmu, hpa, hst⟩ := id hStk
      dsimp only at hcl hcu hlv hmu hpa
      have n0 := hlv.2.1.1
      have n1 := hlv.2.1.2.1
      have hmu0 : 0 ≤ mu R l := by
        unfold mu
        have := (hW.2.2 l.nd n0 n1).2.2.1
        (repeat' split) <;> omega
      have hSl : S.length ≤ 103 := by omega
      refine k_Search_run_32 (by omega) ⟨by constructor <;> omega, fun _ => ⟨by constructor <;> omega, fun _ => ?_⟩, fun z => by omega⟩
      refine c_propose hW (by omega) hbp hlv.2.2.1 n0 n1 (by omega) hS hcl hcu (fun ex1 M8 p ps x1 hL F8 S8 cl8 rd8 cu8 => ⟨_, rfl, ex1, rfl, by decide, fun _ => ⟨by constructor <;> omega, ?_⟩, fun z => absurd z (by decide)⟩) (fun hL ex1 M8 x1 F8 S8 => ⟨_, rfl, ex1, rfl, by decide, fun z => absurd rfl z, fun _ => ?_⟩)
      · subst hL
        have e9 : M8 1793 9 = mk := by rw [F8.1 1793 (by omega) (by omega) (by omega) (by omega) (by omega) (by omega)]; exact h9
        have e5 : M8 1795 5 = c5 := by rw [F8.1 1795 (by omega) (by omega) (by omega) (by omega) (by omega) (by omega)]; exact h5
        have G8 : GF M0 M8 := F8.gf (by omega) hG
        have Q8 : QF S.length M M8 := F8.qf hS.2.2.2.1 (by omega)
        rw [e9]
        refine ⟨fun hlt => ⟨by constructor <;> omega, by constructor <;> omega, fun _ => ?_, fun z => by omega⟩, fun hge => ?_⟩
        · have e1 : ((S.length : Int) + 1) = ((S.length + 1 : Nat) : Int) := by omega
          rw [e1]
          have ux : ∀ x, x ≠ 1793 → im_u M8 1793 9 (mk + 1) x = M8 x := fun x a => im_u_ne _ _ _ a
          have uk : ∀ k, k ≠ 9 → im_u M8 1793 9 (mk + 1) 1793 k = M8 1793 k := fun k a => im_rdk _ _ _ a
          have u9 : im_u M8 1793 9 (mk + 1) 1793 9 = mk + 1 := im_rds _ _ _ _
          generalize im_u M8 1793 9 (mk + 1) = M9 at ux uk u9
          have lv9 : cLv M9 (e ++ ex1) := S8.2.2.2.1.cg (ux 1794 (by decide)) (fun x hx => ux x (by omega))
          refine c_level (j := S.length + 1) (by omega) lv9 (by omega) (fun a ex2 M10 x2 h94 h94' h10 lv10 _ => ⟨_, rfl, ex2, rfl, (lv10.at (j := S.length + 1) (by omega) h94).2.1.1, ?_⟩)
          obtain ⟨a82, sta, xa1, xa2, xa3⟩ := lv10.at (j := S.length + 1) (by omega) h94
          obtain ⟨b, b1, ⟨b2, b3, b4⟩, b5, b6⟩ := id cl8
          have g94 : ∀ i : Nat, i < S.length + 1 → M10 1794 i = M8 1794 i := fun i hi => by rw [h94' i (by omega), ux 1794 (by decide)]
          have b10 : M10 1794 S.length = (b : Int) := (g94 S.length (by omega)).trans b1
          obtain ⟨b82, stb, _⟩ := lv10.at (j := S.length) (by omega) b10
          have dis : ∀ i : Nat, i < S.length + 1 → ∀ c : Nat, M8 1794 i = (c : Int) → c + 265 ≤ a ∨ a + 265 ≤ c := fun i hi c hc => lv10.2.1 i (S.length + 1) c a (by omega) (by omega) (by omega) ((g94 i hi).trans hc) h94
          have x10 : ∀ x, x ≠ 1793 → x ≠ 1794 → (x < a ∨ a + 265 ≤ x) → M10 x = M8 x := fun x p q r => (h10 x q r).trans (ux x p)
          refine c_level (j := S.length) (by omega) lv10 (by omega) (fun a2 ex3 M11 x3 h11 _ _ lv11 h11' => ⟨_, rfl, ex3, rfl, (lv11.at (j := S.length) (by omega) h11).2.1.1, ?_⟩)
          have hM11 : M11 = M10 := h11' (by omega)
          subst hM11
          have ha2 : a2 = b := by omega
          subst ha2
          obtain ⟨_, sta', _⟩ := lv11.at (j := S.length + 1) (by omega) h94
          obtain ⟨_, stb', _⟩ := lv11.at (j := S.length) (by omega) h11
          have dab := dis S.length (by omega) a2 b1
          have xb : ∀ x, a2 ≤ x → x < a2 + 259 → M11 x = M8 x := fun x p q => x10 x (by omega) (by omega) (by omega)
          refine c_scopy (a := a) (p := a2) sta' stb' xa1 xa2 xa3 (cb_congr b2 (fun x p q => xb x (by omega) (by omega))) (cb_congr b3 (fun x p q => xb x (by omega) (by omega))) (cb_congr b4 (fun x p q => xb x (by omega) (by omega))) (by omega) (by omega) (fun M12 h12 _ q4 q5 d1 d2 d3 => ⟨rfl, rfl, ?_⟩)
          have f94 : M12 1794 = M11 1794 := h12 1794 (by omega)
          have x12 : ∀ x, x ≠ 1793 → x ≠ 1794 → (x < a ∨ a + 265 ≤ x) → M12 x = M8 x := fun x p q r => (h12 x (by omega)).trans (x10 x p q r)
          have k12 : ∀ k, k ≠ 9 → M12 1793 k = M8 1793 k := fun k hk => by rw [h12 1793 (by omega), h10 1793 (by omega) (by omega)]; exact uk k hk
          have c12 : M12 1793 9 = mk + 1 := by rw [h12 1793 (by omega), h10 1793 (by omega) (by omega)]; exact u9
          have lv12 : cLv M12 (((e ++ ex1) ++ ex2) ++ ex3) := lv11.fr (j := S.length + 1) (by omega) h94 f94 ⟨_, d1⟩ ⟨_, d2⟩ ⟨_, d3⟩ (fun x p q => h12 x (by omega))
          have bk3 : bkN (((e ++ ex1) ++ ex2) ++ ex3) bp 20 := bkN_app (bkN_app S8.2.2.1.1)
          have S12 : CSW M12 (((e ++ ex1) ++ ex2) ++ ex3) R m E giv bp := S8.mv hbp (fun x hx => x12 x (by omega) (by omega) (by omega)) (k12 8 (by decide)) bk3 lv12
          have a12 : M12 1794 ((S.length + 1 : Nat) : Int) = (a : Int) := by rw [f94]; exact h94
          refine ⟨bp, S12.2.2.1.2.2, 20, bk3.1, k_Machine_aim_0 sta'.1 bk3.1 ⟨by decide, rfl, rfl, ⟨by omega, by omega⟩, ?_⟩⟩
          have w57 : im_u (im_u (im_u M12 931 4 (a : Int)) 931 5 (bp : Int)) 931 6 1 2057 S.length = M12 2057 S.length := by rw [im_rdn _ _ _ _ (by decide), im_rdn _ _ _ _ (by decide), im_rdn _ _ _ _ (by decide)]
          have w96 : im_u (im_u (im_u M12 931 4 (a : Int)) 931 5 (bp : Int)) 931 6 1 1796 S.length = M12 1796 S.length := by rw [im_rdn _ _ _ _ (by decide), im_rdn _ _ _ _ (by decide), im_rdn _ _ _ _ (by decide)]
          rw [w57, w96]
          intro x44 hx44
          have rd12 : cRy M12 S.length p := by
            obtain ⟨r1, r2, r3, r4⟩ := rd8
            refine ⟨r1.cg ⟨by rw [x12 1796 (by omega) (by omega) (by omega)], by rw [x12 1797 (by omega) (by omega) (by omega)], by rw [x12 1798 (by omega) (by omega) (by omega)], by rw [x12 1799 (by omega) (by omega) (by omega)], by rw [x12 1800 (by omega) (by omega) (by omega)], by rw [x12 2057 (by omega) (by omega) (by omega)]⟩ (x12 _ (by omega) (by omega) (by omega)) (x12 _ (by omega) (by omega) (by omega)), ?_, ?_, ?_⟩
            · rw [x12 1797 (by omega) (by omega) (by omega)]; exact r2
            · rw [x12 1798 (by omega) (by omega) (by omega)]; exact r3
            · rw [x12 1799 (by omega) (by omega) (by omega)]; exact r4
          have hb12 : (cb M12 (a + 1) 40 l.ac ∧ cb M12 (a + 87) 40 l.ch ∧ cb M12 (a + 173) 40 l.lt) ∧ M12 a 5 = l.nd ∧ M12 a 4 = l.ls := ⟨⟨d1, d2, d3⟩, by rw [q5, xb a2 (by omega) (by omega)]; exact b5, by rw [q4, xb a2 (by omega) (by omega)]; exact b6⟩
          -- the levels after a run
          have hup : ∀ i, i < S.length → upP P S.length p i = P i := fun i hi => by unfold upP; rw [if_neg (by omega)]
          have hupj : upP P S.length p S.length = p := by unfold upP; rw [if_pos rfl]
          obtain ⟨hpe, hp0⟩ := hlv.2.2.2.2.2 p (List.mem_cons_self)
          have st8 : cStk M8 R m e0 giv (upP P S.length p) ((l, ps) :: S) := by
            refine ⟨cl8, cu8, hlv.tl, hmu, fun i hi => ?_, hst.fr S Q8 hup⟩
            have hi : S.length = i + 1 := hi
            rw [hup i (by omega)]
            exact ⟨(hpa i hi).1.cg ⟨F8.2 1796 (by omega) i (by omega), F8.2 1797 (by omega) i (by omega), F8.2 1798 (by omega) i (by omega), F8.2 1799 (by omega) i (by omega), by rw [F8.1 1800 (by omega) (by omega) (by omega) (by omega) (by omega) (by omega)], F8.2 2057 (by omega) i (by omega)⟩ (F8.1 _ (by omega) (by omega) (by omega) (by omega) (by omega) (by omega)) (F8.1 _ (by omega) (by omega) (by omega) (by omega) (by omega) (by omega)), (hpa i hi).2⟩
          have x14 : ∀ {M14 : im_M}, XO a M12 M14 → ∀ x, (x < 931 ∨ 935 < x) → (x < 1207 ∨ 1795 ≤ x) → (x < a ∨ a + 265 ≤ x) → M14 x = M8 x := fun {M14} X x p q r => (X x (by omega) p (by omega)).trans (x12 x (by omega) (by omega) r)
          have g14 : ∀ {M14 : im_M}, XO a M12 M14 → ∀ i : Nat, i < S.length + 1 → M14 1794 i = M8 1794 i := fun {M14} X i hi => by rw [X 1794 (by omega) (by omega) (by omega), f94]; exact g94 i hi
          have q14 : ∀ {M14 : im_M}, XO a M12 M14 → QF (S.length + 1) M8 M14 := fun {M14} X => QF.of (by omega) (g14 X) (fun i hi => by rw [x14 X 2058 (by omega) (by omega) (by omega)]) (fun x hx => x14 X x (by omega) (by omega) (by omega)) (fun i hi c hc x p q => by
            have hdd := dis i hi c hc
            obtain ⟨c82, _⟩ := S8.2.2.2.1.at (j := i) (by omega) hc
            exact x14 X x (by omega) (by omega) (by omega))
          have gf14 : ∀ {M14 : im_M}, XO a M12 M14 → GF M0 M14 := fun {M14} X x p q r => (x14 X x p (by omega) (by omega)).trans (G8 x p q r)
          have pe14 : ∀ {M14 : im_M}, XO a M12 M14 → cPe M14 S.length p := fun {M14} X => rd8.1.cg ⟨by rw [x14 X 1796 (by omega) (by omega) (by omega)], by rw [x14 X 1797 (by omega) (by omega) (by omega)], by rw [x14 X 1798 (by omega) (by omega) (by omega)], by rw [x14 X 1799 (by omega) (by omega) (by omega)], by rw [x14 X 1800 (by omega) (by omega) (by omega)], by rw [x14 X 2057 (by omega) (by omega) (by omega)]⟩ (x14 X _ (by omega) (by omega) (by omega)) (x14 X _ (by omega) (by omega) (by omega))
          have e14 : ∀ {M14 : im_M}, XO a M12 M14 → M14 1793 9 = mk + 1 ∧ M14 1795 5 = c5 := fun {M14} X => ⟨by rw [X 1793 (by omega) (by omega) (by omega)]; exact c12, by rw [x14 X 1795 (by omega) (by omega) (by omega)]; exact e5⟩
          refine c_ctry (L := ps) (e0 := e0) (a := a) hW (by omega) hbp (by omega) S12 hlv rd12 a12 hb12 hx44 (fun ρ ρ' cp s hs M14 X14 S14 w14 cl14 O14 V14 ac14 => ⟨_, rfl, rfl, by decide, fun z => absurd rfl z, fun _ => ?_⟩) (fun ρ ρ' cp z hz z0 zi M14 X14 S14 => ⟨_, rfl, rfl, zi, fun _ => ?_, fun w => absurd w z0⟩)
          · refine c_isFound w14 (fun hf => ⟨_, rfl, rfl, by decide, fun z => absurd z (by decide), fun _ => ?_⟩) (fun hf => ⟨_, rfl, rfl, by decide, fun _ => ⟨⟨by omega, by omega⟩, ?_⟩, fun z => absurd rfl z⟩)
            · have vx : ∀ x, x ≠ 1795 → im_u M14 1795 5 ((S.length + 1 : Nat) : Int) x = M14 x := fun x a => im_u_ne _ _ _ a
              have v5 : im_u M14 1795 5 ((S.length + 1 : Nat) : Int) 1795 5 = ((S.length + 1 : Nat) : Int) := im_rds _ _ _ _
              generalize im_u M14 1795 5 ((S.length + 1 : Nat) : Int) = M15 at vx v5
              have := hK (1, mk + 1, upP P S.length p, S.length + 1) (Or.inr ⟨by omega, ρ, ρ', cp, Or.inr ⟨s, hs, Or.inl ⟨hf, rfl⟩⟩⟩) (ex1 ++ (ex2 ++ ex3)) M15 (by rw [(stc_app _ _).2.2, (stc_app _ _).2.2, x1, x2, x3]) (fun x p q r => (vx x (by omega)).trans (gf14 X14 x p q r)) (by
                rw [← List.append_assoc, ← List.append_assoc]
                exact S14.mv hbp (fun x hx => vx x (by omega)) (by rw [vx 1793 (by decide)]) bk3 (S14.2.2.2.1.cg (vx 1794 (by decide)) (fun x hx => vx x (by omega)))) (by rw [vx 1793 (by decide)]; exact (e14 X14).1) (fun _ => ⟨v5, by show S.length + 1 ≤ 128; omega, fun i hi => ?_⟩) (fun z => absurd rfl z) (by show 0 ≤ (1 : Int) ∧ (1 : Int) ≤ 2; decide)
              · rw [← List.append_assoc, ← List.append_assoc] at this
                exact this
              · have hi : i < S.length + 1 := hi
                show peO (upP P S.length p i) ∧ cPe M15 i (upP P S.length p i)
                have cgx : ∀ {q : Pe}, cPe M14 i q → cPe M15 i q := fun {q} hq => hq.cg ⟨by rw [vx 1796 (by omega)], by rw [vx 1797 (by omega)], by rw [vx 1798 (by omega)], by rw [vx 1799 (by omega)], by rw [vx 1800 (by omega)], by rw [vx 2057 (by omega)]⟩ (vx _ (by omega)) (vx _ (by omega))
                by_cases z : i = S.length
                · rw [z, hupj]
                  rw [z] at cgx
                  exact ⟨hpe, cgx (pe14 X14)⟩
                · have h8 := cStk.pa _ (st8.fr ((l, ps) :: S) (q14 X14) (fun _ _ => rfl)) i (by simp only [List.length_cons]; omega)
                  exact ⟨h8.2, cgx h8.1⟩
            · have vx : ∀ x, x ≠ 2058 → im_u M14 2058 ((S.length + 1 : Nat) : Int) (-1) x = M14 x := fun x a => im_u_ne _ _ _ a
              have v58 : im_u M14 2058 ((S.length + 1 : Nat) : Int) (-1) 2058 ((S.length + 1 : Nat) : Int) = -1 := im_rds _ _ _ _
              have v58' : ∀ i : Nat, i < S.length + 1 → im_u M14 2058 ((S.length + 1 : Nat) : Int) (-1) 2058 i = M14 2058 i := fun i hi => im_rdk _ _ _ (by omega)
              generalize im_u M14 2058 ((S.length + 1 : Nat) : Int) (-1) = M15 at vx v58 v58'
              have q15 : QF (S.length + 1) M14 M15 := QF.of (by omega) (fun i hi => by rw [vx 1794 (by decide)]) v58' (fun x hx => vx x (by omega)) (fun i hi c hc x p q => by
                obtain ⟨c82, _⟩ := S14.2.2.2.1.at (j := i) (by omega) hc
                exact vx x (by omega))
              have E14 := runO_eb hW (hlv.ot ρ ρ' cp) (hlv.vn ρ ρ' cp) hlv.2.2.2.2.1 hs
              have hmu' := trP_mu (t := max p.2.2.2.2.2 l.ls) hW hlv hp0 hs
              have hls : 0 ≤ max p.2.2.2.2.2 l.ls ∧ max p.2.2.2.2.2 l.ls ≤ 1000000000000000 := by
                have := hlv.2.2.1
                have := hpe.2.2.2
                omega
              have st15 : cStk M15 R m e0 giv (upP P S.length p) ((s.lv (max p.2.2.2.2.2 l.ls), ofs R giv (s.lv (max p.2.2.2.2.2 l.ls))) :: (l, ps) :: S) := by
                refine ⟨cl14.cg (by rw [vx 1794 (by decide)]) (fun c hc x p q => ?_), Or.inl ⟨v58, rfl⟩, ⟨⟨O14.1, O14.2.1, O14.2.2.1⟩, V14, hls, ac14, E14, ofs_ok hW hn V14.1 V14.2.1 hls (hTn s.nd V14.1 V14.2.1 E14)⟩, ?_, fun i hi => ?_, (st8.fr ((l, ps) :: S) (q14 X14) (fun _ _ => rfl)).fr ((l, ps) :: S) q15 (fun _ _ => rfl)⟩
                · obtain ⟨c82, _⟩ := S14.2.2.2.1.at (j := S.length + 1) (by omega) hc
                  exact vx x (by omega)
                · show mu R (s.lv (max p.2.2.2.2.2 l.ls)) + ((((l, ps) :: S).length : Nat) : Int) ≤ 103
                  simp only [List.length_cons]
                  omega
                · have hi : S.length + 1 = i + 1 := hi
                  have hi' : i = S.length := by omega
                  rw [hi', hupj]
                  exact ⟨(pe14 X14).cg ⟨by rw [vx 1796 (by omega)], by rw [vx 1797 (by omega)], by rw [vx 1798 (by omega)], by rw [vx 1799 (by omega)], by rw [vx 1800 (by omega)], by rw [vx 2057 (by omega)]⟩ (vx _ (by omega)) (vx _ (by omega)), hpe⟩
              have S15 : CSW M15 (((e ++ ex1) ++ ex2) ++ ex3) R m E giv bp := S14.mv hbp (fun x hx => vx x (by omega)) (by rw [vx 1793 (by decide)]) bk3 (S14.2.2.2.1.cg (vx 1794 (by decide)) (fun x hx => vx x (by omega)))
              have := ih (mk + 1) _ (upP P S.length p) (((e ++ ex1) ++ ex2) ++ ex3) M15 (turn + 1) (by simp only [List.length_cons]; omega) (by omega) (by omega) st15 S15 (by rw [vx 1793 (by decide)]; exact (e14 X14).1) (by omega) (by omega) (fun x p q r => (vx x (by omega)).trans (gf14 X14 x p q r)) (by rw [vx 1795 (by decide)]; exact (e14 X14).2) (fun o ho ex M' x4 a1 a2 a3 a4 a5 a6 => by
                have := hK o (Or.inr ⟨by omega, ρ, ρ', cp, Or.inr ⟨s, hs, Or.inr ⟨hf, ho⟩⟩⟩) (ex1 ++ (ex2 ++ (ex3 ++ ex))) M' (by rw [(stc_app _ _).2.2, (stc_app _ _).2.2, (stc_app _ _).2.2, x1, x2, x3, x4]) a1 (by rw [← List.append_assoc, ← List.append_assoc, ← List.append_assoc]; exact a2) a3 a4 a5 a6
                rw [← List.append_assoc, ← List.append_assoc, ← List.append_assoc] at this
                exact this)
              have e2 : ((((s.lv (max p.2.2.2.2.2 l.ls), ofs R giv (s.lv (max p.2.2.2.2.2 l.ls))) :: (l, ps) :: S).length : Nat) : Int) - 1 = ((S.length + 1 : Nat) : Int) := by simp only [List.length_cons]; omega
              rw [e2] at this
              exact this
          · have := ih (mk + 1) ((l, ps) :: S) (upP P S.length p) (((e ++ ex1) ++ ex2) ++ ex3) M14 (turn + 1) (by simp only [List.length_cons]; omega) (by omega) (by omega) (st8.fr ((l, ps) :: S) (q14 X14) (fun _ _ => rfl)) S14 (e14 X14).1 (by omega) (by omega) (gf14 X14) (e14 X14).2 (fun o ho ex M' x4 a1 a2 a3 a4 a5 a6 => by
              have := hK o (Or.inr ⟨by omega, ρ, ρ', cp, Or.inl ⟨z, hz, ho⟩⟩) (ex1 ++ (ex2 ++ (ex3 ++ ex))) M' (by rw [(stc_app _ _).2.2, (stc_app _ _).2.2, (stc_app _ _).2.2, x1, x2, x3, x4]) a1 (by rw [← List.append_assoc, ← List.append_assoc, ← List.append_assoc]; exact a2) a3 a4 a5 a6
              rw [← List.append_assoc, ← List.append_assoc, ← List.append_assoc] at this
              exact this)
            have e2 : ((((l, ps) :: S).length : Nat) : Int) - 1 = (S.length : Int) := by simp only [List.length_cons]; omega
            rw [e2] at this
            exact this
        · have hmf' : mk = fuel := by omega
          refine hK (2, mk, P, 0) (Or.inl ⟨hmf', rfl⟩) ex1 M8 x1 G8 S8 e9 (fun z => absurd z (by show ¬ ((2 : Int) = 1); decide)) (fun _ => e5) (by show 0 ≤ (2 : Int) ∧ (2 : Int) ≤ 2; decide)
      · subst hL
        have e9 : M8 1793 9 = mk := by rw [F8.1 1793 (by omega) (by omega) (by omega) (by omega) (by omega) (by omega)]; exact h9
        have e5 : M8 1795 5 = c5 := by rw [F8.1 1795 (by omega) (by omega) (by omega) (by omega) (by omega) (by omega)]; exact h5
        have Q8 : QF S.length M M8 := F8.qf hS.2.2.2.1 (by omega)
        exact ih mk S P (e ++ ex1) M8 (turn + 1) (by omega) (by omega) (by omega) (hst.fr S Q8 (fun _ _ => rfl)) S8 e9 hmk hmf (F8.gf (by omega) hG) e5 (fun o ho ex M' x4 a b c f q r => by
          have := hK o ho (ex1 ++ ex) M' (by rw [(stc_app _ _).2.2, x1, x4]) a (by rw [← List.append_assoc]; exact b) c f q r
          rw [← List.append_assoc] at this
          exact this)
end CSEAL
