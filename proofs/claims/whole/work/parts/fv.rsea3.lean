/-! THE REFERENCE's search: its loop -/
theorem rLv.cg {M N : im_M} {j nd ls T : Int} {ac ch lt : Bk} (h : rLv M j nd ls T ac ch lt) (hs : ∀ x, 7057 ≤ x → x ≤ 7070 → N x = M x) (hp : ∀ i, i < T → N 6955 i = M 6955 i) : rLv N j nd ls T ac ch lt := by
  obtain ⟨⟨e1, e2, e3⟩, ⟨a1, a2, a3⟩, ⟨b1, b2, b3⟩, ⟨c1, c2, c3, c4⟩⟩ := h
  refine ⟨⟨by rw [hs _ (by decide) (by decide)]; exact e1, by rw [hs _ (by decide) (by decide)]; exact e2, by rw [hs _ (by decide) (by decide)]; exact e3⟩, ⟨by rw [hs _ (by decide) (by decide)]; exact a1, a2, fun i hi => ?_⟩, ⟨by rw [hs _ (by decide) (by decide)]; exact b1, b2, fun i hi => ?_⟩, ⟨by rw [hs _ (by decide) (by decide)]; exact c1, c2, c3, fun i hi => ?_⟩⟩
  · rw [hs 7061 (by decide) (by decide), hs 7062 (by decide) (by decide), hs 7063 (by decide) (by decide)]
    exact ⟨(a3 i hi).1, rnp_congr (a3 i hi).2 hp (Int.le_refl _)⟩
  · rw [hs 7065 (by decide) (by decide), hs 7066 (by decide) (by decide), hs 7067 (by decide) (by decide)]
    exact ⟨(b3 i hi).1, rnp_congr (b3 i hi).2 hp (Int.le_refl _)⟩
  · rw [hs 7069 (by decide) (by decide), hs 7070 (by decide) (by decide)]
    exact ⟨(c4 i hi).1, rnp_congr (c4 i hi).2 hp (Int.le_refl _)⟩
theorem TKL.ss {j : Nat} {M N : im_M} {R : Rw} {m : Int} {giv : Bk} {T0 T T' : Int} {l : Lv} (h : TKL N R m giv l T) (hs : SS M R m giv T0) (hF : STp j T' M N) (hT : T0 ≤ T') : SS N R m giv T0 := hs.st hF hT (fun Γ hg => KN_env h.2.2.2.1.2.1 hg) h.2.2.2.1.2.2 h.2.2.2.2.1 ⟨by rw [h.2.1.2.2.2.2.1.1]; exact h.2.1.2.2.2.2.2.1, by rw [h.2.1.2.2.2.2.1.2]; exact h.2.1.2.2.2.2.2.2⟩
section RTRY
variable {g : im_g} {d : Nat} {e : im_E} {M : im_M} {K : im_K} {R : Rw} {m : Int} {giv : Bk} {l : Lv} {T e0 : Int} {j : Nat}
/-- a try is kept and run -/
theorem c_rtry {p : Pe} {ps : List Pe} {ρ ρ' : Rl} {cp P0 : Int} {K1 : im_K} (hW : WFP R m) (hTP : TP R m e0 giv) (hd : 19 ≤ d) (hj : j < 402) (hP0 : P0 ≤ 1100000) (h : TKL M R m giv l T) (hrd : rRd M p) (hlv : lvO R m e0 l (p :: ps)) (h7 : M 6952 7 + 700 * (e0 - l.nd) + 400 * l.ac.1 ≤ P0)
    (hKs : ∀ s, trP R giv l p ρ ρ' cp = .inr s → ∀ M', (∀ x, 7042 ≤ x → (x < 7074 ∨ 7079 < x) → M' x = M x) → (∀ x q, 7042 ≤ x → q ≠ (j : Int) → M' x q = M x q) → STp j (M 6952 7) M M' → M' 6952 175 = M 6952 175 → M 6952 7 ≤ M' 6952 7 → rPe M' (M 6952 7) j p → M' 6952 84 = max p.2.2.2.2.2 l.ls → RT M' R m giv (max p.2.2.2.2.2 l.ls) p.2.2.2.2.2 1 s → OT s → VN R m s → EB R m e0 s.nd → M' 6952 7 + 700 * (e0 - s.nd) + 400 * s.acc.1 ≤ P0 → K1 (.inl (some (vI 0))) e M')
    (hKe : ∀ z, trP R giv l p ρ ρ' cp = .inl z → z < 0 → im_i32 z → ∀ M', (∀ x, 7042 ≤ x → (x < 7074 ∨ 7079 < x) → M' x = M x) → (∀ x q, 7042 ≤ x → q ≠ (j : Int) → M' x q = M x q) → STp j (M 6952 7) M M' → M' 6952 175 = M 6952 175 → RV M' M' R m giv 1 → K1 (.inl (some (vI z))) e M') :
    im_T g d 436 0 [some (.ref 6952), some (vI j)] [] e M (im_r0 (fun e_ M13 => e = e_ ∧ im_T g d 363 0 [some (.ref 6952), some (vL (M13 6952 174)), none, some (vL (M13 6952 174)), none, none, none] [] e M13 K1)) := by
  obtain ⟨hpe, hp0⟩ := hlv.2.2.2.2.2 p (List.mem_cons_self)
  obtain ⟨hp1, hp2, hp3, hp4⟩ := id hpe
  refine c_keepTry hj hpe hrd (fun N nx nq hrp => ⟨rfl, rfl, ?_⟩)
  have nk : ∀ k, N 6952 k = M 6952 k := fun k => by rw [nx 6952 (by decide)]
  obtain ⟨r46, r174, rI⟩ := hrd
  have TN : TKL N R m giv l T := by
    obtain ⟨c1, c2, ⟨c3, c4, c5⟩, ⟨c6, c6', c6''⟩, c7, c8, c9, c10⟩ := h
    refine ⟨RP_congr c1 (nk 6) (nk 36) (fun x a b => nx x (by omega)) (fun i _ => by rw [nx 6955 (by decide)]), RE_congr c2 (fun k _ _ => nk k) (fun x a b => nx x (by omega)) (fun i _ => by rw [nx 6955 (by decide)]) (Int.le_refl _), ⟨by rw [nk 6]; exact c3, c4, by rw [nk 7]; exact c5⟩, ⟨by rw [nk 102]; exact c6, KN_congr c6' (fun x a b => nx x (by omega)), by rw [nk 8]; exact c6''⟩, by rw [nk 116]; exact c7, by rw [nk 36]; exact c8, by rw [nk 83]; exact c9, by rw [nk 84]; exact c10⟩
  have SN : STp j (M 6952 7) M N := ⟨fun x a b c d f i => nx x (by omega), fun k _ => nk k, fun i _ => by rw [nx 6955 (by decide)], fun x a b q hq => nq x q (by omega), fun x a q hq => by rw [nx x (by omega)]⟩
  have e7 := nk 7
  have r174' : N 6952 174 = p.2.2.2.2.2 := by rw [nk 174]; exact r174
  rw [r174']
  have hll := hlv.2.2.1
  refine c_rrun (n0 := if p.1 = -1 then 0 else 1) (T := N 6952 7) (e0 := e0) (P := P0) (t := fun _ => p.1) (a := fun _ => p.2.1) (b := fun _ => p.2.2.1) (c := fun _ => p.2.2.2.1) (v := fun _ => p.2.2.2.2.1) (s := l.ts ρ ρ' cp) (least := l.ls) hW hTP (by omega) (by split <;> omega) hP0 (by rw [nk 46]; exact r46) TN.2.2.2.2.2.1 (Int.le_refl _) (fun k k0 k1 => ?_) TN.rt (hlv.ot ρ ρ' cp) (hlv.vn ρ ρ' cp) hlv.2.2.2.2.1 (by rw [e7]; exact h7) TN.2.2.2.2.2.2.2 hll (by constructor <;> omega) (by constructor <;> omega) (fun s hs M' U' q' C' O' V' E' P' => ?_) (fun z hz z0 M' V' => ?_)
  · by_cases z : p.1 = -1
    · rw [if_pos z] at k1; omega
    · rw [if_neg z] at k1
      have hk0 : k = 0 := by omega
      subst hk0
      obtain ⟨i1, i2, i3, i4, i5⟩ := rI z
      refine ⟨i1, i2, by rw [nx 6979 (by decide)]; exact i3, fun w => ?_, fun w => by rw [nx 6982 (by decide)]; exact i5 w⟩
      obtain ⟨y1, y2, y3⟩ := i4 w
      rw [nx 6980 (by decide), nx 6981 (by decide), nx 6983 (by decide), e7]
      exact ⟨y1, y2, rnp_congr y3 (fun i _ => by rw [nx 6955 (by decide)]) (Int.le_refl _)⟩
  · refine hKs s hs M' (fun x a b => by rw [U'.1 x (by omega) (by omega) (by omega) (by omega)]; exact nx x b) (fun x q a b => by rw [U'.1 x (by omega) (by omega) (by omega) (by omega)]; exact nq x q b) (SN.trans (U'.st (by rw [e7]; exact Int.le_refl _))) ((U'.2.1 175 (by decide) (by decide) (by decide) (by decide) (by decide) (by decide) (by decide) (by decide) (by decide) (by decide) (by decide) (by decide) (by decide) (by decide) (by decide) (by decide)).trans (nk 175)) (by have := U'.2.2.2; omega) (hrp.cg (fun x a b => by rw [U'.1 x (by omega) (by omega) (by omega) (by omega)]) (fun i hi => U'.2.2.1 i (by rw [e7]; exact hi)) (Int.le_refl _)) q' C' O' V' E' P'
  · have hz2 := runO_rng hz
    refine hKe z hz z0 (by constructor <;> omega) M' (fun x a b => by rw [V'.1.1 x (by omega) (by omega) (by omega) (by omega)]; exact nx x b) (fun x q a b => by rw [V'.1.1 x (by omega) (by omega) (by omega) (by omega)]; exact nq x q b) (SN.trans (V'.1.st (by rw [e7]; exact Int.le_refl _))) ((V'.1.2.1 175 (by decide) (by decide) (by decide) (by decide) (by decide) (by decide) (by decide) (by decide) (by decide) (by decide) (by decide) (by decide) (by decide) (by decide) (by decide) (by decide)).trans (nk 175)) ⟨RU.rf _, V'.2⟩
end RTRY
section RSEA
variable {g : im_g} {d : Nat} {e : im_E} {K : im_K} {R : Rw} {m : Int} {giv : Bk} {e0 : Int}
theorem l_rsearch {mask fuel T0 P0 : Int} {M0 : im_M} {o : Int × Int × (Nat → Pe) × Nat} {L0 : List Int} (hW : WFP R m) (hTP : TP R m e0 giv) (hn : ∀ j, 0 ≤ j → j < m → R 4 j ≤ 9223372036854775807 ∧ R 5 j ≤ 9223372036854775807 ∧ R 6 j ≤ 9223372036854775807) (hd : 20 ≤ d) (hP0 : P0 ≤ 1100000) (hfu : 0 ≤ fuel ∧ fuel ≤ 400) (hOL : rOL M0 L0)
    (hK : ∀ M1 M', STp 0 T0 M0 M1 → SS M1 R m giv T0 → qF M1 M' → M1 6952 175 = o.2.1 → (o.1 = 1 → rOL M' (ltk L0 (paT o.2.2.1 o.2.2.2))) → (o.1 ≠ 1 → M' = M1) → K (.inl (some (vI o.1))) e M') :
    ∀ (N : Nat) (mk : Int) (S : List (Lv × List Pe)) (P : Nat → Pe) (U : Int) (M : im_M), srS R giv mask fuel N mk S P o → rStk M R m e0 giv T0 P0 P U S → SS M R m giv T0 → M 6952 175 = mk → 0 ≤ mk → mk ≤ fuel → STp 0 T0 M0 M → im_T g d 430 7 [some (.ref 6952), some (vI mask), some (vI fuel), some (vI ((S.length : Int) - 1)), none] [] e M K := by
  have hTn : ∀ n, 0 ≤ n → n < m → EB R m e0 n → R 0 n = 3 → R 5 n ≠ 0 → 0 ≤ hld giv (R 5 n) 0 ∧ hld giv (R 5 n) 0 ≤ 1000000000000000 := fun n a b c f h5 => hTP n a b f c.lt (fun i i1 i2 => c.2 i i1 i2) h5
  intro N
  induction N with
  | zero => intro mk S P U M h; exact absurd h (fun z => z)
  | succ N ih =>
    intro mk S P U M h hS hSS h175 hmk hmf hF0
    cases S with
    | nil =>
      have h : o = (0, mk, P, 0) := h
      refine b_search_7 (by omega) ⟨by decide, fun _ => ?_, fun z => absurd z (by decide)⟩
      rw [h] at hK
      exact hK M M hF0 hSS ⟨fun _ _ _ => rfl, fun _ _ => rfl⟩ h175 (fun z => absurd z (by show ¬ ((0 : Int) = 1); decide)) (fun _ => rfl)
    | cons x S =>
      obtain ⟨l, L⟩ := x
      have hlen : (((l, L) :: S).length : Int) - 1 = (S.length : Int) := by simp only [List.length_cons]; omega
      rw [hlen]
      obtain ⟨T, hT, hrl, hcu, hlv, hmu, hpot, hpa, hst⟩ := hS
      dsimp only at hrl hcu hlv hmu hpot
      have n0 := hlv.2.1.1
      have n1 := hlv.2.1.2.1
      have hE := hlv.2.2.2.2.1
      have hElt := hE.lt
      have hmu0 : 0 ≤ mu R l := by
        unfold mu
        have := (hW.2.2 l.nd n0 n1).2.2.1
        (repeat' split) <;> omega
      have hSl : S.length ≤ 103 := by omega
      refine b_search_7 (by omega) ⟨by constructor <;> omega, fun z => by omega, fun _ => ?_⟩
      refine c_takeLevel (by omega) hrl (fun M3 K3 k3 b3 c3 l3 => ⟨rfl, rfl, ?_⟩)
      have T3 : TKL M3 R m giv l T := hSS.tk K3 hT.1 hlv.2.2.1 k3 b3 c3 l3
      have F3 : STp S.length T M M3 := K3.st
      have cu3 : rCu M3 R m giv S.length l L := hcu.cg (fun x a b => by rw [K3.1 x (by omega) (by omega)])
      have rl3 : rLv M3 S.length l.nd l.ls T l.ac l.ch l.lt := hrl.cg (fun x a b => by rw [K3.1 x (by omega) (by omega)]) (fun i _ => by rw [K3.1 6955 (by decide) (by decide)])
      have k175 : M3 6952 175 = mk := by rw [K3.2 175 (by decide) (by decide) (by decide) (by decide) (by decide) (by decide) (by decide) (by decide) (by decide) (by decide)]; exact h175
      refine c_offer hW (by omega) (by omega) n0 n1 (hTn l.nd n0 n1 hE) hE (by omega) T3 cu3 k3.2.2.1 k3.2.2.2.2.2.1 k3.2.2.2.2.2.2 (fun M4 p ps hL F4 t4 T4 rd4 cu4 => ⟨_, rfl, rfl, by decide, fun _ => ⟨by constructor <;> omega, ?_⟩, fun z => absurd z (by decide)⟩) (fun hL => ⟨_, rfl, rfl, by decide, fun z => absurd rfl z, fun _ => ?_⟩)
      · subst hL
        have F04 : STp S.length T M M4 := F3.trans (F4.st (by rw [k3.2.2.1]; exact Int.le_refl _))
        have SS4 := T4.ss hSS F04 hT.1
        have k175' : M4 6952 175 = mk := by rw [F4.2.2.1 175 (by decide) (by decide) (by decide) (by decide) (by decide) (by decide)]; exact k175
        have rl4 : rLv M4 S.length l.nd l.ls T l.ac l.ch l.lt := rl3.cg (fun x a b => F4.1 x (by omega) (by omega) (by omega) (by omega) (by omega)) (fun i hi => F4.2.2.2.1 i (by rw [k3.2.2.1]; exact hi))
        rw [k175']
        have h : (mk = fuel ∧ o = (2, mk, P, 0)) ∨ (mk ≠ fuel ∧ ∃ ρ ρ' cp, (∃ z, trP R giv l p ρ ρ' cp = .inl z ∧ srS R giv mask fuel N (mk + 1) ((l, ps) :: S) (upP P S.length p) o) ∨ ∃ s, trP R giv l p ρ ρ' cp = .inr s ∧ ((fnd mask s.wrn ∧ o = (1, mk + 1, upP P S.length p, S.length + 1)) ∨ (¬ fnd mask s.wrn ∧ srS R giv mask fuel N (mk + 1) ((s.lv (max p.2.2.2.2.2 l.ls), ofs R giv (s.lv (max p.2.2.2.2.2 l.ls))) :: (l, ps) :: S) (upP P S.length p) o))) := h
        rcases h with ⟨h1, h2⟩ | ⟨h1, ρ, ρ', cp, h2⟩
        · refine ⟨fun z => absurd h1 z, fun _ => ?_⟩
          rw [h2] at hK
          exact hK M4 M4 (hF0.trans (F04.wk (Nat.zero_le _) hT.1)) SS4 ⟨fun _ _ _ => rfl, fun _ _ => rfl⟩ k175' (fun z => absurd z (by show ¬ ((2 : Int) = 1); decide)) (fun _ => rfl)
        · refine ⟨fun _ => ⟨by constructor <;> omega, ?_⟩, fun z => absurd z h1⟩
          -- the count
          have F5 : STp S.length T M4 (im_u M4 6952 175 (mk + 1)) := (STp.rf _ _ _).f (Or.inr rfl)
          have ux : ∀ x, x ≠ 6952 → im_u M4 6952 175 (mk + 1) x = M4 x := fun x a => im_u_ne _ _ _ a
          have uk : ∀ k, k ≠ 175 → im_u M4 6952 175 (mk + 1) 6952 k = M4 6952 k := fun k a => im_rdk _ _ _ a
          have u175 : im_u M4 6952 175 (mk + 1) 6952 175 = mk + 1 := im_rds _ _ _ _
          generalize im_u M4 6952 175 (mk + 1) = M5 at F5 ux uk u175 ⊢
          have T5 : TKL M5 R m giv l T := by
            obtain ⟨c1, c2, ⟨c3, c4, c5⟩, ⟨c6, c6', c6''⟩, c7, c8, c9, c10⟩ := T4
            refine ⟨RP_congr c1 (uk 6 (by decide)) (uk 36 (by decide)) (fun x a b => ux x (by omega)) (fun i _ => by rw [ux 6955 (by decide)]), RE_congr c2 (fun k _ _ => uk k (by omega)) (fun x a b => ux x (by omega)) (fun i _ => by rw [ux 6955 (by decide)]) (Int.le_refl _), ⟨by rw [uk 6 (by decide)]; exact c3, c4, by rw [uk 7 (by decide)]; exact c5⟩, ⟨by rw [uk 102 (by decide)]; exact c6, KN_congr c6' (fun x a b => ux x (by omega)), by rw [uk 8 (by decide)]; exact c6''⟩, by rw [uk 116 (by decide)]; exact c7, by rw [uk 36 (by decide)]; exact c8, by rw [uk 83 (by decide)]; exact c9, by rw [uk 84 (by decide)]; exact c10⟩
          have rd5 : rRd M5 p := by
            obtain ⟨r1, r2, r3⟩ := rd4
            refine ⟨by rw [uk 46 (by decide)]; exact r1, by rw [uk 174 (by decide)]; exact r2, fun z => ?_⟩
            obtain ⟨i1, i2, i3, i4, i5⟩ := r3 z
            refine ⟨i1, i2, by rw [ux 6979 (by decide)]; exact i3, fun w => ?_, fun w => by rw [ux 6982 (by decide)]; exact i5 w⟩
            obtain ⟨y1, y2, y3⟩ := i4 w
            rw [ux 6980 (by decide), ux 6981 (by decide), ux 6983 (by decide), uk 7 (by decide)]
            exact ⟨y1, y2, rnp_congr y3 (fun i _ => by rw [ux 6955 (by decide)]) (Int.le_refl _)⟩
          have F05 := F04.trans F5
          have SS5 := T5.ss hSS F05 hT.1
          have t5 : M5 6952 7 = M4 6952 7 := uk 7 (by decide)
          have t5T : T ≤ M5 6952 7 := T5.2.2.1.2.2
          have cu5 : rCu M5 R m giv S.length l ps := cu4.cg (fun x a b => by rw [ux x (by omega)])
          have rl5 : rLv M5 S.length l.nd l.ls T l.ac l.ch l.lt := rl4.cg (fun x a b => ux x (by omega)) (fun i _ => by rw [ux 6955 (by decide)])
          have hup : ∀ i, i < S.length → upP P S.length p i = P i := fun i hi => by unfold upP; rw [if_neg (by omega)]
          have hupj : upP P S.length p S.length = p := by unfold upP; rw [if_pos rfl]
          obtain ⟨hpe, hp0⟩ := hlv.2.2.2.2.2 p (List.mem_cons_self)
          -- the levels after a run
          have back : ∀ (M' : im_M), (∀ x, 7042 ≤ x → (x < 7074 ∨ 7079 < x) → M' x = M5 x) → (∀ x q, 7042 ≤ x → q ≠ (S.length : Int) → M' x q = M5 x q) → STp S.length (M5 6952 7) M5 M' → rStk M' R m e0 giv T0 P0 (upP P S.length p) T ((l, ps) :: S) := by
            intro M' fx fq F6
            have F06 : STp S.length T M M' := F05.trans (F6.wk (Nat.le_refl _) t5T)
            refine ⟨T, ⟨hT.1, Int.le_refl _⟩, rl5.cg (fun x a b => fx x (by omega) (by omega)) (fun i hi => F6.2.2.1 i (by omega)), cu5.cg (fun x a b => by rw [fx x (by omega) (by omega)]), hlv.tl, hmu, hpot, fun i hi => ?_, hst.fr S F06 (Nat.le_refl _) (Int.le_refl _) hup⟩
            rw [hup i (by omega)]
            have h8 := hpa i hi
            exact ⟨h8.1.cg (fun y a b => F06.2.2.2.1 y (by omega) b _ (by omega)) (fun i hi => F06.2.2.1 i hi) (Int.le_refl _), h8.2⟩
          refine c_rtry (P0 := P0 - 2416 * (103 - S.length)) (ps := ps) (ρ := ρ) (ρ' := ρ') (cp := cp) hW hTP (by omega) (by omega) (by omega) T5 rd5 hlv (by omega) (fun s hs M6 fx fq F6 g6 t6 rp6 q84 C6 O6 V6 E6 P6 => ⟨_, rfl, rfl, by decide, fun _ => ?_, fun z => absurd z (by decide)⟩) (fun z hz z0 zi M6 fx fq F6 g6 V6 => ⟨_, rfl, rfl, zi, fun w => by omega, fun _ => ?_⟩)
          · have h3 : (fnd mask s.wrn ∧ o = (1, mk + 1, upP P S.length p, S.length + 1)) ∨ (¬ fnd mask s.wrn ∧ srS R giv mask fuel N (mk + 1) ((s.lv (max p.2.2.2.2.2 l.ls), ofs R giv (s.lv (max p.2.2.2.2.2 l.ls))) :: (l, ps) :: S) (upP P S.length p) o) := by
              rcases h2 with ⟨z, h3, _⟩ | ⟨s2, h3, h4⟩
              · rw [hs] at h3; cases h3
              · rw [hs] at h3
                have : s = s2 := Sum.inr.inj h3
                rw [this]; exact h4
            have F06 : STp S.length T M M6 := F05.trans (F6.wk (Nat.le_refl _) t5T)
            have F006 : STp 0 T0 M0 M6 := hF0.trans (F06.wk (Nat.zero_le _) hT.1)
            have hk6 : ∀ Γ : Env, Γ.2.2.2.1 = giv → KN M6 R m Γ := fun Γ hg => by
              rcases C6.2.2.2.2.1.2.1 with z | z
              · exact absurd z (by decide)
              · exact KN_env z.2 hg
            have s96 : s9 M6 := ⟨by rw [C6.2.1.2.2.2.2.1.1]; exact C6.2.1.2.2.2.2.2.1, by rw [C6.2.1.2.2.2.2.1.2]; exact C6.2.1.2.2.2.2.2.2⟩
            have SS6 : SS M6 R m giv T0 := hSS.st F06 hT.1 hk6 C6.2.2.2.2.1.2.2 ⟨C6.2.2.2.2.2.1.1, C6.2.2.2.2.2.1.2.1⟩ s96
            have k6 : M6 6952 175 = mk + 1 := g6.trans u175
            have hT6 : T ≤ M6 6952 7 := by omega
            refine c_risFound C6.2.2.2.2.2.2.2 (fun hf => ⟨_, rfl, rfl, by decide, fun z => absurd z (by decide), fun _ => ?_⟩) (fun hf => ⟨_, rfl, rfl, by decide, fun _ => ?_, fun z => absurd rfl z⟩)
            · have ho : o = (1, mk + 1, upP P S.length p, S.length + 1) := by
                rcases h3 with h4 | h4
                · exact h4.2
                · exact absurd hf h4.1
              have hbk := back M6 fx fq F6
              have h7le : M6 6952 7 ≤ 1100000 := by have := E6.lt; omega
              refine c_tellAllR (P := upP P S.length p) (T := M6 6952 7) (L := L0) (by omega) (fun i hi => ?_) h7le ?_ (by omega) (fun M7 F7 o7 => ?_)
              · by_cases z : i = S.length
                · rw [z, hupj]
                  exact ⟨hpe, rp6.cg (fun _ _ _ => rfl) (fun _ _ => rfl) t6⟩
                · have h8 := (rStk.pa ((l, ps) :: S) (hbk.le hT6)) i (by simp only [List.length_cons]; omega)
                  exact ⟨h8.2, h8.1⟩
              · obtain ⟨o1, o2, o3⟩ := hOL
                exact ⟨by rw [F006.2.1 4 (by decide)]; exact o1, fun i a b => by rw [F006.1 6954 (by decide) (by decide) (by decide) (by decide) (by decide) (by decide)]; exact o2 i a b, o3⟩
              · rw [ho] at hK
                exact hK M6 M7 F006 SS6 F7 k6 (fun _ => o7) (fun z => absurd rfl z)
            · have hsr : srS R giv mask fuel N (mk + 1) ((s.lv (max p.2.2.2.2.2 l.ls), ofs R giv (s.lv (max p.2.2.2.2.2 l.ls))) :: (l, ps) :: S) (upP P S.length p) o := by
                rcases h3 with h4 | h4
                · exact absurd h4.1 hf
                · exact h4.2
              have hmu' := trP_mu (t := max p.2.2.2.2.2 l.ls) hW hlv hp0 hs
              have hls : 0 ≤ max p.2.2.2.2.2 l.ls ∧ max p.2.2.2.2.2 l.ls ≤ 1000000000000000 := by
                have := hlv.2.2.1
                have := hpe.2.2.2
                omega
              have hElt6 := E6.lt
              have hmus : 0 ≤ mu R (s.lv (max p.2.2.2.2.2 l.ls)) := by
                unfold mu
                have := (hW.2.2 s.nd V6.1 V6.2.1).2.2.1
                show 0 ≤ if R 0 s.nd = 0 then (if s.acc.1 = 0 then (0 : Int) else 1) else 103 - R 1 s.nd
                (repeat' split) <;> omega
              generalize hst' : max p.2.2.2.2.2 l.ls = st' at hsr hmu' hls q84 C6 hmus
              have KP : KPL M6 R m giv (s.lv st') (M6 6952 7) := ⟨C6.1, ⟨_, _, C6.2.1⟩, ⟨C6.2.2.1.2, rfl⟩, C6.2.2.2.1.1, q84⟩
              have e1 : ((S.length : Int) + 1) = ((S.length + 1 : Nat) : Int) := by omega
              rw [e1]
              refine c_keepLevel hW (by omega) (by omega) KP (by omega) V6.1 V6.2.1 V6.2.2 (hTn s.nd V6.1 V6.2.1 E6) (fun M8 x8 k8 y8 F8 rl8 cu8 => ⟨rfl, rfl, ?_⟩)
              have hac : s.acc.1 ≤ 40 := C6.2.1.1.2.1
              have pl8 : ∀ i, i < M6 6952 7 → M8 6955 i = M6 6955 i := fun i hi => F8.2.2.1 i hi
              have hbk := back M6 fx fq F6
              have rs8 : rStk M8 R m e0 giv T0 P0 (upP P S.length p) (M6 6952 7) ((s.lv st', ofs R giv (s.lv st')) :: (l, ps) :: S) := by
                refine ⟨M6 6952 7, ⟨by omega, Int.le_refl _⟩, rl8, cu8, ⟨⟨O6.1, O6.2.1, O6.2.2.1⟩, V6, hls, hac, E6, ofs_ok hW hn V6.1 V6.2.1 hls (hTn s.nd V6.1 V6.2.1 E6)⟩, ?_, ?_, fun i hi => ?_, ?_⟩
                · show mu R (s.lv st') + ((((l, ps) :: S).length : Nat) : Int) ≤ 103
                  simp only [List.length_cons]
                  omega
                · show M6 6952 7 + 700 * (e0 - s.nd) + 400 * s.acc.1 + 2416 * (104 - ((((l, ps) :: S).length : Nat) : Int)) ≤ P0
                  simp only [List.length_cons]
                  omega
                · have hi : S.length + 1 = i + 1 := hi
                  have hi' : i = S.length := by omega
                  rw [hi', hupj]
                  exact ⟨rp6.cg (fun x a b => by rw [x8 x (by omega) (by omega) (by omega)]) (fun i hi => pl8 i (by omega)) t6, hpe⟩
                · exact (hbk.fr ((l, ps) :: S) F8 (by simp only [List.length_cons]; omega) hT6 (fun _ _ => rfl)).le hT6
              have k8' : M8 6952 175 = mk + 1 := (k8 175 (by decide) (by decide) (by decide) (by decide)).trans k6
              have SS8 : SS M8 R m giv T0 := SS6.st F8 (by omega) (fun Γ hg => KN_congr (hk6 Γ hg) (fun x a b => x8 x (by omega) (by omega) (by omega))) (by rw [y8.2]; exact C6.2.2.2.2.1.2.2) (by rw [k8 116 (by decide) (by decide) (by decide) (by decide)]; exact ⟨C6.2.2.2.2.2.1.1, C6.2.2.2.2.2.1.2.1⟩) ⟨by rw [k8 99 (by decide) (by decide) (by decide) (by decide)]; exact s96.1, by rw [k8 100 (by decide) (by decide) (by decide) (by decide)]; exact s96.2⟩
              have := ih (mk + 1) _ _ (M6 6952 7) M8 hsr rs8 SS8 k8' (by omega) (by omega) (F006.trans (F8.wk (Nat.zero_le _) (by omega)))
              have e2 : ((((s.lv st', ofs R giv (s.lv st')) :: (l, ps) :: S).length : Nat) : Int) - 1 = ((S.length + 1 : Nat) : Int) := by simp only [List.length_cons]; omega
              rw [e2] at this
              exact this
          · have h3 : srS R giv mask fuel N (mk + 1) ((l, ps) :: S) (upP P S.length p) o := by
              rcases h2 with ⟨z2, h3, h4⟩ | ⟨s2, h3, h4⟩
              · exact h4
              · rw [hz] at h3; cases h3
            have F06 : STp S.length T M M6 := F05.trans (F6.wk (Nat.le_refl _) t5T)
            have hk6 : ∀ Γ : Env, Γ.2.2.2.1 = giv → KN M6 R m Γ := fun Γ hg => by
              rcases V6.2.2.2.1 with z | z
              · exact absurd z (by decide)
              · exact z.2 Γ hg
            have SS6 : SS M6 R m giv T0 := hSS.st F06 hT.1 hk6 V6.2.2.1 V6.2.2.2.2.1 V6.2.2.2.2.2
            have := ih (mk + 1) _ _ T M6 h3 (back M6 fx fq F6) SS6 (g6.trans u175) (by omega) (by omega) (hF0.trans (F06.wk (Nat.zero_le _) hT.1))
            have e2 : ((((l, ps) :: S).length : Nat) : Int) - 1 = (S.length : Int) := by simp only [List.length_cons]; omega
            rw [e2] at this
            exact this
      · subst hL
        have h : srS R giv mask fuel N mk S P o := h
        have := ih mk S P T M3 h (hst.fr S F3 (Nat.le_refl _) (Int.le_refl _) (fun _ _ => rfl)) (T3.ss hSS F3 hT.1) k175 hmk hmf (hF0.trans (F3.wk (Nat.zero_le _) hT.1))
        exact this
end RSEA
