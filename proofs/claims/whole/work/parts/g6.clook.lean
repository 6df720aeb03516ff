/-! THE CLASS looks ahead -/
theorem CW.lk {M N : im_M} {e e' : im_E} {w : Wd} {L : List Int} {md E : Int} {giv : Bk} {bp k : Nat} (h : CW M e w 0) (hs : ∀ x, (x < 7 ∨ 12 < x) → (x < 666 ∨ 925 ≤ x) → (x < 931 ∨ 935 < x) → (x < 1207 ∨ 2061 < x) → x < 7082 → N x = M x) (ho : cOL N L) (h11 : ∃ v, cn N 11 v) (hd : cbx N 667 40 ∧ cbx N 753 40 ∧ cbx N 839 40) (hS : CSW N e' w.gRw w.gM E giv bp) (h5 : N 1795 5 = (k : Int) ∧ k ≤ 128) (h9 : N 1793 9 = md) : CW N e' ((ouW w L).sMd md) 0 := by
  obtain ⟨⟨⟨t1, t2, t3⟩, _, ⟨f1, f2⟩, kw⟩, ⟨p, r, i⟩, ⟨b1, b2, b3⟩, ⟨r1, r2⟩, _, ⟨j0, j1, j2, j3, j4⟩, ⟨_, ⟨⟨I, kk, s1, s2⟩, ⟨w1, s3⟩, _, ⟨w3, s5⟩⟩⟩, ag⟩ := h
  obtain ⟨⟨c1, c2, c3, c4, c5, c6⟩, ⟨c7, c8⟩, _, c10, ⟨pn, w2, c11⟩⟩ := hS
  have hx : ∀ x, (x < 7 ∨ (13 ≤ x ∧ x < 666) ∨ (2062 ≤ x ∧ x < 6952)) → N x = M x := fun x hx => hs x (by omega) (by omega) (by omega) (by omega) (by omega)
  have e13 := hx 13 (by omega)
  refine ⟨⟨⟨by rw [hx 0 (by omega)]; exact t1, by rw [hx 1 (by omega)]; exact t2, t3⟩, ho, ⟨by rw [hx 2 (by omega)]; exact f1, by rw [hx 2 (by omega)]; exact f2⟩, fun q a b => by rw [hx 3 (by omega)]; exact kw q a b⟩, ⟨cPool_congr p (fun x a b => hx x (by omega)) (Int.le_refl _), fun q a b => by rw [hx 28 (by omega)]; exact r q a b, fun q hq => ⟨by rw [hx 29 (by omega)]; exact (i q hq).1, ?_⟩⟩, ⟨cb_congr b1 (fun x a b => hx x (by omega)), cb_congr b2 (fun x a b => hx x (by omega)), cb_congr b3 (fun x a b => hx x (by omega))⟩, ⟨rw6_congr r1 (fun x a b => hx x (by omega)), rw6_congr r2 (fun x a b => hx x (by omega))⟩, ⟨h9, ⟨N 1796, N 1797, N 1798, N 1799, ?_⟩, ⟨w2, c11⟩, c10⟩, ⟨by rw [hx 2069 (by omega)]; exact j0, by rw [hx 2068 (by omega)]; exact j1, by rw [hx 2068 (by omega)]; exact j2, by rw [hx 2068 (by omega)]; exact j3, by rw [hx 2068 (by omega)]; exact j4⟩, ⟨⟨hd, c2, c3, c4, c5, c6, c7, c8⟩, ⟨⟨I, kk, s1, crw_congr s2 (fun x a b => hx x (by omega))⟩, ⟨w1, cn_congr s3 (hx _ (by omega)) (hx _ (by omega))⟩, h11, ⟨w3, cn_congr s5 (hx _ (by omega)) (hx _ (by omega))⟩⟩⟩, by rw [hx 0 (by omega)]; exact ag⟩
  · obtain ⟨⟨u1, u2, u3⟩, u4, u5, u6, u7⟩ := (i q hq).2
    have hq' : ∀ x, 2072 + 305 * q ≤ x → x < 2072 + 305 * q + 305 → N x = M x := fun x a b => hx x (by omega)
    exact ⟨⟨by rw [hq' _ (by omega) (by omega)]; exact u1, by rw [hq' _ (by omega) (by omega)]; exact u2, by rw [hq' _ (by omega) (by omega)]; exact u3⟩, cb_congr u4 (fun x a b => hq' x (by omega) (by omega)), cb_congr u5 (fun x a b => hq' x (by omega) (by omega)), cb_congr u6 (fun x a b => hq' x (by omega) (by omega)), cb_congr u7 (fun x a b => hq' x (by omega) (by omega))⟩
  · have hex : ∃ V : Int → Int, ∀ i : Nat, i < 128 → cn N (1795 + 6 + 2 * i) (V i) := ⟨fun z => if hz : z.toNat < 128 then Classical.choose (pn z.toNat hz).2 else 0, fun i hi => by
      have : ((i : Int)).toNat < 128 := by omega
      show cn N (1795 + 6 + 2 * i) (if hz : ((i : Int)).toNat < 128 then Classical.choose (pn ((i : Int)).toNat hz).2 else 0)
      rw [dif_pos this]
      have h2 := Classical.choose_spec (pn ((i : Int)).toNat this).2
      exact h2⟩
    obtain ⟨V, hV⟩ := hex
    exact ⟨V, Or.inr ⟨k, h5.1, h5.2, fun i hi => (pn i hi).1, fun i _ => ⟨rfl, rfl, rfl, rfl⟩, hV⟩⟩
section CLOOK
variable {g : im_g} {d : Nat} {e : im_E} {M N : im_M} {K : im_K} {w : Wd}
/-- the search, once what it begins with lies in the draft -/
theorem c_clkGo {mask fuel e0 : Int} {giv : Bk} {l : Lv} {bp : Nat} (h : CW M e w 0) (hW : WFP w.gRw w.gM) (hTP : TP w.gRw w.gM e0 giv) (hn : ∀ j, 0 ≤ j → j < w.gM → w.gRw 4 j ≤ 9223372036854775807 ∧ w.gRw 5 j ≤ 9223372036854775807 ∧ w.gRw 6 j ≤ 9223372036854775807) (hlv : lvO w.gRw w.gM e0 l []) (hfu : 0 ≤ fuel ∧ fuel ≤ 400) (hbp : bpO bp) (hbk : bkN e bp 20) (hbc : cb M bp 20 giv) (hd : 120 ≤ d)
    (hN : ∀ x, (x < 666 ∨ 925 ≤ x) → N x = M x) (d1 : cb N 667 40 l.ac) (d2 : cb N 753 40 l.ch) (d3 : cb N 839 40 l.lt) (d5 : N 666 5 = l.nd) (d4 : N 666 4 = l.ls)
    (hK : ∀ o, srS w.gRw giv mask fuel 803 0 [(l, ofs w.gRw giv l)] (fun _ => (0, 0, 0, 0, 0, 0)) o → ∀ (ex : im_E) M', xcn ex = 0 → (∀ x, 6952 ≤ x → x < 7082 → M' x = M x) → CW M' (e ++ ex) (lkW w o) 0 → K (.inl (some (vI o.1))) (e ++ ex) M') :
    im_T g d 238 0 [some (.ref 1793), some (.ref 666), some (.ref bp), some (vI mask), some (vI fuel), none, none, none, none] [] e N (im_ri (fun x435 e434 M433 => im_T g d 22 0 [some (.ref 7)] [] e434 M433 (im_r0 (fun  e_ M436 => e434 = e_ ∧ (im_i32 x435) ∧ ((¬ x435 = 1 → K (.inl (some (vI x435))) e434 M436) ∧ (x435 = 1 → im_T g d 246 0 [some (.ref 1793), some (.ref 7), none, none] [] e434 M436 (im_r0 (fun  e_ M439 => e434 = e_ ∧ K (.inl (some (vI x435))) e434 M439)))))))) := by
  obtain ⟨⟨_, _, _, kw⟩, ⟨⟨p1, p2, p3⟩, _, _⟩, _, _, ⟨_, ⟨T, A, B, C, V, hrow⟩, ⟨w2, c2060⟩, hlev⟩, _, ⟨⟨_, m2, m3, m4, m5, m6, m7, m8⟩, ⟨_, _, h11, _⟩⟩, _⟩ := id h
  obtain ⟨kr, hrow⟩ : ∃ k, crw M 1795 128 k T A B C V := by
    rcases hrow with z | z
    · exact ⟨0, z⟩
    · exact z
  have ux : ∀ x, x ≠ 1793 → im_u (im_u N 1793 8 (bp : Int)) 1793 9 0 x = N x := fun x a => by rw [im_u_ne _ _ _ a, im_u_ne _ _ _ a]
  have u9 : im_u (im_u N 1793 8 (bp : Int)) 1793 9 0 1793 9 = 0 := im_rds _ _ _ _
  have u8 : im_u (im_u N 1793 8 (bp : Int)) 1793 9 0 1793 8 = (bp : Int) := by rw [im_rdk _ _ _ (by decide), im_rds]
  refine k_Search_run_0 st_666.1 hbk.1 (by omega) ?_
  generalize im_u (im_u N 1793 8 (bp : Int)) 1793 9 0 = B1 at ux u9 u8
  have bx : ∀ x, x ≠ 1793 → (x < 666 ∨ 925 ≤ x) → B1 x = M x := fun x a b => (ux x a).trans (hN x b)
  have lvB : cLv B1 e := hlev.cg (bx 1794 (by decide) (by decide)) (fun x hx => bx x (by omega) (by omega))
  refine c_level (j := 0) (by decide) lvB (by omega) (fun a ex1 M1 hq1 h94 h94' h1 lv1 _ => ⟨_, rfl, ex1, rfl, (lv1.at (j := 0) (by decide) h94).2.1.1, ?_⟩)
  obtain ⟨a82, sta, xa1, xa2, xa3⟩ := lv1.at (j := 0) (by decide) h94
  have x1 : ∀ x, x ≠ 1793 → x ≠ 1794 → (x < a ∨ a + 265 ≤ x) → M1 x = N x := fun x p q r => (h1 x q r).trans (ux x p)
  refine c_scopy (a := a) (p := 666) sta (stN_app st_666) xa1 xa2 xa3 (cb_congr d1 (fun x p q => x1 x (by omega) (by omega) (by omega))) (cb_congr d2 (fun x p q => x1 x (by omega) (by omega) (by omega))) (cb_congr d3 (fun x p q => x1 x (by omega) (by omega) (by omega))) (by omega) (by omega) (fun M6 h6 _ q4 q5 e1 e2 e3 => ⟨rfl, rfl, ?_⟩)
  have x6 : ∀ x, x ≠ 1793 → x ≠ 1794 → (x < a ∨ a + 265 ≤ x) → M6 x = N x := fun x p q r => (h6 x (by omega)).trans (x1 x p q r)
  have f94 : M6 1794 = M1 1794 := h6 1794 (by omega)
  have lv6 : cLv M6 (e ++ ex1) := lv1.fr (j := 0) (by decide) h94 f94 ⟨_, e1⟩ ⟨_, e2⟩ ⟨_, e3⟩ (fun x p q => h6 x (by omega))
  have s8 : M6 1793 8 = (bp : Int) := by rw [h6 1793 (by omega), h1 1793 (by omega) (by omega)]; exact u8
  have s9' : M6 1793 9 = 0 := by rw [h6 1793 (by omega), h1 1793 (by omega) (by omega)]; exact u9
  have vx : ∀ x, x ≠ 2058 → im_u M6 2058 0 (-1) x = M6 x := fun x a => im_u_ne _ _ _ a
  have v58 : im_u M6 2058 0 (-1) 2058 0 = -1 := im_rds _ _ _ _
  generalize im_u M6 2058 0 (-1) = M7 at vx v58
  have x7 : ∀ x, x ≠ 1793 → x ≠ 1794 → x ≠ 2058 → (x < a ∨ a + 265 ≤ x) → M7 x = N x := fun x p q s r => (vx x s).trans (x6 x p q r)
  have y7 : ∀ x, x ≠ 1793 → x ≠ 1794 → x ≠ 2058 → (x < 666 ∨ 925 ≤ x) → x < 7082 → M7 x = M x := fun x p q s t r => (x7 x p q s (by omega)).trans (hN x t)
  have lv7 : cLv M7 (e ++ ex1) := lv6.cg (vx 1794 (by decide)) (fun x hx => vx x (by omega))
  have S7 : CSW M7 (e ++ ex1) w.gRw w.gM (M 13 10) giv bp := by
    obtain ⟨ρ, m4⟩ := m4
    obtain ⟨ρ', m5⟩ := m5
    obtain ⟨w6, m6⟩ := m6
    refine ⟨⟨CP_congr p1 (fun x p q => y7 x (by omega) (by omega) (by omega) (by omega) (by omega)), m2.congr (y7 932 (by decide) (by decide) (by decide) (by decide) (by decide)) (fun x p q => y7 x (by omega) (by omega) (by omega) (by omega) (by omega)), cbx_congr m3 (fun x p q => y7 x (by omega) (by omega) (by omega) (by omega) (by omega)), ⟨ρ, rw6_congr m4 (fun x p q => y7 x (by omega) (by omega) (by omega) (by omega) (by omega))⟩, ⟨ρ', rw6_congr m5 (fun x p q => y7 x (by omega) (by omega) (by omega) (by omega) (by omega))⟩, ⟨w6, cn_congr m6 (y7 _ (by decide) (by decide) (by decide) (by decide) (by decide)) (y7 _ (by decide) (by decide) (by decide) (by decide) (by decide))⟩⟩, ⟨by rw [y7 931 (by decide) (by decide) (by decide) (by decide) (by decide)]; exact m7, by rw [y7 931 (by decide) (by decide) (by decide) (by decide) (by decide)]; exact m8⟩, ⟨bkN_app hbk, cb_congr hbc (fun x p q => y7 x (by omega) (by omega) (by omega) (by omega) (by omega)), by rw [vx 1793 (by decide)]; exact s8⟩, lv7, ⟨fun i hi => ⟨by rw [y7 1800 (by decide) (by decide) (by decide) (by decide) (by decide)]; exact hrow.2.2.1 i hi, V i, cn_congr (hrow.2.2.2.2 i hi) (y7 _ (by omega) (by omega) (by omega) (by omega) (by omega)) (y7 _ (by omega) (by omega) (by omega) (by omega) (by omega))⟩, w2, cn_congr c2060 (y7 _ (by decide) (by decide) (by decide) (by decide) (by decide)) (y7 _ (by decide) (by decide) (by decide) (by decide) (by decide))⟩⟩
  have hmu : mu w.gRw l ≤ 103 := by
    unfold mu
    have := (hW.2.2 l.nd hlv.2.1.1 hlv.2.1.2.1).2.2.1
    (repeat' split) <;> omega
  have hTn : w.gRw 0 l.nd = 3 → w.gRw 5 l.nd ≠ 0 → 0 ≤ hld giv (w.gRw 5 l.nd) 0 ∧ hld giv (w.gRw 5 l.nd) 0 ≤ 1000000000000000 := fun f h5 => hTP l.nd hlv.2.1.1 hlv.2.1.2.1 f hlv.2.2.2.2.1.lt (fun i i1 i2 => hlv.2.2.2.2.1.2 i i1 i2) h5
  have st7 : cStk M7 w.gRw w.gM e0 giv (fun _ => (0, 0, 0, 0, 0, 0)) [(l, ofs w.gRw giv l)] := by
    have b7 : ∀ x, a ≤ x → x < a + 265 → M7 x = M6 x := fun x p q => vx x (by omega)
    refine ⟨⟨a, by rw [vx 1794 (by decide), f94]; exact h94, ⟨cb_congr e1 (fun x p q => b7 x (by omega) (by omega)), cb_congr e2 (fun x p q => b7 x (by omega) (by omega)), cb_congr e3 (fun x p q => b7 x (by omega) (by omega))⟩, ?_, ?_⟩, Or.inl ⟨v58, rfl⟩, ⟨hlv.1, hlv.2.1, hlv.2.2.1, hlv.2.2.2.1, hlv.2.2.2.2.1, ofs_ok hW hn hlv.2.1.1 hlv.2.1.2.1 hlv.2.2.1 hTn⟩, by show mu w.gRw l + ((0 : Nat) : Int) ≤ 103; omega, fun i hi => absurd hi (by show ¬ 0 = i + 1; omega), trivial⟩
    · rw [b7 a (by omega) (by omega), q5, x1 666 (by decide) (by decide) (by omega)]; exact d5
    · rw [b7 a (by omega) (by omega), q4, x1 666 (by decide) (by decide) (by omega)]; exact d4
  have hc5 : M7 1795 5 = (kr : Int) := by rw [y7 1795 (by decide) (by decide) (by decide) (by decide) (by decide)]; exact hrow.1
  refine l_csearch (M0 := M7) (c5 := (kr : Int)) hW hTP hn hbp (by omega) hfu 803 0 [(l, ofs w.gRw giv l)] (fun _ => (0, 0, 0, 0, 0, 0)) (e ++ ex1) M7 0 (by show 2 * (fuel - 0) + ((1 : Nat) : Int) < ((803 : Nat) : Int); omega) (Int.le_refl _) (by decide) st7 S7 (by rw [vx 1793 (by decide)]; exact s9') (Int.le_refl _) hfu.1 (fun _ _ _ _ => rfl) hc5 (fun o ho ex2 M8 hq2 G8 S8 r9 hf1 hf0 ho1 => ⟨_, rfl, k_Writer_clear_0 ?_⟩)
  have z8 : ∀ x, (x < 666 ∨ 925 ≤ x) → (x < 931 ∨ 935 < x) → (x < 1207 ∨ 2061 < x) → x < 7082 → M8 x = M x := fun x p q r s => (G8 x q r s).trans (y7 x (by omega) (by omega) (by omega) p s)
  have dr : ∀ x, 666 ≤ x → x < 925 → M8 x = N x := fun x p q => (G8 x (by omega) (by omega) (by omega)).trans (x7 x (by omega) (by omega) (by omega) (by omega))
  have wx : ∀ x, x ≠ 7 → im_u M8 7 1 0 x = M8 x := fun x a => im_u_ne _ _ _ a
  have w1 : im_u M8 7 1 0 7 1 = 0 := im_rds _ _ _ _
  generalize im_u M8 7 1 0 = M9 at wx w1
  have S9 : CSW M9 ((e ++ ex1) ++ ex2) w.gRw w.gM (M 13 10) giv bp := S8.mv hbp (fun x hx => wx x (by omega)) (by rw [wx 1793 (by decide)]) S8.2.2.1.1 (S8.2.2.2.1.cg (wx 1794 (by decide)) (fun x hx => wx x (by omega)))
  have hout : cOL M9 [] := ⟨w1, fun i a b => absurd b (by show ¬ i < ((0 : Nat) : Int); omega), by decide⟩
  have v11 : ∃ v, cn M9 11 v := h11.imp fun v hv => cn_congr hv ((wx 11 (by decide)).trans (z8 11 (by omega) (by omega) (by omega) (by omega))) ((wx 12 (by decide)).trans (z8 12 (by omega) (by omega) (by omega) (by omega)))
  -- what stands in the end
  have fin : ∀ (N' : im_M) (L : List Int) (kk : Nat), (∀ x, (x < 7 ∨ 12 < x) → N' x = M9 x) → (∃ v, cn N' 11 v) → cOL N' L → M9 1795 5 = (kk : Int) → kk ≤ 128 → CW N' (e ++ (ex1 ++ ex2)) ((ouW w L).sMd o.2.1) 0 ∧ ∀ x, 6952 ≤ x → x < 7082 → N' x = M x := by
    intro N' L kk hx h11' hL hk1 hk2
    refine ⟨?_, fun x p q => (hx x (by omega)).trans ((wx x (by omega)).trans (z8 x (by omega) (by omega) (by omega) q))⟩
    have cd : ∀ {b : Nat} {β : Bk}, 666 ≤ b → b + 86 ≤ 925 → cb N b 40 β → cbx N' b 40 := fun {b β} p q hb => ⟨β, cb_congr hb (fun x r s => (hx x (by omega)).trans ((wx x (by omega)).trans (dr x (by omega) (by omega))))⟩
    have SN : CSW N' (e ++ (ex1 ++ ex2)) w.gRw w.gM (M 13 10) giv bp := by
      rw [← List.append_assoc]
      exact S9.mv hbp (fun x hx' => hx x (by omega)) (by rw [hx 1793 (by omega)]) S9.2.2.1.1 (S9.2.2.2.1.cg (hx 1794 (by omega)) (fun x hx' => hx x (by omega)))
    exact h.lk (fun x p q r s t => (hx x p).trans ((wx x (by omega)).trans (z8 x q r s t))) hL h11' ⟨cd (by decide) (by decide) d1, cd (by decide) (by decide) d2, cd (by decide) (by decide) d3⟩ SN ⟨by rw [hx 1795 (by omega)]; exact hk1, hk2⟩ (by rw [hx 1793 (by omega), wx 1793 (by decide)]; exact r9)
  refine ⟨rfl, rfl, by constructor <;> omega, fun hne => ?_, fun heq => ?_⟩
  · obtain ⟨F1, F2⟩ := fin M9 [] kr (fun _ _ => rfl) v11 hout (by rw [wx 1795 (by decide)]; exact hf0 hne) hrow.2.1
    have := hK o ho (ex1 ++ ex2) M9 (by rw [(stc_app _ _).2.2, hq1, hq2]) F2 (by unfold lkW; rw [if_neg hne]; exact F1)
    rw [← List.append_assoc] at this
    exact this
  · obtain ⟨k1, k2, k3⟩ := hf1 heq
    refine c_tellPath (L := []) (P := o.2.2.1) (n := o.2.2.2) k2 (fun j hj => rw_1795.2 j hj) (fun j hj => ⟨(k3 j hj).1, (k3 j hj).2.cg ⟨by rw [wx 1796 (by omega)], by rw [wx 1797 (by omega)], by rw [wx 1798 (by omega)], by rw [wx 1799 (by omega)], by rw [wx 1800 (by omega)], by rw [wx 2057 (by omega)]⟩ (wx _ (by omega)) (wx _ (by omega))⟩) (by rw [wx 1795 (by decide)]; exact k1) (fun q a b => by rw [wx 3 (by decide), z8 3 (by omega) (by omega) (by omega) (by omega)]; exact kw q a b) hout (by omega) v11 (fun M10 F10 v10 o10 => ⟨rfl, rfl, ?_⟩)
    obtain ⟨F1, F2⟩ := fin M10 _ o.2.2.2 (fun x hx => F10.1 x (by omega) (by omega) (by omega) (by omega)) v10 o10 (by rw [wx 1795 (by decide)]; exact k1) k2
    have := hK o ho (ex1 ++ ex2) M10 (by rw [(stc_app _ _).2.2, hq1, hq2]) F2 (by unfold lkW; rw [if_pos heq]; exact F1)
    rw [← List.append_assoc] at this
    exact this
end CLOOK
