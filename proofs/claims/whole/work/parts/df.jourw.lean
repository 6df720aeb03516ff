/-! THE CLASS writes a record -/
def dk0 (dk : Int → Int) (p x : Int) : Int := if x = p ∧ p < 16384 then 0 else dk x
theorem rby_hd {kd many len a b c u : Int} {t : Int → Int} {i : Int} (h : i < len - 4) : rby kd many len a b c t u i = rbt kd many len a b c t i := if_pos h
theorem rby_ck {kd many len a b c u : Int} {t : Int → Int} {k : Nat} : rby kd many len a b c t u (len - 4 + k) = rck kd many len a b c t u / 2 ^ (24 - 8 * (k : Int)).toNat % 256 := by
  unfold rby
  rw [if_neg (by omega), show len - 4 + (k : Int) - (len - 4) = k from by omega]
theorem rbt_num {kd many len a b c : Int} {t : Int → Int} {j k : Nat} (hj : (j : Int) < many) (hk : k < 8) : rbt kd many len a b c t (3 + 8 * j + k) = (if j = 0 then a else if j = 1 then b else c) / 2 ^ (8 * (8 - 1 - k)) % 256 := by
  unfold rbt
  rw [if_neg (by omega), if_neg (by omega), if_neg (by omega), if_pos (by omega)]
  have e1 : (3 + 8 * (j : Int) + k - 3) / 8 = j := by omega
  have e2 : (56 - 8 * ((3 + 8 * (j : Int) + k - 3) % 8)).toNat = 8 * (8 - 1 - k) := by omega
  rw [e1, e2]
  by_cases h0 : j = 0
  · subst h0; rfl
  · rw [if_neg (by omega), if_neg h0]
    by_cases h1 : j = 1
    · subst h1; rfl
    · rw [if_neg (by omega), if_neg h1]
theorem rbt_txt {kd many len a b c : Int} {t : Int → Int} {i : Int} (hm : 0 ≤ many) (hi : 0 ≤ i) : rbt kd many len a b c t (3 + 8 * many + i) = t i := by
  unfold rbt
  rw [if_neg (by omega), if_neg (by omega), if_neg (by omega), if_neg (by omega), show 3 + 8 * many + i - (3 + 8 * many) = i from by omega]
section JOURW
variable {g : im_g} {d : Nat} {e : im_E} {M M0 : im_M} {K : im_K} {dk t : Int → Int} {u lf kd many len a b c : Int} {q nq : Nat}
theorem l_w68 {n : Int} (hsh : (im_sh0 ++ e)[q]? = some (0, nq, [])) (hnq : nq ≤ 2147483647) (hkd : 0 ≤ kd ∧ kd < 9) (hmany : xrec kd = many) (hm : 0 ≤ many ∧ many ≤ 3) (hlen : 7 + 8 * many + n = len) (hn : 0 ≤ n) (hu : 0 ≤ u ∧ u + len ≤ 16384) (hl : im_i32 lf) (ha : im_i64 a) (hb : im_i64 b) (hc : im_i64 c) (hd : 3 ≤ d)
    (hK : ∀ M', JF M0 M' → JP M' dk u lf (rby kd many len a b c t u) (3 + 8 * many.toNat) → im_T g d 79 115 [some (.ref 2068), none, none, none, none, none, none, none, some (.ref q), some (vI n), some (vI len), none, some (vI 0)] [] e M' K) :
    ∀ (r j : Nat) (M : im_M), (j : Int) + r = many → JF M0 M → JP M dk u lf (rby kd many len a b c t u) (3 + 8 * j) → im_T g d 79 68 [some (.ref 2068), some (vI kd), some (vL a), none, some (vL b), none, some (vL c), none, some (.ref q), some (vI n), some (vI len), none, some (vI j)] [] e M K := by
  intro r
  induction r with
  | zero =>
    intro j M hj hF hJ
    refine k_Journal_write_68 hsh hnq (by omega) ⟨hkd, by constructor <;> omega, fun _ => hK M hF ?_, fun x hx => by rw [hmany] at hx; omega⟩
    rw [show many.toNat = j from by omega]; exact hJ
  | succ r ih =>
    intro j M hj hF hJ
    refine k_Journal_write_68 hsh hnq (by omega) ⟨hkd, by constructor <;> omega, fun z => by rw [hmany] at z; omega, fun x hx => ?_⟩
    have hx2 : x = if j = 0 then a else if j = 1 then b else c := by
      split
      · omega
      · split <;> omega
    have hx64 : im_i64 x := by
      rw [hx2]
      split
      · exact ha
      · split
        · exact hb
        · exact hc
    refine c_putNumber (i := 3 + 8 * j) (j := 8) hx64 hJ (by decide) ⟨hu.1, by omega⟩ hl (by omega) (fun k hk => ?_) (fun M1 F1 J1 => ⟨rfl, rfl, ?_⟩)
    · rw [rby_hd (by omega), show ((3 + 8 * j + k : Nat) : Int) = 3 + 8 * (j : Int) + k from by omega, rbt_num (by omega) hk, hx2]
    · refine ih (j + 1) M1 (by omega) (hF.trans F1) ?_
      rw [show 3 + 8 * (j + 1) = 3 + 8 * j + 8 from by omega]; exact J1
theorem c_jwrite {n : Int} (hsh : (im_sh0 ++ e)[q]? = some (0, nq, [])) (hnq : nq ≤ 2147483647) (hq : q ≠ 2068 ∧ q ≠ 2069) (hkd : 0 ≤ kd ∧ kd < 9) (hmany : xrec kd = many) (hm : 0 ≤ many ∧ many ≤ 3) (hlen : 7 + 8 * many + n = len) (hn : 0 ≤ n ∧ n ≤ nq) (hu : 0 ≤ u ∧ u + len ≤ 16384) (h1 : M 2068 1 = u) (h3 : M 2068 3 = lf) (hl : -1 ≤ lf ∧ lf ≤ 2147483647) (h4 : M 2068 4 = 0) (hD : txt (M 2069) dk 16384) (ht : txt (M q) t n) (h2 : 0 ≤ M 2068 2 ∧ M 2068 2 ≤ 16384) (ha : im_i64 a) (hb : im_i64 b) (hc : im_i64 c) (hd : 4 ≤ d)
    (hKs : lf < 0 ∨ len ≤ lf → ∀ M', (∀ x, x ≠ 2068 → x ≠ 2069 → M' x = M x) → txt (M' 2069) (wrD (dk0 dk (u + len + 2)) u (rby kd many len a b c t u) len) 16384 → M' 2068 1 = u + len → M' 2068 2 = M 2068 2 + 1 → M' 2068 3 = (if lf < 0 then lf else lf - len) → M' 2068 4 = 0 → K (.inl (some (vI 1))) e M')
    (hKf : 0 ≤ lf ∧ lf < len → ∀ M', (∀ x, x ≠ 2068 → x ≠ 2069 → M' x = M x) → txt (M' 2069) (fun x => if x = u + 2 then 0 else wrD (dk0 dk (u + len + 2)) u (rby kd many len a b c t u) lf x) 16384 → M' 2068 1 = u → M' 2068 2 = M 2068 2 → M' 2068 3 = 0 → M' 2068 4 = 1 → K (.inl (some (vI 0))) e M') :
    im_T g d 79 0 [some (.ref 2068), some (vI kd), some (vL a), none, some (vL b), none, some (vL c), none, some (.ref q), some (vI n), none, none, none] [] e M K := by
  have hli : im_i32 lf := by constructor <;> omega
  have c0 : cnt lf 0 = 0 := by unfold cnt; split <;> (try split) <;> omega
  have go : ∀ M1 : im_M, (∀ x, x ≠ 2068 → x ≠ 2069 → M1 x = M x) → (∀ k, k ≠ 5 → k ≠ 6 → M1 2068 k = M 2068 k) → M1 2068 5 = u → txt (M1 2069) (dk0 dk (u + len + 2)) 16384 → im_T g (d - 1) 30 0 [] [] e M1 (im_ri (fun x8 e_ M7 => e = e_ ∧ (im_i32 x8) ∧ (im_i32 len) ∧ im_T g (d - 1) 80 0 [some (.ref 2068), some (vL len), none, some (vI 2), none] [] e (im_u M7 2068 6 x8) (im_r0 (fun e_ M11 => e = e_ ∧ (im_i32 kd) ∧ im_T g (d - 1) 80 0 [some (.ref 2068), some (vL kd), none, some (vI 1), none] [] e M11 (im_r0 (fun e_ M13 => e = e_ ∧ im_T g d 79 68 [some (.ref 2068), some (vI kd), some (vL a), none, some (vL b), none, some (vL c), none, some (.ref q), some (vI n), some (vI len), none, some (vI 0)] [] e M13 K)))))) := by
    intro M1 f1 f2 f5 fD
    refine k_Journal_firstCheck_0 ⟨_, rfl, rfl, by decide, by constructor <;> omega, ?_⟩
    generalize hN : im_u M1 2068 6 (-2128831035) = N
    have g1 : ∀ x, x ≠ 2068 → x ≠ 2069 → N x = M x := fun x a b => by rw [← hN, im_u_ne _ _ _ a]; exact f1 x a b
    have g2 : ∀ k, k ≠ 5 → k ≠ 6 → N 2068 k = M 2068 k := fun k a b => by rw [← hN, im_rdk _ _ _ b]; exact f2 k a b
    have hJ0 : JP N dk u lf (rby kd many len a b c t u) 0 → True := fun _ => trivial
    have hJ : JP N (dk0 dk (u + len + 2)) u lf (rby kd many len a b c t u) 0 := by
      refine ⟨?_, ?_, ?_, ?_, ?_⟩
      · rw [← hN, im_rdk _ _ _ (by decide), f5, show ((0 : Nat) : Int) = 0 from rfl, c0]; omega
      · rw [g2 3 (by decide) (by decide), h3]; unfold lft; rw [show ((0 : Nat) : Int) = 0 from rfl, c0]; split <;> omega
      · rw [g2 4 (by decide) (by decide), h4]; unfold drk; rw [if_neg (by omega)]
      · rw [← hN, im_rds]; rfl
      · rw [← hN, im_u_ne _ _ _ (by decide), show ((0 : Nat) : Int) = 0 from rfl, c0]
        exact txt_congr fD (fun _ _ _ => rfl) (fun x _ _ => by unfold wrD; rw [if_neg (by omega)])
    clear hN
    refine c_putNumber (i := 0) (j := 2) (v := len) (by constructor <;> omega) hJ (by decide) ⟨hu.1, by omega⟩ hli (by omega) (fun k hk => ?_) (fun M2 F2 J2 => ⟨rfl, rfl, by constructor <;> omega, ?_⟩)
    · rw [rby_hd (by omega)]
      have : k = 0 ∨ k = 1 := by omega
      rcases this with rfl | rfl
      · show len / 256 = len / 2 ^ 8 % 256; omega
      · show len % 256 = len / 2 ^ 0 % 256; omega
    refine c_putNumber (i := 2) (j := 1) (v := kd) (by constructor <;> omega) J2 (by decide) ⟨hu.1, by omega⟩ hli (by omega) (fun k hk => ?_) (fun M3 F3 J3 => ⟨rfl, rfl, ?_⟩)
    · rw [rby_hd (by omega)]
      have : k = 0 := by omega
      subst this
      show kd = kd / 2 ^ 0 % 256; omega
    refine l_w68 (M0 := N) (dk := dk0 dk (u + len + 2)) (t := t) (u := u) (lf := lf) hsh hnq hkd hmany hm hlen hn.1 hu hli ha hb hc (by omega) (fun M4 F4 J4 => ?_) many.toNat 0 M3 (by omega) (F2.trans F3) J3
    -- the text
    have txtl : ∀ (r i : Nat) (M5 : im_M), (i : Int) + r = n → JF N M5 → JP M5 (dk0 dk (u + len + 2)) u lf (rby kd many len a b c t u) (3 + 8 * many.toNat + i) → im_T g d 79 115 [some (.ref 2068), none, none, none, none, none, none, none, some (.ref q), some (vI n), some (vI len), none, some (vI i)] [] e M5 K := by
      intro r
      induction r with
      | zero =>
        intro i M5 hi F5 J5
        refine k_Journal_write_115 hsh hnq (by omega) ⟨by constructor <;> omega, by constructor <;> omega, fun _ => ?_, fun z => by omega⟩
        have hlen4 : ((3 + 8 * many.toNat + i : Nat) : Int) = len - 4 := by omega
        have e1 : M5 2068 1 = u := by rw [F5.2 1 (by decide), g2 1 (by decide) (by decide)]; exact h1
        have e2 : M5 2068 2 = M 2068 2 := by rw [F5.2 2 (by decide), g2 2 (by decide) (by decide)]
        have hck : pl4 (chk (rby kd many len a b c t u) (3 + 8 * many.toNat + i)) u = rck kd many len a b c t u := by
          unfold rck
          rw [show (len - 4).toNat = 3 + 8 * many.toNat + i from by omega, chk_congr (β := rby kd many len a b c t u) (γ := rbt kd many len a b c t) _ (fun j j0 j1 => rby_hd (by omega))]
        rw [J5.2.2.2.1, e1]
        refine c_checkPlace ⟨hu.1, by omega⟩ (by omega) ⟨_, rfl, rfl, mx_i32 _ _, ?_⟩
        rw [hck]
        have hcki : im_i32 (rck kd many len a b c t u) := mx_i32 _ _
        refine c_putNumber (i := 3 + 8 * many.toNat + i) (j := 4) (by constructor <;> omega) J5 (by decide) ⟨hu.1, by omega⟩ hli (by omega) (fun k hk => ?_) (fun M6 F6 J6 => ⟨rfl, rfl, ?_⟩)
        · rw [show ((3 + 8 * many.toNat + i + k : Nat) : Int) = len - 4 + k from by omega, rby_ck, show (24 - 8 * (k : Int)).toNat = 8 * (4 - 1 - k) from by omega]
        obtain ⟨j5, j3, j4, j6, jD⟩ := J6
        have hl4 : ((3 + 8 * many.toNat + i + 4 : Nat) : Int) = len := by omega
        rw [hl4] at j5 j3 j4 jD
        have G6 := F5.trans F6
        have w1 : M6 2068 1 = u := by rw [F6.2 1 (by decide)]; exact e1
        have w2 : M6 2068 2 = M 2068 2 := by rw [F6.2 2 (by decide)]; exact e2
        have wf : ∀ x, x ≠ 2068 → x ≠ 2069 → M6 x = M x := fun x a b => (G6.1 x a b).trans (g1 x a b)
        rw [j4]
        refine ⟨fun h0 => ?_, fun h0 => ?_⟩
        · have hcase : lf < 0 ∨ len ≤ lf := by
            unfold drk at h0
            split at h0
            · omega
            · omega
          have hcn : cnt lf len = len := by unfold cnt; split; rfl; rw [if_pos (by omega)]
          rw [hcn] at jD
          refine k_Journal_pass_0 ?_
          rw [w1, w2]
          refine ⟨by constructor <;> omega, by constructor <;> omega, rfl, rfl, hKs hcase _ (fun x a b => by rw [im_u_ne _ _ _ a, im_u_ne _ _ _ a]; exact wf x a b) ?_ ?_ ?_ ?_ ?_⟩
          · rw [im_u_ne _ _ _ (by decide), im_u_ne _ _ _ (by decide)]; exact jD
          · rw [im_rdk _ _ _ (by decide), im_rds]
          · rw [im_rds]
          · rw [im_rdk _ _ _ (by decide), im_rdk _ _ _ (by decide), j3]; unfold lft; rw [hcn]
          · rw [im_rdk _ _ _ (by decide), im_rdk _ _ _ (by decide), j4]; exact h0
        · have hcase : 0 ≤ lf ∧ lf < len := by
            unfold drk at h0
            split at h0
            · assumption
            · exact absurd rfl h0
          have hcn : cnt lf len = lf := by unfold cnt; rw [if_neg (by omega), if_neg (by omega)]
          rw [hcn] at jD
          rw [w1]
          refine ⟨⟨by omega, by omega⟩, hKf hcase _ (fun x a b => by rw [im_u_ne _ _ _ b]; exact wf x a b) ?_ ?_ ?_ ?_ ?_⟩
          · refine txt_congr (txt_set (p := u + 2) (b := 0) (x := 0) jD (by decide)) (fun x _ _ => by rw [im_rdx]; rfl) (fun x _ _ => rfl)
          · rw [im_rdn _ _ _ _ (by decide)]; exact w1
          · rw [im_rdn _ _ _ _ (by decide)]; exact w2
          · rw [im_rdn _ _ _ _ (by decide), j3]; unfold lft; rw [if_neg (by omega), hcn]; omega
          · rw [im_rdn _ _ _ _ (by decide), j4]; unfold drk; rw [if_pos hcase]
      | succ r ih =>
        intro i M5 hi F5 J5
        refine k_Journal_write_115 hsh hnq (by omega) ⟨by constructor <;> omega, by constructor <;> omega, fun z => by omega, fun _ => ⟨⟨by omega, by omega⟩, ?_⟩⟩
        have eq : M5 q = M q := by rw [F5.1 q hq.1 hq.2]; exact g1 q hq.1 hq.2
        have hti := ht i (by omega) (by omega)
        refine c_putByte (i := 3 + 8 * many.toNat + i) J5 ?_ ⟨hu.1, by omega⟩ hli (by omega) (fun M6 F6 J6 => ⟨rfl, rfl, ih (i + 1) M6 (by omega) (F5.trans F6) J6⟩)
        rw [rby_hd (by omega), show ((3 + 8 * many.toNat + i : Nat) : Int) = 3 + 8 * many + i from by omega, rbt_txt (by omega) (by omega), eq]
        omega
    exact txtl n.toNat 0 M4 (by omega) F4 J4
  refine k_Journal_write_0 hsh hnq (by omega) (k_Journal_lengthOf_0 ⟨hkd, _, rfl, rfl, ?_⟩)
  rw [hmany, hlen, h1]
  refine ⟨by constructor <;> omega, fun hge => ?_, fun hlt => ⟨⟨by omega, hlt⟩, ?_⟩⟩
  · refine go _ (fun x a b => im_u_ne _ _ _ a) (fun k a b => im_rdk _ _ _ a) (im_rds _ _ _ _) ?_
    rw [im_u_ne _ _ _ (by decide)]
    exact txt_congr hD (fun _ _ _ => rfl) (fun x _ _ => by unfold dk0; rw [if_neg (by omega)])
  · refine go _ (fun x a b => by rw [im_u_ne _ _ _ a, im_u_ne _ _ _ b]) (fun k a b => by rw [im_rdk _ _ _ a, im_rdn _ _ _ _ (by decide)]) (im_rds _ _ _ _) ?_
    rw [im_u_ne _ _ _ (by decide)]
    refine txt_congr (txt_set (p := u + len + 2) (b := 0) (x := 0) hD (by decide)) (fun x _ _ => by rw [im_rdx]; rfl) (fun x _ _ => ?_)
    unfold dk0
    by_cases hx : x = u + len + 2
    · rw [if_pos ⟨hx, hlt⟩, if_pos hx]; rfl
    · rw [if_neg (fun z => hx z.1), if_neg hx]
end JOURW
