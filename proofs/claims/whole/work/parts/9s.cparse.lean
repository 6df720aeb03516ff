section CPARSE
variable {g : im_g} {d : Nat} {e : im_E} {M M0 : im_M} {K : im_K} {lo dg n : Int} {t : Int → Int} {b nb : Nat}
theorem FR.ad {lo dg : Int} {M M1 M' : im_M} {p q ty nm v : Int} (h : FR lo dg M M1) (ha : adP M1 M' p q ty nm v) : FR lo dg M M' := by
  obtain ⟨a1, a2, _⟩ := ha
  refine ⟨fun x b c d f => (a1 x b c d).trans (h.1 x b c d f), fun k b => (a2 k (by omega) (by omega) (by omega) (by omega)).trans (h.2.1 k b), fun x i b c d => by rw [a1 x (by omega) (by omega) (by omega)]; exact h.2.2.1 x i b c d, fun i b => by rw [a1 22 (by decide) (by decide) (by decide)]; exact h.2.2.2.1 i b, fun k b c d => by rw [a1 23 (by decide) (by decide) (by decide)]; exact h.2.2.2.2.1 k b c d, h.2.2.2.2.2.e (a1 26 (by decide) (by decide) (by decide)) (a1 27 (by decide) (by decide) (by decide))⟩
theorem PI.ad {lo dg : Int} {M M1 M' : im_M} {S : pS} {p q ty nm v : Int} (h : PI M M1 lo dg S) (hc : c29 S.2.1 lo S.2.2.1) (ha : adP M1 M' p q ty nm v) : PI M M' lo dg S := by
  obtain ⟨p1, p2, p3, p4, p5, p6, p7⟩ := h
  have hF := FR.ad p1 ha
  obtain ⟨a1, a2, _⟩ := ha
  have hs : ∀ x, x ≠ 2 → x ≠ 5 → x ≠ 6 → M' x = M1 x := a1
  have e23 : M' 23 = M1 23 := hs 23 (by decide) (by decide) (by decide)
  obtain ⟨st, R, m, lw⟩ := S
  refine PI_mk hF (by rw [e23]; exact p2) (by rw [e23]; exact p3) ⟨by rw [e23]; exact p4.1, stk_congr _ p4.2 (fun i _ _ => ⟨by rw [hs 24 (by decide) (by decide) (by decide)], by rw [hs 25 (by decide) (by decide) (by decide)]⟩)⟩ (fun i i0 i1 => ?_) (cn_congr p6 (hs 26 (by decide) (by decide) (by decide)) (hs 27 (by decide) (by decide) (by decide))) ?_
  · rw [e23]
    exact rowC_congr (p5 i i0 i1) (fun x x1 x2 => by rw [hs x (by omega) (by omega) (by omega)]) (fun j _ => by rw [hs 22 (by decide) (by decide) (by decide)]) (fun _ _ => rfl) (Int.le_refl _) (fun z => (hc i i0 i1 z).2)
  · rw [e23]
    cases st with
    | nil => trivial
    | cons x r =>
      refine ⟨fun z z2 => ?_, fun z => ?_⟩
      · rw [hs 18 (by decide) (by decide) (by decide)]
        exact (dsq_congr _ (p7.1 z z2) (fun j _ _ => by rw [hs 22 (by decide) (by decide) (by decide)])).1
      · rw [hs 18 (by decide) (by decide) (by decide)]
        exact ⟨(p7.2 z).1, (dsq_congr _ (p7.2 z).2 (fun j _ _ => by rw [hs 22 (by decide) (by decide) (by decide)])).1⟩
/-- digits so far are no more than bytes so far -/
def dgI (t : Int → Int) (n a k : Int) : Prop := k ≤ a ∨ (k ≤ a + 1 ∧ (a < n → t a ≤ 32 ∨ brk (t a)))
theorem stpN_c {lo ty nm v c m lw : Int} {x : en} {r : List en} {R : Rw} (h : stpN lo ty nm v x r R m lw = .inl c) : 4 ≤ c ∧ c ≤ 8 := by
  unfold stpN at h
  by_cases c1 : ty = 37
  · rw [if_pos c1] at h; cases h
  rw [if_neg c1] at h
  by_cases c2 : bgn x.1 ty
  · rw [if_neg (fun z => z c2)] at h
    by_cases c3 : much R lo m x.2.1
    · rw [if_pos c3] at h; cases h; decide
    · rw [if_neg c3] at h; cases h
  · rw [if_pos c2] at h; cases h; decide
theorem stpK_c {lo ty c m lw : Int} {x : en} {r : List en} {R : Rw} (h : stpK lo ty x r R m lw = .inl c) : 4 ≤ c ∧ c ≤ 8 := by
  unfold stpK at h
  by_cases c1 : ty = 40
  · rw [if_pos c1] at h; cases h
  rw [if_neg c1] at h
  by_cases c2 : ty ≠ 31
  · rw [if_pos c2] at h; cases h; decide
  rw [if_neg c2] at h
  by_cases c3 : much R lo m x.2.1
  · rw [if_pos c3] at h; cases h; decide
  rw [if_neg c3] at h
  by_cases c4 : 8 ≤ R 3 x.2.1
  · rw [if_pos c4] at h; cases h; decide
  · rw [if_neg c4] at h; cases h
theorem ifc {α : Type} {P : Prop} [Decidable P] {a b : Sum Int α} {c : Int} (h : (if P then a else b) = .inl c) (ha : a = .inl c → 4 ≤ c ∧ c ≤ 8) (hb : b = .inl c → 4 ≤ c ∧ c ≤ 8) : 4 ≤ c ∧ c ≤ 8 := by
  by_cases hp : P
  · rw [if_pos hp] at h; exact ha h
  · rw [if_neg hp] at h; exact hb h
theorem inlc {α : Type} {a c : Int} (ha : 4 ≤ a ∧ a ≤ 8) (h : (Sum.inl a : Sum Int α) = .inl c) : 4 ≤ c ∧ c ≤ 8 := by cases h; exact ha
theorem inrc {α : Type} {a : α} {c : Int} (h : (Sum.inr a : Sum Int α) = .inl c) : 4 ≤ c ∧ c ≤ 8 := by cases h
theorem stp_c {lo ty nm v c : Int} {S : pS} (h : stp lo ty nm v S = .inl c) : 4 ≤ c ∧ c ≤ 8 := by
  obtain ⟨st, R, m, lw⟩ := S
  cases st with
  | nil => cases h
  | cons x r =>
    refine ifc h stpN_c (fun h => ifc h stpK_c (fun h => ifc h (fun h => ifc h inrc (inlc (by decide))) (fun h => ifc h (fun h => ifc h inrc (fun h => ifc h (inlc (by decide)) (fun h => ifc h (inlc (by decide)) inrc))) (fun h => ifc h (fun h => ifc h inrc (fun h => ifc h (inlc (by decide)) (fun h => ifc h (inlc (by decide)) inrc))) (fun h => ifc h (fun h => ifc h (inlc (by decide)) (fun h => ifc h (inlc (by decide)) inrc)) (fun h => ifc h (fun h => ifc h inrc (inlc (by decide))) (fun h => ifc h (fun h => ifc h inrc (inlc (by decide))) (fun h => ifc h (fun h => ifc h inrc (inlc (by decide))) (fun h => ifc h inrc (inlc (by decide)))))))))))
theorem l_pfault {c T : Int} (hc : c ≠ 0) (hci : im_i32 c) (hn : im_i32 n) (hT : im_i32 T) (hd : 1 ≤ d) (hK : K (.inl (some (vI c))) e M) : im_T g d 37 36 [some (.ref 23), none, some (vI n), some (vI c), some (vI T)] [] e M K :=
  k_Parser_parse_36 hd ⟨hT, hn, fun _ _ => ⟨hci, fun z => absurd z hc⟩, fun _ => ⟨hci, fun _ => ⟨fun _ => hK, fun z => absurd z hc⟩, fun z => absurd z hc⟩⟩
theorem l_parse (hsh : (im_sh0 ++ e)[b]? = some (0, nb, [])) (hnb : nb ≤ 2147483647) (hb27 : b < 2 ∨ 27 < b) (hb : M0 2 1 = b) (hn2 : M0 2 2 = n) (hnn : n ≤ nb) (hn0 : 0 ≤ n) (hn1 : n ≤ 16384) (ht : txt (M0 b) t n) (hkw : ∀ i, 0 ≤ i → i < 34 → M0 3 i = kwv i) (h13 : M0 13 8 = lo) (h10 : M0 13 10 = dg) (hdg : 0 ≤ dg) (hdg2 : dg ≤ 16384) (hd : 9 ≤ d) :
    ∀ (f : Nat) (a T : Int) (S : pS) (M : im_M), (n - a).toNat + 2 ≤ f → 0 ≤ a → a ≤ n → T ≤ a → 0 ≤ T → QS lo S → PI M0 M lo dg S → M 2 3 = a → dgI t n a (M 23 5) → (S.1.length : Int) ≤ 7 * a + 1 →
      (∀ c p, prs t n lo f a S = .inl (c, p) → ∀ M', FR lo dg M0 M' → M' 2 5 = p → K (.inl (some (vI c))) e M') →
      (∀ S' a', prs t n lo f a S = .inr (S', a') → ∀ M', S'.1 = [] → QS lo S' → PI M0 M' lo dg S' → M' 2 3 = a' → 0 ≤ a' → a' ≤ n → dgI t n a' (M' 23 5) → im_T g (d - 1) 74 0 [some (.ref 2)] [] e M' (im_ri (fun x17 e_ M16 => e = e_ ∧ (im_i32 x17) ∧ ((¬ x17 = 0 → K (.inl (some (vI x17))) e M16) ∧ (x17 = 0 → im_T g (d - 1) 75 0 [some (.ref 23), none, none, none, none] [] e M16 (im_r0 (fun e_ M20 => e = e_ ∧ K (.inl (some (vI x17))) e M20))))))) →
      im_T g d 37 36 [some (.ref 23), none, some (vI n), some (vI 0), some (vI T)] [] e M K := by
  intro f
  induction f with
  | zero => intro a T S M hf; omega
  | succ f ih =>
    intro a T S M hf ha0 han hTa hT0 hQ hI h3 hdi hlen hKf hKs
    obtain ⟨p1, p2, p3, p4, p5, p6, p7⟩ := id hI
    cases hS : S.1 with
    | nil =>
      have hpr : prs t n lo (f + 1) a S = .inr (S, a) := by
        show (if S.1 = [] then _ else _) = _
        rw [if_pos hS]
      have h4 : M 23 4 = 0 := by rw [p4.1, hS]; rfl
      refine k_Parser_parse_36 (by omega) ⟨by constructor <;> omega, by constructor <;> omega, fun _ z => by omega, fun _ => ⟨by decide, fun z => absurd rfl z, fun _ => hKs S a hpr M hS hQ hI h3 ha0 han hdi⟩⟩
    | cons x r =>
      have hk := tk_ok (t := t) han
      generalize hp : (tk t n a).1 = p at hk
      generalize hq : (tk t n a).2.1 = q at hk
      generalize hty : (tk t n a).2.2.1 = ty at hk
      generalize hnm : (tk t n a).2.2.2.1 = nm at hk
      generalize hvv : (tk t n a).2.2.2.2 = v at hk
      have hpr : prs t n lo (f + 1) a S = (if ty < 0 then .inl (-ty, p) else if ty = 41 then .inl (3, p) else match stp lo ty nm v S with
          | .inl c => .inl (c, p)
          | .inr S' => prs t n lo f q S') := by
        have hne : ¬ S.1 = [] := by rw [hS]; exact List.cons_ne_nil _ _
        show (if S.1 = [] then _ else _) = _
        rw [if_neg hne, hp, hq, hty, hnm, hvv]
        rfl
      obtain ⟨st, R, m, lw⟩ := S
      dsimp only at hS
      subst hS
      obtain ⟨q1, q2, q3, q4⟩ := hQ
      dsimp only at q1 q2 q3 q4 hlen p4
      cases hcm : cmp (x :: r) with
      | nil =>
        exfalso
        by_cases h41 : x.1 = 41
        · have : cmp (x :: r) = (match cmp r with
            | [] => [(41, 1)]
            | y :: r' => if y.1 = 41 then (41, y.2 + 1) :: r' else (41, 1) :: y :: r') := if_pos h41
          rw [this] at hcm
          split at hcm
          · cases hcm
          · split at hcm <;> cases hcm
        · rw [cmp_ne h41] at hcm; cases hcm
      | cons y l =>
        obtain ⟨s, o⟩ := y
        rw [hcm] at p4
        have h4 : M 23 4 = (l.length : Int) + 1 := by rw [p4.1]; show ((l.length + 1 : Nat) : Int) = _; omega
        have hbs : M b = M0 b := p1.1 b (by omega) (by have := (bt_ne hsh).2.2.1; exact this) (by have := (bt_ne hsh).2.2.2; exact this) (by omega)
        have hM3 : M 3 = M0 3 := p1.1 3 (by decide) (by decide) (by decide) (by decide)
        have hM13 : M 13 = M0 13 := p1.1 13 (by decide) (by decide) (by decide) (by decide)
        refine k_Parser_parse_36 (by omega) ⟨by constructor <;> omega, by constructor <;> omega, fun _ _ => ⟨by decide, fun _ => ?_⟩, fun z => by omega⟩
        refine c_adv (t := t) (n := n) (a := a) (p := p) (q := q) (ty := ty) (nm := nm) (v := v) hsh hnb ((p1.2.1 1 (by decide)).trans hb) ((p1.2.1 2 (by decide)).trans hn2) h3 hnn (by rw [hbs]; exact ht) (fun i i0 i1 => by rw [hM3]; exact hkw i i0 i1) ha0 hk (by omega) (fun M1 hA => ⟨rfl, rfl, ?_⟩)
        have hI1 := PI.ad hI q2 hA
        obtain ⟨a1, a2, a3, a4, a5, a6, a7, a8⟩ := id hA
        rw [a4]
        by_cases h41 : ty = 41
        · subst h41
          refine ⟨fun _ => ⟨fun z => absurd rfl z, fun _ => ?_⟩, fun z => absurd z (by decide)⟩
          refine l_pfault (by decide) (by decide) (by constructor <;> omega) (by constructor <;> omega) (by omega) (hKf 3 p (by rw [hpr, if_neg (by decide), if_pos rfl]) M1 hI1.1 a5)
        · obtain ⟨t1, t2, t3, t4, t5, t6⟩ := tkn_q hk h41
          refine ⟨fun hty0 => ⟨fun _ => ?_, fun z => absurd z h41⟩, fun hneg => ?_⟩
          · have e23 : M1 23 = M 23 := a1 23 (by decide) (by decide) (by decide)
            have e24 : M1 24 = M 24 := a1 24 (by decide) (by decide) (by decide)
            have e25 : M1 25 = M 25 := a1 25 (by decide) (by decide) (by decide)
            have hMH : MH M0 M1 lo dg ty nm v x r R m lw (q - p).toNat := by
              refine ⟨hI1, q1, q2, q3, ?_, ?_, hdg, ?_, a4, ⟨hty0, t5⟩, fun z => a7 (by omega), fun z => ⟨a8 z, (t6 z).1, (t6 z).2.1⟩⟩
              · rw [a1 13 (by decide) (by decide) (by decide), hM13]; exact h13
              · rw [a1 13 (by decide) (by decide) (by decide), hM13]; exact h10
              · rw [e23]; unfold dgI at hdi; omega
            have hll := hMH.len
            rw [hcm] at hll
            have hll2 : ((s, o) :: l).length = l.length + 1 := rfl
            rw [e23, e24, e25, h4, show (l.length : Int) + 1 - 1 = (l.length : Int) from by omega, p4.2.1, p4.2.2.1]
            refine ⟨by constructor <;> omega, ?_⟩
            have hlr : (x :: r).length = r.length + 1 := rfl
            refine c_meet hMH q4 (by omega) (by omega) (fun c hc M2 f2 f5 => ⟨_, rfl, rfl, ?_⟩) (fun S' hs M2 hI2 h2k h5 => ⟨_, rfl, rfl, ?_⟩) hcm
            · have := stp_c hc
              refine l_pfault (by omega) (by constructor <;> omega) (by constructor <;> omega) (by constructor <;> omega) (by omega) (hKf c p ?_ M2 f2 (by rw [f5]; exact a5))
              rw [hpr, if_neg (by omega), if_neg h41, hc]
            · have hpr2 : prs t n lo (f + 1) a (x :: r, R, m, lw) = prs t n lo f q S' := by rw [hpr, if_neg (by omega), if_neg h41, hs]
              rw [hpr2] at hKf hKs
              obtain ⟨_, _, r3⟩ := rows12 hs q1
              refine ih q (T + 1) S' M2 (by omega) (by omega) t3 (by omega) (by omega) (QS_stp hs ⟨q1, q2, q3, q4⟩) hI2 (by rw [h2k 3]; exact a3) ?_ (by omega) hKf hKs
              rw [e23] at h5
              unfold dgI at hdi ⊢
              by_cases h34 : ty = 34
              · obtain ⟨_, _, u3, u4, u5⟩ := t6 h34
                rw [if_pos h34] at h5
                refine Or.inr ⟨?_, u3⟩
                rcases hdi with z | ⟨z1, z2⟩
                · omega
                · by_cases hap : a = p
                  · exfalso
                    subst hap
                    rcases z2 (by omega) with w | w
                    · omega
                    · exact u5 w
                  · omega
              · rw [if_neg h34] at h5
                exact Or.inl (by omega)
          · refine l_pfault (by omega) (by constructor <;> omega) (by constructor <;> omega) (by constructor <;> omega) (by omega) (hKf (-ty) p (by rw [hpr, if_pos hneg]) M1 hI1.1 a5)
end CPARSE
