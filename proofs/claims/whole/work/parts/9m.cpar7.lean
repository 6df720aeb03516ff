section CPAR7
variable {g : im_g} {d : Nat} {e : im_E} {M M0 : im_M} {K : im_K} {lo dg ty nm v : Int} {x : en} {r : List en} {R : Rw} {m lw : Int} {L : Nat}
theorem c_begins {s : Int} (hs : s = 99 ∨ s = 118 ∨ s = 111) (h4 : M 2 4 = ty) (hK1 : bgn s ty → K (.inl (some (vI 1))) e M) (hK0 : ¬ bgn s ty → K (.inl (some (vI 0))) e M) : im_T g d 53 0 [some (.ref 23), some (vI s), none] [] e M K := by
  refine k_Parser_begins_0 ?_
  rw [h4]
  refine ⟨by constructor <;> omega, fun z => ⟨fun a b => hK1 (by omega), fun a => hK0 (by omega)⟩, fun z => ⟨fun a b => hK1 (by omega), fun a => ⟨fun b c => hK0 (by omega), fun b => hK1 (by omega)⟩⟩, fun z => ⟨fun a b => hK1 (by omega), fun a => hK0 (by omega)⟩⟩
/-- ( : a ) more must come -/
theorem c_meetOpen (h : MH M0 M lo dg ty nm v x r R m lw L) (hx : x.1 = 99 ∨ x.1 = 118 ∨ x.1 = 111) (hlen : (r.length : Int) < 1000000) (hd : 1 ≤ d) (hK : ∀ M', SF M M' → stC M' (cmp (x :: (41, 0, 0, 0) :: r)) → K (.inl none) e M') : im_T g d 52 0 [some (.ref 23), some (vI x.1), some (vI x.2.1)] [] e M K := by
  have hl := h.len
  obtain ⟨hI, hw, h29, h98, h13, h10, hdg, hrm, h4, hty, hnm, hv⟩ := id h
  obtain ⟨p1, p2, p3, p4, p5, p6, p7⟩ := id hI
  have p4 : stC M (cmp (x :: r)) := p4
  have how : im_i32 x.2.1 := by
    obtain ⟨_, _, z⟩ := hw.2.2.2.2.2.1 x List.mem_cons_self (by omega)
    have h5 := hw.2.2.2.1
    have h6 := hw.1
    dsimp only at h5
    rcases z with ⟨_, z⟩ | ⟨z1, z2, _⟩
    · rw [z]; decide
    · dsimp only at z2; constructor <;> omega
  rw [cmp_ne (by omega)] at p4 hl
  have hll : ((x.1, x.2.1) :: cmp r).length = (cmp r).length + 1 := rfl
  have h23 : M 23 4 = ((cmp r).length : Int) + 1 := by rw [p4.1, hll]; omega
  have hpop := stC_pop p4
  have hcm : cmp (x :: (41, 0, 0, 0) :: r) = (x.1, x.2.1) :: (match cmp r with
      | [] => [(41, 1)]
      | y :: r' => if y.1 = 41 then (41, y.2 + 1) :: r' else (41, 1) :: y :: r') := by
    rw [cmp_ne (by omega)]
    congr 1
  have hsfp : SF M (im_u M 23 4 (M 23 4 - 1)) := ⟨fun y a _ _ => im_u_ne _ _ _ a, fun k a => im_rdk _ _ _ a⟩
  have hpush2 : cmp (x :: (41, 0, 0, 0) :: r) = (x.1, x.2.1) :: (41, 1) :: cmp r → im_T g (d - 1) 39 0 [some (.ref 23), some (vI 41), some (vI 1)] [] e (im_u M 23 4 (M 23 4 - 1)) (im_r0 (fun e_ M14 => e = e_ ∧ im_T g (d - 1) 39 0 [some (.ref 23), some (vI x.1), some (vI x.2.1)] [] e M14 (im_r0 (fun e_ M15 => e = e_ ∧ K (.inl none) e M15)))) := fun he =>
    c_push hpop (by omega) (by decide) (by decide) (fun M1 hF1 hs1 => ⟨rfl, rfl, c_push hs1 (by show (cmp r).length + 1 < 1024; omega) (by constructor <;> omega) how (fun M2 hF2 hs2 => ⟨rfl, rfl, hK M2 ((hsfp.trans hF1).trans hF2) (by rw [he]; exact hs2)⟩)⟩)
  refine k_Parser_meetOpen_0 hd ?_
  have h231 : M 23 4 - 1 = ((cmp r).length : Int) := by omega
  cases hc : cmp r with
  | nil =>
    rw [hc] at h231 hcm
    have h0 : M 23 4 - 1 = 0 := h231
    refine ⟨by constructor <;> omega, fun z => absurd z (by omega), fun _ => ?_⟩
    refine hpush2 ?_
    rw [hcm, hc]
  | cons y r' =>
    rw [hc] at h231 hcm p4 hl
    dsimp only at hcm
    have hl2 : (y :: r').length = r'.length + 1 := rfl
    have h0 : M 23 4 - 1 = (r'.length : Int) + 1 := by rw [h231, hl2]; omega
    obtain ⟨_, _, _, q2, q3, q4⟩ := id p4
    have hrl : (y :: r').length ≤ 820 := by have : ((x.1, x.2.1) :: y :: r').length = (y :: r').length + 1 := rfl; omega
    rw [show M 23 4 - 1 - 1 = (r'.length : Int) from by omega, q2, q3]
    have hcu : y.1 = 41 → 1 ≤ y.2 ∧ y.2 ≤ r.length := fun z => ⟨cmp_cnt r y (by rw [hc]; exact List.mem_cons_self) z, cmp_cntU r y (by rw [hc]; exact List.mem_cons_self) z⟩
    refine ⟨by constructor <;> omega, fun _ => ⟨by constructor <;> omega, fun z => ?_⟩, fun z => ?_⟩
    · have hcu := hcu z
      refine ⟨by constructor <;> omega, ?_⟩
      generalize hM1 : im_u (im_u M 23 4 (M 23 4 - 1)) 25 (r'.length : Int) (y.2 + 1) = M1
      have hsf1 : SF M M1 := ⟨fun u a b c => by rw [← hM1, im_u_ne _ _ _ c, im_u_ne _ _ _ a], fun k a => by rw [← hM1, im_rdn _ _ _ _ (by decide), im_rdk _ _ _ a]⟩
      have hs1 : stC M1 ((41, y.2 + 1) :: r') := by
        refine ⟨?_, ?_, ?_, stk_congr r' q4 (fun i i0 i1 => ⟨?_, ?_⟩)⟩
        · rw [← hM1, im_rdn _ _ _ _ (by decide), im_rds, h0]; rfl
        · rw [← hM1, im_rdn _ _ _ _ (by decide), im_rdn _ _ _ _ (by decide), q2]; exact z
        · rw [← hM1, im_rds]
        · rw [← hM1, im_rdn _ _ _ _ (by decide), im_rdn _ _ _ _ (by decide)]
        · rw [← hM1, im_rdk _ _ _ (by omega), im_rdn _ _ _ _ (by decide)]
      refine c_push hs1 (by show r'.length + 1 < 1024; omega) (by constructor <;> omega) how (fun M2 hF2 hs2 => ⟨rfl, rfl, hK M2 (hsf1.trans hF2) ?_⟩)
      rw [hcm, if_pos z]
      exact hs2
    · have hy : y.1 ≠ 41 := by
        rcases z with z | ⟨_, z⟩
        · omega
        · exact z
      have h3 := hpush2 (by rw [hcm, if_neg hy, hc])
      exact h3
/-- what a new node's row must be -/
theorem rowC_new {E E' : Int} {M' : im_M} {ow sl : Int} (hom : m ≠ ow) (hsl : ow = -1 ∨ (1 ≤ sl ∧ sl ≤ 3)) (h14 : M' 14 m = ty) (h16 : M' 16 m = deepOf R ow) (h17 : M' 17 m = whenOf R ow + if ty = 3 then 1 else 0) (h18 : (ty = 1 ∨ ty = 3) → M' 18 m = 0) (h19 : M' 19 m = if ty = 35 then nm else 0) (h20 : M' 20 m = 0) (h21 : M' 21 m = 0) (h34 : ty = 34 → ∃ p', dgs M' (M' 18 m) v p' ∧ p' ≤ E') (h29 : ty ≠ 29) : rowC M' (nodR R m ty nm v ow sl) E' m := by
  have e0 : nodR R m ty nm v ow sl 0 m = ty := by rw [nodR_m 0 hom (by decide) hsl, newN_0]
  unfold rowC
  rw [e0]
  refine ⟨h14, ?_, ?_, ?_, ?_, ?_, fun z => ?_, fun z => ?_, fun z => absurd z h29⟩
  · rw [h16, nodR_m 1 hom (by decide) hsl, newN_1]
  · rw [h17, nodR_m 2 hom (by decide) hsl, newN_2]
  · rw [h19]
    unfold nodR setv
    by_cases h35 : ty = 35
    · rw [if_pos h35, if_neg (by omega), if_pos h35, im_rds]
    · rw [if_neg h35]
      have e4 : lnk (newN R m ty ow) ow sl m 4 m = 0 := by
        rcases hsl with z | z
        · subst z; rw [lnk_r, newN_4]
        · rw [lnk_ne 4 m (by omega) z, newN_4]
      by_cases h34' : ty = 34
      · rw [if_pos h34', im_rdn _ _ _ _ (by decide), e4]
      · rw [if_neg h34', if_neg h35, e4]
  · rw [h20, nodR_m 5 hom (by decide) hsl, newN_5]
  · rw [h21, nodR_m 6 hom (by decide) hsl, newN_6]
  · rw [h18 z, nodR_m 3 hom (by decide) hsl, newN_3]
  · obtain ⟨p', a, b⟩ := h34 z
    have e7 : nodR R m ty nm v ow sl 7 m = v := by
      unfold nodR setv
      rw [if_pos z, im_rds]
    rw [e7]
    exact ⟨p', a, b⟩
end CPAR7
