section AMV
variable {l : Launch} {G : am_G} {nam : Nat → MethodName} {cco : Nat → ByteArray} {U : List Cond} {hhh : Nat → List (Nat × Nat × Nat × Nat)} {Ev : State → Heap → Prop} {D : va_G} {cl : List vw_C} {cy : Nat → ClassId} {b : Nat} {sa : Nat → Option Nat}
theorem am_sim (h1 : am_H1 G cco) (h2 : am_H2 G nam U) (h3 : am_hC (am_X G) cl U) (h4 : am_H4 G nam U Ev cl cy) (h6 : am_H6 Ev D cl cy b) (h7 : am_H7 G nam cco U hhh Ev cl sa) (h8 : am_H8 U) (h9 : am_H9 G nam) (h10 : am_H10 l G nam cco U hhh Ev b sa) (h11 : am_H11 l G nam cco U hhh Ev b) (h12 : am_H12 l G nam cco U hhh Ev b) (h14 : ∀ u : Nat, u < 900 → ∃ a, sa u = some a) :
    ∀ f, am_SIM l G nam cco U hhh Ev D cl cy b sa f := by
  intro f
  induction f with
  | zero => intro d M pc lv st h o h' hs; cases hs
  | succ f ih =>
    intro d M pc lv st h o h' hs p e R s m args below meth c H locs cells slots n0 t0 Q ls X hl hw hS hc ht hrc hrs hend
    have hMT := am_met h6 h9 h11 ih
    obtain ⟨hx, hb, hml, hown, hts, hE, hlk, hr, hin, htb, htb2, hfr, hlo, hbs⟩ := id X
    have hsz : ls.size = c.maxLocals := hl.1.trans hml.symm
    rw [am_run] at hs
    split at hs
    · rename_i pc' st' hsp
      have hle := am_run_le G _ _ _ _ _ _ _ _ _ hs
      have hle1 := hle.1
      have hle2 := hle.2
      exact h10 M pc st pc' st' hsp p e R s m args below meth c H locs cells slots d Q ls X hS hsz (by omega) (by omega) (ih d M pc' lv st' h o h' hs p e R s m args below meth c H locs cells slots n0 t0 Q ls X hl hw hS hc ht hrc hrs hend)
    · split at hs
      · rename_i E hth
        split at hs
        · rename_i hq
          cases hs
          exact (hend.2 E rfl).1 pc st ls h H locs cells slots hth hq.1 hq.2 rfl hw hS hsz hc ht
        · cases hs
      · split at hs
        · cases hs
        · rename_i ins len hdec
          obtain ⟨hd, hlen⟩ := h1 M pc ins len hdec
          split at hs
          · rename_i pc' lv' st' ha
            exact am_a_ok hx hb hown h14 (fun i v z => hts _ (h2.1 M i v z)) (fun i v z => hts _ (h2.2 M i v z)) hd hlen hl ha (fun ls9 hl9 => ih d M pc' lv' st' h o h' hs p e R s m args below meth c H locs cells slots n0 t0 Q ls9 X hl9 hw hS hc ht hrc hrs hend)
          · split at hs
            · rename_i pc' st' hb9 hbb
              have hle := am_run_le G _ _ _ _ _ _ _ _ _ hs
              obtain ⟨hL, hR⟩ := h4 M args s s.heap hts hE
              exact am_b_ok hx hb hown hts (h6.1 s s.heap hE) h3 hL hR hin hd hlen hbb hw hS hc ht (Nat.le_trans hle.1 hrc) (Nat.le_trans hle.2 hrs) (fun H1 locs1 c1 s1 g1 g2 g3 g4 => ih d M pc' lv st' hb9 o h' hs p e R s m args below meth c H1 locs1 c1 s1 n0 t0 Q ls X hl g1 g2 g3 g4 hrc hrs hend)
            · split at hs
              · rename_i v hrt
                cases hs
                have hl1 : len = 1 := by
                  cases ins <;> simp only [am_rt] at hrt <;> first | (cases hrt; done) | skip
                  all_goals exact hlen rfl
                rw [hl1] at hd
                exact hend.1 v rfl pc ins st ls H locs cells slots hd hrt hw hS hc ht
              · split at hs
                · cases hs
                · rename_i k y ix vs r hi
                  have hl3 : len = 3 := by
                    cases ins <;> simp only [am_inv] at hi <;> first | (cases hi; done) | skip
                    all_goals exact hlen rfl
                  rw [hl3] at hd
                  split at hs
                  · rename_i hk3
                    subst hk3
                    cases ins <;> simp only [am_inv] at hi <;> first | (cases hi; done) | skip
                    case invokestatic jx =>
                      split at hi
                      · split at hi
                        · rename_i hq
                          cases hi
                          exact absurd hq.1 (by decide)
                        · cases hi
                      · cases hi
                    case invokevirtual jx =>
                      split at hi
                      · split at hi
                        · split at hi
                          · split at hi
                            · rename_i hq
                              cases hi
                              exact absurd hq.1 (by decide)
                            · cases hi
                          · cases hi
                        · split at hi
                          · rename_i hq
                            cases hi
                            exact absurd hq.1 (by decide)
                          · cases hi
                        · cases hi
                      · cases hi
                    case invokespecial jx =>
                      split at hi
                      · rename_i k9 y9 n ci hcal
                        split at hi
                        · rename_i i9 r9 hdr
                          split at hi
                          · rename_i hq
                            cases hi
                            obtain ⟨hk, hct⟩ := hq
                            have hn0 : n = 0 := by omega
                            subst hn0
                            obtain ⟨g3, -⟩ := h7 _ _ _ _ _ _ hcal
                            obtain ⟨gl, gi, gc⟩ := g3 rfl
                            have e9 : st = .ref i9 :: r := by simpa using hdr
                            subst e9
                            exact W.objInit hx hb hown (hts _ gl) (hts _ gi) (hts _ gc) rfl hsz rfl hd (by omega) (by
                              have z : 2 * (F0 m pc ls ((Value.ref i9 :: r).map (am_r b sa))).monitorRoom + ((r.map (am_r b sa)).map fun v => v.category).sum ≤ 8 := lv_room (by rw [am_cat_r]; exact hct)
                              omega) (ih d M (pc + 3) lv r h o h' hs p e R s m args below meth c H locs cells slots n0 t0 Q ls X hl hw hS hc ht hrc hrs hend)
                          · cases hi
                        · cases hi
                      · cases hi
                  · rename_i hk3
                    split at hs
                    · rename_i hlen9
                      split at hs
                      · cases hs
                      · rename_i d'
                        split at hs
                        · cases hs
                        · rename_i v h9' hrun
                          have hle := am_run_le G _ _ _ _ _ _ _ _ _ hs
                          exact am_call h1 h6 h7 h8 hMT hi hk3 hlen9 hrun (fun _ => ⟨v, rfl⟩) X hd hsz hw hS hc ht (Nat.le_trans hle.1 hrc) (Nat.le_trans hle.2 hrs)
                            (fun v9 H1 locs1 c1 s1 ho g1 g2 g3 g4 => by
                              cases ho
                              exact ih (d' + 1) M (pc + 3) lv (v.toList ++ r) h9' o h' hs p e R s m args below meth c H1 locs1 c1 s1 n0 t0 Q ls X hl g1 g2 g3 g4 hrc hrs hend)
                            (fun E H1 locs1 c1 s1 q9 ce ho => by cases ho)
                        · rename_i E h9' hrun
                          split at hs
                          · cases hs
                          rename_i hnk
                          have hnt : (k = 2 ∨ k = 6 ∨ k = 7 ∨ k = 8) → ∃ v, (Sum.inr E : am_Out) = .inl v := fun z => absurd z hnk
                          split at hs
                          · rename_i cst hhn
                            cases hs
                            obtain ⟨hrt, hcatch⟩ := h12 M pc E cst hhn
                            exact am_call h1 h6 h7 h8 hMT hi hk3 hlen9 hrun hnt X hd hsz hw hS hc ht hrc hrs
                              (fun v9 H1 locs1 c1 s1 ho => by cases ho)
                              (fun E9 H1 locs1 c1 s1 q9 ce ho g1 g2 g3 g4 g5 g6 g7 => by
                                cases ho
                                exact hcatch p e R s m args below meth c H1 locs1 c1 s1 (d' + 1) Q ls _ q9 ce _ X hl g3 g4 g5 (fun pc1 ls1 hd1 => hend.1 _ rfl pc1 .ireturn [.int cst] ls1 H1 locs1 c1 s1 hd1 (by rw [hrt]; exact if_pos rfl) g1 g2 g6 g7))
                          · split at hs
                            · rename_i htab
                              cases hs
                              exact am_call h1 h6 h7 h8 hMT hi hk3 hlen9 hrun hnt X hd hsz hw hS hc ht hrc hrs
                                (fun v9 H1 locs1 c1 s1 ho => by cases ho)
                                (fun E9 H1 locs1 c1 s1 q9 ce ho g1 g2 g3 g4 g5 g6 g7 => by
                                  cases ho
                                  exact (hend.2 E rfl).2 pc _ ls H1 locs1 c1 s1 q9 ce htab g1 g2 g3 g4 g5 g6 g7)
                            · cases hs
                    · cases hs
end AMV
