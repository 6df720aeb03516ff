/-! THE LAW: its loop -/
section LAWL
variable {g : im_g} {d : Nat} {K : im_K}
theorem l_law (hg : g.2 ≤ 384) (hd : 130 ≤ d) : ∀ (n : Nat) (p4 : Int) (e : im_E) (M : im_M) (w : Wd), 0 ≤ p4 → (g.2 : Int) - p4 < 6 * ((n : Int) + 1) → xcn e + n ≤ 64 → p4 ≤ 400 → LwI e M w → (∀ e' M', xcn e' ≤ 64 → RB M' e' → K (.inl (some (vI 1))) e' M') → im_T g d 452 23 (lwL p4) [] e M K := by
  intro n
  induction n with
  | zero =>
    intro p4 e M w h0 h1 hx h4 hL hK
    refine w_law_23 ⟨by omega, by constructor <;> omega, by constructor <;> omega, fun _ => hK e M (by omega) hL.1.2.2.2.2.1.2.2.2.2.2, fun z => by omega⟩
  | succ n ih =>
    intro p4 e M w h0 h1 hx h4 hL hK
    refine w_law_23 ⟨by omega, by constructor <;> omega, by constructor <;> omega, fun _ => hK e M (by omega) hL.1.2.2.2.2.1.2.2.2.2.2, fun z => ?_⟩
    have hq : 0 ≤ p4 ∧ p4 + 6 ≤ g.2 := by omega
    have hN : LN g d e p4 K := fun ex M' w' hx' h => ih (p4 + 6) (e ++ ex) M' w' (by omega) (by omega) (by rw [(stc_app e ex).2.2]; omega) (by omega) h hK
    exact ⟨⟨by omega, by omega⟩, fun _ => la_feed hL hg hq hd hN, fun _ => la_trim hL hg hq hd hN, fun _ => la_size hL hg hq hd hN, fun _ => la_word hL hg hq hd hN, fun _ => la_show hL hg hq hd hN, fun _ => la_keep hL hg hq hd hN, fun _ => la_fault hL hg hq hd hN, fun _ => la_drop hL hg hq hd hN, fun _ => la_print hL hg hq hd hN, fun _ => la_about hL hg hq hd hN, fun _ => la_parameter hL hg hq hd hN, fun _ => la_forget hL hg hq hd hN, fun _ => la_begin hL hg hq hd hN, fun _ => la_end hL hg hq hd hN, fun _ => la_transact hL hg hq hd hN, fun _ => la_rest hL hg hq hd hN, fun _ => la_state hL hg hq hd hN, fun _ => la_entry hL hg hq hd hN, fun _ => la_name hL hg hq hd hN, fun _ => la_count hL hg hq hd hN, fun _ => la_payment hL hg hq hd hN, fun _ => la_amount hL hg hq hd hN, fun _ => la_warning hL hg hq hd hN, fun _ => la_mint hL hg hq hd hN, fun _ => la_wallet hL hg hq hd hN, fun _ => la_total hL hg hq hd hN, fun _ => la_wallets hL hg hq hd hN, fun _ => la_look hL hg hq hd hN, fun _ => la_tries hL hg hq hd hN, fun _ => la_fuse hL hg hq hd hN, fun _ => la_peek hL hg hq hd hN, fun _ => la_poke hL hg hq hd hN, fun _ => la_cut hL hg hq hd hN, fun _ => la_recover hL hg hq hd hN, fun _ => la_told hL hg hq hd hN, fun _ => hN.nil hL⟩
end LAWL
