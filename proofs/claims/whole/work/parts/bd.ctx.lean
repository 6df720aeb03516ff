/-! THE CLASS in a transaction: books and rows, what stands where -/
def cbx (M : im_M) (b n : Nat) : Prop := ∃ β, cb M b n β
def rw6 (M : im_M) (b : Nat) (ρ : Rl) : Prop := ∃ V', crw M b 60 ρ.1 ρ.2.1 ρ.2.2.1 ρ.2.2.2.1 ρ.2.2.2.2.1 V' ∧ ∀ i : Nat, i < ρ.1 → ρ.2.1 i ≠ 5 → V' i = ρ.2.2.2.2.2 i
theorem rw6_congr {M M' : im_M} {b : Nat} {ρ : Rl} (h : rw6 M b ρ) (hs : ∀ x, b ≤ x → x < b + 126 → M' x = M x) : rw6 M' b ρ := by
  obtain ⟨V', h1, h2⟩ := h
  exact ⟨V', crw_congr h1 (fun x a b => hs x a (by omega)), h2⟩
section CTX
variable {g : im_g} {d : Nat} {e : im_E} {M : im_M} {K : im_K}
theorem c_putB {b n q : Nat} {β : Bk} {a a' v : Int} (hb : bkN e b n) (hc : cb M b n β) (hq : im_num e q) (hqo : q + 1 < b ∨ b + 6 + 2 * n ≤ q) (hv : cn M q v) (ha : im_i64 a) (ha' : im_i64 a') (hd : 1 ≤ d)
    (hK : ∀ β', bput β n a a' v = some β' → ∀ M', BF b n M M' → cb M' b n β' → K (.inl (some (vI 1))) e M') (hK0 : bput β n a a' v = none → K (.inl (some (vI 0))) e M) : im_T g d 141 0 [some (.ref b), some (vL a), none, some (vL a'), none, some (.ref q), none] [] e M K := by
  refine c_put hb hc hq hqo hv ha ha' (ps_ok β a a') hd (fun h M' f1 f2 => hK (bset β a a' v) ?_ M' f1 f2) (fun h hk M' f1 f2 => hK (bins β a a' v) ?_ M' f1 f2) (fun h hk => hK0 ?_)
  · unfold bput; rw [if_pos (show hs2 β a a' from h)]
  · unfold bput; rw [if_neg (show ¬ hs2 β a a' from h), if_pos hk]
  · unfold bput; rw [if_neg (show ¬ hs2 β a a' from h), if_neg (by omega)]
theorem c_creditB {b n q : Nat} {β : Bk} {a a' v : Int} (hb : bkN e b n) (hc : cb M b n β) (hq : im_num e q) (hqo : q + 1 < b ∨ b + 6 + 2 * n ≤ q) (hv : cn M q v) (hv0 : 0 ≤ v) (hp : posb β) (ha : im_i64 a) (ha' : im_i64 a') (hd : 2 ≤ d)
    (hK : ∀ β', bcre β n a a' v = .inr β' → ∀ M', BF b n M M' → cb M' b n β' → K (.inl (some (vI 0))) e M') (hKe : ∀ c, bcre β n a a' v = .inl c → c ≠ 0 → im_i32 c → ∀ M', BF b n M M' → cbx M' b n → K (.inl (some (vI c))) e M') : im_T g d 99 0 [some (.ref b), some (vL a), none, some (vL a'), none, some (.ref q), none] [] e M K := by
  refine c_credit hb hc hq hqo hv hv0 (fun i hi => by have := hp i (by omega) (by omega); omega) ha ha' (ps_ok β a a') hd (fun h hs M' f1 f2 => hK (bset β a a' (β.2.2.2 (ps β a a') + v)) ?_ M' f1 f2) (fun h hs M' f1 f2 => hKe (-8) ?_ (by decide) (by decide) M' f1 ⟨bset β a a' 0, f2⟩) (fun h hk M' f1 f2 => hK (bins β a a' v) ?_ M' f1 f2) (fun h hk => hKe (-9) ?_ (by decide) (by decide) M (BF.rf _ _ _) ⟨β, hc⟩)
  · unfold bcre; rw [if_pos (show hs2 β a a' from h), if_pos (show -LIM < _ ∧ _ < LIM from hs)]
  · unfold bcre; rw [if_pos (show hs2 β a a' from h), if_neg (show ¬ (-LIM < _ ∧ _ < LIM) from hs)]
  · unfold bcre; rw [if_neg (show ¬ hs2 β a a' from h), if_pos hk]
  · unfold bcre; rw [if_neg (show ¬ hs2 β a a' from h), if_neg (by omega)]
theorem c_debitB {b n q : Nat} {β : Bk} {a a' v : Int} (hb : bkN e b n) (hc : cb M b n β) (hq : im_num e q) (hqo : q + 1 < b ∨ b + 6 + 2 * n ≤ q) (hv : cn M q v) (hv0 : 0 ≤ v) (ha : im_i64 a) (ha' : im_i64 a') (hle : hs2 β a a' → v ≤ β.2.2.2 (ps β a a')) (hd : 2 ≤ d)
    (hK : ∀ M', BF b n M M' → cb M' b n (bdeb β a a' v) → K (.inl none) e M') : im_T g d 119 0 [some (.ref b), some (vL a), none, some (vL a'), none, some (.ref q), none] [] e M K := by
  refine c_debit hb hc hq hqo hv hv0 ha ha' (ps_ok β a a') hle hd (fun h hs M' f1 f2 => hK M' f1 ?_) (fun h hs M' f1 f2 => hK M' f1 ?_) (fun h => hK M (BF.rf _ _ _) ?_)
  · unfold bdeb; rw [if_pos (show hs2 β a a' from h), if_neg hs]; exact f2
  · unfold bdeb; rw [if_pos (show hs2 β a a' from h), if_pos hs]; exact f2
  · unfold bdeb; rw [if_neg (show ¬ hs2 β a a' from h)]; exact hc
theorem c_addR {b q : Nat} {ρ : Rl} {t a a' a'' v w : Int} (hb : rwN e b 60) (hc : rw6 M b ρ) (hq : im_num e q) (hqo : q + 1 < b ∨ b + 126 ≤ q) (hv : cn M q v) (hvw : t ≠ 5 → v = w) (ht : im_i32 t) (ha : im_i64 a) (ha' : im_i64 a') (ha'' : im_i64 a'') (hd : 1 ≤ d)
    (hK1 : ρ.1 < 60 → ∀ M', BF b 60 M M' → rw6 M' b (radd ρ t a a' a'' w) → K (.inl (some (vI 1))) e M') (hK0 : ¬ ρ.1 < 60 → K (.inl (some (vI 0))) e M) : im_T g d 118 0 [some (.ref b), some (vI t), some (vL a), none, some (vL a'), none, some (vL a''), none, some (.ref q)] [] e M K := by
  obtain ⟨V', h1, h2⟩ := hc
  refine c_radd hb h1 hq (by omega) hv ht ha ha' ha'' hd (fun hk M' f1 f2 => hK1 hk M' f1 ⟨_, f2, fun i hi h5 => ?_⟩) (fun hk => hK0 (by omega))
  have hi : i < ρ.1 + 1 := hi
  show im_up V' ρ.1 v i = im_up ρ.2.2.2.2.2 ρ.1 w i
  have h5 : im_up ρ.2.1 ρ.1 t i ≠ 5 := h5
  by_cases c : i = ρ.1
  · rw [c, im_up_eq, im_up_eq]
    rw [c, im_up_eq] at h5
    exact hvw h5
  · rw [im_up_ne _ _ (by omega), im_up_ne _ _ (by omega)]
    rw [im_up_ne _ _ (by omega)] at h5
    exact h2 i (by omega) h5
end CTX
/-- the machine's wallets: of no matter where it looks ahead -/
def cwb (M : im_M) (lk : Int) (β : Bk) : Prop := (lk = 0 → cb M 1207 60 β) ∧ cbx M 1207 60
theorem cwb_congr {M M' : im_M} {lk : Int} {β : Bk} (h : cwb M lk β) (hs : ∀ x, 1207 ≤ x → x < 1207 + 6 + 2 * 60 → M' x = M x) : cwb M' lk β := ⟨fun z => cbk_congr (h.1 z) hs, h.2.imp fun _ q => cbk_congr q hs⟩
theorem cwb_of {M : im_M} {lk : Int} {β : Bk} (h : cb M 1207 60 β) : cwb M lk β := ⟨fun _ => h, ⟨_, h⟩⟩
/-- the machine at work: fl tells whether something was LARGE -/
def CT (M : im_M) (e : im_E) (R : Rw) (m E : Int) (giv : Bk) (st en lk fl : Int) (s : TS) (bs bp np : Nat) : Prop := CEb M e (s.env giv st en) bs bp np ∧ CP M R m E ∧ NP M ∧ (M 931 12 = fl ∧ M 931 6 = lk ∧ M 931 13 = s.cp ∧ M bs 5 = s.nd) ∧ cwb M lk s.wal ∧ rw6 M 1333 s.pay ∧ rw6 M 1459 s.wrn ∧ (∃ w, cn M 934 w) ∧ (23 ≤ bs ∧ (lk = 0 ∨ lk = 1) ∧ (bs + 259 ≤ bp ∨ bp + 6 + 2 * np ≤ bs))
/-- what it leaves as it was -/
def XT (bs : Nat) (M M' : im_M) : Prop := (∀ x, (x < bs ∨ bs + 259 ≤ x) → x ≠ 931 → x ≠ 932 → x ≠ 933 → x ≠ 934 → x ≠ 935 → (x < 1207 ∨ 1793 ≤ x) → M' x = M x) ∧ (∀ k, k ≠ 12 → k ≠ 13 → M' 931 k = M 931 k) ∧ (∀ k, k ≠ 5 → M' bs k = M bs k)
theorem XT.rf (bs : Nat) (M : im_M) : XT bs M M := ⟨fun _ _ _ _ _ _ _ _ => rfl, fun _ _ _ => rfl, fun _ _ => rfl⟩
theorem XT.trans {bs : Nat} {M M1 M2 : im_M} (h : XT bs M M1) (h' : XT bs M1 M2) : XT bs M M2 := ⟨fun x a b c d f i j => (h'.1 x a b c d f i j).trans (h.1 x a b c d f i j), fun k a b => (h'.2.1 k a b).trans (h.2.1 k a b), fun k a => (h'.2.2 k a).trans (h.2.2 k a)⟩
theorem XT.wd {δ bs : Nat} {M M' : im_M} (h : WD δ M M') (hb : bs + 259 ≤ 931 ∨ 1793 ≤ bs) : XT bs M M' := ⟨fun x _ a b c _ _ f => h.1 x a b c (by omega), fun k a _ => h.2.1 k a, fun k _ => by rw [h.1 bs (by omega) (by omega) (by omega) (by omega)]⟩
theorem CT.wd {δ : Nat} {M M' : im_M} {e : im_E} {R : Rw} {m E : Int} {giv : Bk} {st en lk fl fl' : Int} {s : TS} {bs bp np : Nat} (h : CT M e R m E giv st en lk fl s bs bp np) (hW : WD δ M M') (hfl : M' 931 12 = fl') : CT M' e R m E giv st en lk fl' s bs bp np := by
  obtain ⟨c1, c2, c3, ⟨c4, c5, c6, c7⟩, c8, c9, c10, ⟨w, c11⟩, c12⟩ := h
  have hb := c1.2.2.1
  exact ⟨hW.ce c1, hW.cp c2, hW.2.2.1, ⟨hfl, by rw [hW.2.1 6 (by decide)]; exact c5, by rw [hW.2.1 13 (by decide)]; exact c6, by rw [hW.1 bs (by omega) (by omega) (by omega) (by omega)]; exact c7⟩, cwb_congr c8 (fun x a b => hW.1 x (by omega) (by omega) (by omega) (by omega)), rw6_congr c9 (fun x a b => hW.1 x (by omega) (by omega) (by omega) (by omega)), rw6_congr c10 (fun x a b => hW.1 x (by omega) (by omega) (by omega) (by omega)), ⟨w, cn_congr c11 (hW.1 _ (by decide) (by decide) (by decide) (by decide)) (hW.1 _ (by decide) (by decide) (by decide) (by decide))⟩, c12⟩
theorem CT.acc {M M' : im_M} {e : im_E} {R : Rw} {m E : Int} {giv : Bk} {st en lk fl : Int} {s : TS} {bs bp np : Nat} (h : CT M e R m E giv st en lk fl s bs bp np) {β : Bk} (hs : ∀ x, x < bs + 1 ∨ bs + 87 ≤ x → M' x = M x) (hn : cb M' (bs + 1) 40 β) : CT M' e R m E giv st en lk fl (s.sAcc β) bs bp np ∧ XT bs M M' := by
  obtain ⟨⟨a1, a2, a3, a4, ⟨b1, b2, b3, b4⟩, a6, a7⟩, c2, c3, ⟨c4, c5, c6, c7⟩, c8, c9, c10, ⟨w, c11⟩, ⟨c12, c13, c14⟩⟩ := h
  have f931 : M' 931 = M 931 := hs 931 (by omega)
  have fbs : M' bs = M bs := hs bs (by omega)
  have f932 : M' 932 = M 932 := hs 932 (by omega)
  have k1 : ∀ x : Nat, 14 ≤ x → x ≤ 22 → M' x = M x := fun x x1 x2 => hs x (by clear c13 c14 a4; omega)
  have k2 : ∀ x, 1585 ≤ x → x < 1793 → M' x = M x := fun x x1 x2 => hs x (by clear c13 c14 a4; omega)
  have k3 : ∀ x, bp ≤ x → x < bp + 6 + 2 * np → M' x = M x := fun x x1 x2 => hs x (by clear c13; omega)
  refine ⟨⟨⟨by rw [f931]; exact a1, a2, a3, a4, ⟨hn, cbk_congr b2 (fun x x1 x2 => hs x (by clear c13 c14 a4; omega)), cbk_congr b3 (fun x x1 x2 => hs x (by clear c13 c14 a4; omega)), cbk_congr b4 k3⟩, by rw [f931]; exact a6, a7⟩, CP_congr c2 k1, c3.congr f932 k2, ⟨by rw [f931]; exact c4, by rw [f931]; exact c5, by rw [f931]; exact c6, by rw [fbs]; exact c7⟩, cwb_congr c8 (fun x x1 x2 => hs x (by clear c13 c14 a4; omega)), rw6_congr c9 (fun x x1 x2 => hs x (by clear c13 c14 a4; omega)), rw6_congr c10 (fun x x1 x2 => hs x (by clear c13 c14 a4; omega)), ⟨w, cn_congr c11 (hs _ (by clear c13 c14 a4; omega)) (hs _ (by clear c13 c14 a4; omega))⟩, ⟨c12, c13, c14⟩⟩, ⟨fun x x0 x1 x2 x3 x4 x5 x6 => hs x (by clear c13 c14 a4; omega), fun k _ _ => by rw [f931], fun k _ => by rw [fbs]⟩⟩
theorem CT.cho {M M' : im_M} {e : im_E} {R : Rw} {m E : Int} {giv : Bk} {st en lk fl : Int} {s : TS} {bs bp np : Nat} (h : CT M e R m E giv st en lk fl s bs bp np) {β : Bk} (hs : ∀ x, x < bs + 87 ∨ bs + 173 ≤ x → M' x = M x) (hn : cb M' (bs + 87) 40 β) : CT M' e R m E giv st en lk fl (s.sCho β) bs bp np ∧ XT bs M M' := by
  obtain ⟨⟨a1, a2, a3, a4, ⟨b1, b2, b3, b4⟩, a6, a7⟩, c2, c3, ⟨c4, c5, c6, c7⟩, c8, c9, c10, ⟨w, c11⟩, ⟨c12, c13, c14⟩⟩ := h
  have f931 : M' 931 = M 931 := hs 931 (by omega)
  have fbs : M' bs = M bs := hs bs (by omega)
  have f932 : M' 932 = M 932 := hs 932 (by omega)
  have k1 : ∀ x : Nat, 14 ≤ x → x ≤ 22 → M' x = M x := fun x x1 x2 => hs x (by clear c13 c14 a4; omega)
  have k2 : ∀ x, 1585 ≤ x → x < 1793 → M' x = M x := fun x x1 x2 => hs x (by clear c13 c14 a4; omega)
  have k3 : ∀ x, bp ≤ x → x < bp + 6 + 2 * np → M' x = M x := fun x x1 x2 => hs x (by clear c13; omega)
  refine ⟨⟨⟨by rw [f931]; exact a1, a2, a3, a4, ⟨cbk_congr b1 (fun x x1 x2 => hs x (by clear c13 c14 a4; omega)), hn, cbk_congr b3 (fun x x1 x2 => hs x (by clear c13 c14 a4; omega)), cbk_congr b4 k3⟩, by rw [f931]; exact a6, a7⟩, CP_congr c2 k1, c3.congr f932 k2, ⟨by rw [f931]; exact c4, by rw [f931]; exact c5, by rw [f931]; exact c6, by rw [fbs]; exact c7⟩, cwb_congr c8 (fun x x1 x2 => hs x (by clear c13 c14 a4; omega)), rw6_congr c9 (fun x x1 x2 => hs x (by clear c13 c14 a4; omega)), rw6_congr c10 (fun x x1 x2 => hs x (by clear c13 c14 a4; omega)), ⟨w, cn_congr c11 (hs _ (by clear c13 c14 a4; omega)) (hs _ (by clear c13 c14 a4; omega))⟩, ⟨c12, c13, c14⟩⟩, ⟨fun x x0 x1 x2 x3 x4 x5 x6 => hs x (by clear c13 c14 a4; omega), fun k _ _ => by rw [f931], fun k _ => by rw [fbs]⟩⟩
theorem CT.lts {M M' : im_M} {e : im_E} {R : Rw} {m E : Int} {giv : Bk} {st en lk fl : Int} {s : TS} {bs bp np : Nat} (h : CT M e R m E giv st en lk fl s bs bp np) {β : Bk} (hs : ∀ x, x < bs + 173 ∨ bs + 259 ≤ x → M' x = M x) (hn : cb M' (bs + 173) 40 β) : CT M' e R m E giv st en lk fl (s.sLts β) bs bp np ∧ XT bs M M' := by
  obtain ⟨⟨a1, a2, a3, a4, ⟨b1, b2, b3, b4⟩, a6, a7⟩, c2, c3, ⟨c4, c5, c6, c7⟩, c8, c9, c10, ⟨w, c11⟩, ⟨c12, c13, c14⟩⟩ := h
  have f931 : M' 931 = M 931 := hs 931 (by omega)
  have fbs : M' bs = M bs := hs bs (by omega)
  have f932 : M' 932 = M 932 := hs 932 (by omega)
  have k1 : ∀ x : Nat, 14 ≤ x → x ≤ 22 → M' x = M x := fun x x1 x2 => hs x (by clear c13 c14 a4; omega)
  have k2 : ∀ x, 1585 ≤ x → x < 1793 → M' x = M x := fun x x1 x2 => hs x (by clear c13 c14 a4; omega)
  have k3 : ∀ x, bp ≤ x → x < bp + 6 + 2 * np → M' x = M x := fun x x1 x2 => hs x (by clear c13; omega)
  refine ⟨⟨⟨by rw [f931]; exact a1, a2, a3, a4, ⟨cbk_congr b1 (fun x x1 x2 => hs x (by clear c13 c14 a4; omega)), cbk_congr b2 (fun x x1 x2 => hs x (by clear c13 c14 a4; omega)), hn, cbk_congr b4 k3⟩, by rw [f931]; exact a6, a7⟩, CP_congr c2 k1, c3.congr f932 k2, ⟨by rw [f931]; exact c4, by rw [f931]; exact c5, by rw [f931]; exact c6, by rw [fbs]; exact c7⟩, cwb_congr c8 (fun x x1 x2 => hs x (by clear c13 c14 a4; omega)), rw6_congr c9 (fun x x1 x2 => hs x (by clear c13 c14 a4; omega)), rw6_congr c10 (fun x x1 x2 => hs x (by clear c13 c14 a4; omega)), ⟨w, cn_congr c11 (hs _ (by clear c13 c14 a4; omega)) (hs _ (by clear c13 c14 a4; omega))⟩, ⟨c12, c13, c14⟩⟩, ⟨fun x x0 x1 x2 x3 x4 x5 x6 => hs x (by clear c13 c14 a4; omega), fun k _ _ => by rw [f931], fun k _ => by rw [fbs]⟩⟩
theorem CT.wal {M M' : im_M} {e : im_E} {R : Rw} {m E : Int} {giv : Bk} {st en lk fl : Int} {s : TS} {bs bp np : Nat} (h : CT M e R m E giv st en lk fl s bs bp np) {β : Bk} (hs : ∀ x, x < 1207 ∨ 1333 ≤ x → M' x = M x) (hn : cb M' 1207 60 β) : CT M' e R m E giv st en lk fl (s.sWal β) bs bp np ∧ XT bs M M' := by
  obtain ⟨⟨a1, a2, a3, a4, ⟨b1, b2, b3, b4⟩, a6, a7⟩, c2, c3, ⟨c4, c5, c6, c7⟩, c8, c9, c10, ⟨w, c11⟩, ⟨c12, c13, c14⟩⟩ := h
  have f931 : M' 931 = M 931 := hs 931 (by omega)
  have fbs : M' bs = M bs := hs bs (by omega)
  have f932 : M' 932 = M 932 := hs 932 (by omega)
  have k1 : ∀ x : Nat, 14 ≤ x → x ≤ 22 → M' x = M x := fun x x1 x2 => hs x (by clear c13 c14 a4; omega)
  have k2 : ∀ x, 1585 ≤ x → x < 1793 → M' x = M x := fun x x1 x2 => hs x (by clear c13 c14 a4; omega)
  have k3 : ∀ x, bp ≤ x → x < bp + 6 + 2 * np → M' x = M x := fun x x1 x2 => hs x (by clear c13; omega)
  refine ⟨⟨⟨by rw [f931]; exact a1, a2, a3, a4, ⟨cbk_congr b1 (fun x x1 x2 => hs x (by clear c13 c14 a4; omega)), cbk_congr b2 (fun x x1 x2 => hs x (by clear c13 c14 a4; omega)), cbk_congr b3 (fun x x1 x2 => hs x (by clear c13 c14 a4; omega)), cbk_congr b4 k3⟩, by rw [f931]; exact a6, a7⟩, CP_congr c2 k1, c3.congr f932 k2, ⟨by rw [f931]; exact c4, by rw [f931]; exact c5, by rw [f931]; exact c6, by rw [fbs]; exact c7⟩, cwb_of hn, rw6_congr c9 (fun x x1 x2 => hs x (by clear c13 c14 a4; omega)), rw6_congr c10 (fun x x1 x2 => hs x (by clear c13 c14 a4; omega)), ⟨w, cn_congr c11 (hs _ (by clear c13 c14 a4; omega)) (hs _ (by clear c13 c14 a4; omega))⟩, ⟨c12, c13, c14⟩⟩, ⟨fun x x0 x1 x2 x3 x4 x5 x6 => hs x (by clear c13 c14 a4; omega), fun k _ _ => by rw [f931], fun k _ => by rw [fbs]⟩⟩
theorem CT.pay {M M' : im_M} {e : im_E} {R : Rw} {m E : Int} {giv : Bk} {st en lk fl : Int} {s : TS} {bs bp np : Nat} (h : CT M e R m E giv st en lk fl s bs bp np) {ρ : Rl} (hs : ∀ x, x < 1333 ∨ 1459 ≤ x → M' x = M x) (hn : rw6 M' 1333 ρ) : CT M' e R m E giv st en lk fl (s.sPay ρ) bs bp np ∧ XT bs M M' := by
  obtain ⟨⟨a1, a2, a3, a4, ⟨b1, b2, b3, b4⟩, a6, a7⟩, c2, c3, ⟨c4, c5, c6, c7⟩, c8, c9, c10, ⟨w, c11⟩, ⟨c12, c13, c14⟩⟩ := h
  have f931 : M' 931 = M 931 := hs 931 (by omega)
  have fbs : M' bs = M bs := hs bs (by omega)
  have f932 : M' 932 = M 932 := hs 932 (by omega)
  have k1 : ∀ x : Nat, 14 ≤ x → x ≤ 22 → M' x = M x := fun x x1 x2 => hs x (by clear c13 c14 a4; omega)
  have k2 : ∀ x, 1585 ≤ x → x < 1793 → M' x = M x := fun x x1 x2 => hs x (by clear c13 c14 a4; omega)
  have k3 : ∀ x, bp ≤ x → x < bp + 6 + 2 * np → M' x = M x := fun x x1 x2 => hs x (by clear c13; omega)
  refine ⟨⟨⟨by rw [f931]; exact a1, a2, a3, a4, ⟨cbk_congr b1 (fun x x1 x2 => hs x (by clear c13 c14 a4; omega)), cbk_congr b2 (fun x x1 x2 => hs x (by clear c13 c14 a4; omega)), cbk_congr b3 (fun x x1 x2 => hs x (by clear c13 c14 a4; omega)), cbk_congr b4 k3⟩, by rw [f931]; exact a6, a7⟩, CP_congr c2 k1, c3.congr f932 k2, ⟨by rw [f931]; exact c4, by rw [f931]; exact c5, by rw [f931]; exact c6, by rw [fbs]; exact c7⟩, cwb_congr c8 (fun x x1 x2 => hs x (by clear c13 c14 a4; omega)), hn, rw6_congr c10 (fun x x1 x2 => hs x (by clear c13 c14 a4; omega)), ⟨w, cn_congr c11 (hs _ (by clear c13 c14 a4; omega)) (hs _ (by clear c13 c14 a4; omega))⟩, ⟨c12, c13, c14⟩⟩, ⟨fun x x0 x1 x2 x3 x4 x5 x6 => hs x (by clear c13 c14 a4; omega), fun k _ _ => by rw [f931], fun k _ => by rw [fbs]⟩⟩
theorem CT.wrn {M M' : im_M} {e : im_E} {R : Rw} {m E : Int} {giv : Bk} {st en lk fl : Int} {s : TS} {bs bp np : Nat} (h : CT M e R m E giv st en lk fl s bs bp np) {ρ : Rl} (hs : ∀ x, x < 1459 ∨ 1585 ≤ x → M' x = M x) (hn : rw6 M' 1459 ρ) : CT M' e R m E giv st en lk fl (s.sWrn ρ) bs bp np ∧ XT bs M M' := by
  obtain ⟨⟨a1, a2, a3, a4, ⟨b1, b2, b3, b4⟩, a6, a7⟩, c2, c3, ⟨c4, c5, c6, c7⟩, c8, c9, c10, ⟨w, c11⟩, ⟨c12, c13, c14⟩⟩ := h
  have f931 : M' 931 = M 931 := hs 931 (by omega)
  have fbs : M' bs = M bs := hs bs (by omega)
  have f932 : M' 932 = M 932 := hs 932 (by omega)
  have k1 : ∀ x : Nat, 14 ≤ x → x ≤ 22 → M' x = M x := fun x x1 x2 => hs x (by clear c13 c14 a4; omega)
  have k2 : ∀ x, 1585 ≤ x → x < 1793 → M' x = M x := fun x x1 x2 => hs x (by clear c13 c14 a4; omega)
  have k3 : ∀ x, bp ≤ x → x < bp + 6 + 2 * np → M' x = M x := fun x x1 x2 => hs x (by clear c13; omega)
  refine ⟨⟨⟨by rw [f931]; exact a1, a2, a3, a4, ⟨cbk_congr b1 (fun x x1 x2 => hs x (by clear c13 c14 a4; omega)), cbk_congr b2 (fun x x1 x2 => hs x (by clear c13 c14 a4; omega)), cbk_congr b3 (fun x x1 x2 => hs x (by clear c13 c14 a4; omega)), cbk_congr b4 k3⟩, by rw [f931]; exact a6, a7⟩, CP_congr c2 k1, c3.congr f932 k2, ⟨by rw [f931]; exact c4, by rw [f931]; exact c5, by rw [f931]; exact c6, by rw [fbs]; exact c7⟩, cwb_congr c8 (fun x x1 x2 => hs x (by clear c13 c14 a4; omega)), rw6_congr c9 (fun x x1 x2 => hs x (by clear c13 c14 a4; omega)), hn, ⟨w, cn_congr c11 (hs _ (by clear c13 c14 a4; omega)) (hs _ (by clear c13 c14 a4; omega))⟩, ⟨c12, c13, c14⟩⟩, ⟨fun x x0 x1 x2 x3 x4 x5 x6 => hs x (by clear c13 c14 a4; omega), fun k _ _ => by rw [f931], fun k _ => by rw [fbs]⟩⟩
theorem CT.pd {M M' : im_M} {e : im_E} {R : Rw} {m E : Int} {giv : Bk} {st en lk fl : Int} {s : TS} {bs bp np : Nat} (h : CT M e R m E giv st en lk fl s bs bp np)  (hs : ∀ x, x < 934 ∨ 936 ≤ x → M' x = M x) (hn : ∃ w, cn M' 934 w) : CT M' e R m E giv st en lk fl (s) bs bp np ∧ XT bs M M' := by
  obtain ⟨⟨a1, a2, a3, a4, ⟨b1, b2, b3, b4⟩, a6, a7⟩, c2, c3, ⟨c4, c5, c6, c7⟩, c8, c9, c10, ⟨w, c11⟩, ⟨c12, c13, c14⟩⟩ := h
  have f931 : M' 931 = M 931 := hs 931 (by omega)
  have fbs : M' bs = M bs := hs bs (by omega)
  have f932 : M' 932 = M 932 := hs 932 (by omega)
  have k1 : ∀ x : Nat, 14 ≤ x → x ≤ 22 → M' x = M x := fun x x1 x2 => hs x (by clear c13 c14 a4; omega)
  have k2 : ∀ x, 1585 ≤ x → x < 1793 → M' x = M x := fun x x1 x2 => hs x (by clear c13 c14 a4; omega)
  have k3 : ∀ x, bp ≤ x → x < bp + 6 + 2 * np → M' x = M x := fun x x1 x2 => hs x (by clear c13; omega)
  refine ⟨⟨⟨by rw [f931]; exact a1, a2, a3, a4, ⟨cbk_congr b1 (fun x x1 x2 => hs x (by clear c13 c14 a4; omega)), cbk_congr b2 (fun x x1 x2 => hs x (by clear c13 c14 a4; omega)), cbk_congr b3 (fun x x1 x2 => hs x (by clear c13 c14 a4; omega)), cbk_congr b4 k3⟩, by rw [f931]; exact a6, a7⟩, CP_congr c2 k1, c3.congr f932 k2, ⟨by rw [f931]; exact c4, by rw [f931]; exact c5, by rw [f931]; exact c6, by rw [fbs]; exact c7⟩, cwb_congr c8 (fun x x1 x2 => hs x (by clear c13 c14 a4; omega)), rw6_congr c9 (fun x x1 x2 => hs x (by clear c13 c14 a4; omega)), rw6_congr c10 (fun x x1 x2 => hs x (by clear c13 c14 a4; omega)), hn, ⟨c12, c13, c14⟩⟩, ⟨fun x x0 x1 x2 x3 x4 x5 x6 => hs x (by clear c13 c14 a4; omega), fun k _ _ => by rw [f931], fun k _ => by rw [fbs]⟩⟩
