/-! WHAT EACH WORLD KEEPS -/
def rtO (R : Rw) (m r : Int) : Prop := (0 ≤ r ∧ r < m) ∧ R 1 r = 0 ∧ (0 ≤ R 0 r ∧ R 0 r ≤ 5) ∧ eN R m r - r ≤ 1000
def inC (R : Rw) (m : Int) (giv : Bk) (nd : Int) : Prop := ∃ e0 ρ, e0 ≤ m ∧ ((0 ≤ ρ ∧ ρ < e0) ∧ R 1 ρ = 0 ∧ e0 - ρ ≤ 1000) ∧ EB R m e0 nd ∧ TP R m e0 giv
def inO (R : Rw) (m : Int) (I : Ins) : Prop := (I.1 = 0 ∨ I.1 = 1) ∧ I.2.2.2.2.2.1.2.2.1 = z0 ∧ (I.1 = 1 → ((sbk I.2.2.2.1 ∧ posb I.2.2.2.1) ∧ sbk I.2.2.2.2.1 ∧ sbk I.2.2.2.2.2.1) ∧ (0 ≤ I.2.1 ∧ I.2.1 < m ∧ (0 ≤ R 0 I.2.1 ∧ R 0 I.2.1 ≤ 5)) ∧ (0 ≤ I.2.2.1 ∧ I.2.2.1 ≤ 1000000000000000) ∧ sbk I.2.2.2.2.2.2 ∧ inC R m I.2.2.2.2.2.2 I.2.1)
def WNp (b : Int) (R : Rw) (m de : Int) (rt : Int → Int) (In : Int → Ins) (pm wa mi : Bk) (py wr : Rl) : Prop :=
  (PW R m ∧ 0 ≤ de ∧ de ≤ b) ∧ (∀ k, 0 ≤ k → k < 16 → rt k = -1 ∨ rtO R m (rt k)) ∧ (∀ i, 0 ≤ i → i < 16 → inO R m (In i)) ∧
  ((sbk pm ∧ pm.1 ≤ 20) ∧ (sbk wa ∧ posb wa) ∧ (sbk mi ∧ posb mi)) ∧ (∀ t, tkS wa t + inS In t 16 = hld mi t 0 ∧ hld mi t 0 < LIM) ∧ (PSo py ∧ ∀ i : Nat, i < wr.1 → wr.2.1 i ≤ 5)
def WN (b : Int) (w : Wd) : Prop := WNp b w.gRw w.gM w.gDe w.gRt w.gIn w.gPm w.gWa w.gMi w.gPy w.gWr
def WI (w : Wd) : Prop := jOk w.gJr ∧ WN w.gJr.2.1 w
theorem WN_mono {b b' : Int} {w : Wd} (h : WN b w) (hb : b ≤ b') : WN b' w := by
  obtain ⟨⟨a1, a2, a3⟩, a4⟩ := h
  exact ⟨⟨a1, a2, by omega⟩, a4⟩
/-! what the calls want of it -/
theorem inC_R {R : Rw} {m : Int} {I : Ins} (hs : sbk I.2.2.2.2.2.2) (h : inC R m I.2.2.2.2.2.2 I.2.1) (h0 : 0 ≤ I.2.1) : ∃ e0, insR R m e0 I ∧ e0 ≤ m := by
  obtain ⟨e0, ρ, h1, ⟨⟨h2, h2'⟩, h3, h4⟩, h5, h6⟩ := h
  refine ⟨e0, ⟨hs, h5, ?_, h6⟩, h1⟩
  by_cases c : I.2.1 < ρ
  · exact absurd h3 (h5.2 ρ c h2')
  · omega
theorem ends_eN {R : Rw} {m i : Int} (hi : i < m) : ends (R 1) m i (eN R m i) := by
  obtain ⟨x, hx⟩ := ends_ex (R 1) hi
  rw [eN_eq hx]; exact hx
theorem WN.ins {b : Int} {w : Wd} (h : WN b w) {i : Int} (hi : 0 ≤ i ∧ i < 16) : insOk w.gRw w.gM w.gWa (w.gIn i) := by
  obtain ⟨_, _, h3, ⟨_, h4, _⟩, _⟩ := h
  obtain ⟨a1, a2, a3⟩ := h3 i hi.1 hi.2
  refine ⟨a1, fun z => ?_⟩
  obtain ⟨⟨b1, b2, b3⟩, b4, b5, _⟩ := a3 z
  exact ⟨b1, b2, ⟨b3, a2⟩, h4, b4, b5⟩
theorem WN.insR {b : Int} {w : Wd} (h : WN b w) {i : Int} (hi : 0 ≤ i ∧ i < 16) (h1 : (w.gIn i).1 = 1) : ∃ e0, insR w.gRw w.gM e0 (w.gIn i) := by
  obtain ⟨_, _, h3, _⟩ := h
  obtain ⟨_, _, a3⟩ := h3 i hi.1 hi.2
  obtain ⟨_, b4, _, b6, b7⟩ := a3 h1
  obtain ⟨e0, he, _⟩ := inC_R b6 b7 b4.1
  exact ⟨e0, he⟩
theorem WN.insE {b : Int} {w : Wd} (h : WN b w) {i : Int} (hi : 0 ≤ i ∧ i < 16) (h1 : (w.gIn i).1 = 1) : eN w.gRw w.gM (w.gIn i).2.1 - (w.gIn i).2.1 ≤ 1000 := by
  obtain ⟨e0, _, ⟨⟨e1, he, h2⟩, _⟩, h4, _⟩ := h.insR hi h1
  rw [eN_eq he]; omega
theorem suN_ge {f : Nat → Int} {n p : Nat} (h : ∀ i, i < n → 0 ≤ f i) (hp : p < n) : f p ≤ suN f n := by
  have h1 := suN_mono (f := f) (n := n) (k := p + 1) h (by omega)
  have h2 := suN_mono (f := f) (n := n) (k := p) h (by omega)
  have e : suN f (p + 1) = suN f p + f p := rfl
  omega
theorem hld_tkS {β : Bk} (h : posb β) (a b : Int) : hld β a b ≤ tkS β b := by
  by_cases c : hs2 β a b
  · obtain ⟨p0, _⟩ := ps_ok β a b
    obtain ⟨p, hp⟩ : ∃ p : Nat, (p : Int) = ps β a b := ⟨(ps β a b).toNat, by omega⟩
    obtain ⟨c1, _, c3⟩ := id c
    have e : tkF β b p = hld β a b := by
      unfold tkF hld; rw [hp, if_pos c3, if_pos c]
    rw [← e]
    refine suN_ge (fun i hi => ?_) (by omega)
    unfold tkF
    have := h i (by omega) (by omega)
    by_cases c4 : β.2.2.1 i = b
    · rw [if_pos c4]; omega
    · rw [if_neg c4]; decide
  · have : hld β a b = 0 := if_neg c
    rw [this]; exact tkS_pos h b
theorem inS_pos {In : Int → Ins} (h : ∀ i, 0 ≤ i → i < 16 → (In i).1 ≠ 0 → posb (In i).2.2.2.1) (t : Int) : 0 ≤ inS In t 16 := by
  refine (suN_mono (n := 16) (k := 16) (fun i hi => ?_) (Nat.le_refl _)).2
  unfold inF
  by_cases c : (In i).1 = 0
  · rw [if_pos c]; decide
  · rw [if_neg c]; exact tkS_pos (h i (by omega) (by omega) c) t
theorem WN.pos {b : Int} {w : Wd} (h : WN b w) : ∀ i, 0 ≤ i → i < 16 → (w.gIn i).1 ≠ 0 → posb (w.gIn i).2.2.2.1 := by
  intro i i0 i1 z
  obtain ⟨_, _, h3, _⟩ := h
  obtain ⟨a1, _, a3⟩ := h3 i i0 i1
  exact (a3 (by omega)).1.1.2
theorem WN.con {b : Int} {w : Wd} (h : WN b w) (a t : Int) : hld w.gWa a t ≤ hld w.gMi t 0 := by
  have h1 := inS_pos h.pos t
  obtain ⟨_, _, _, ⟨_, ⟨_, h4⟩, _⟩, h5, _⟩ := h
  have := hld_tkS h4 a t
  have := (h5 t).1
  omega
theorem WN.smT {b : Int} {w : Wd} (h : WN b w) (t : Int) : smT w t := by
  have h1 := h.pos
  obtain ⟨_, _, _, ⟨_, ⟨_, h4⟩, _⟩, h5, _⟩ := h
  refine ⟨h4, fun i hi z => h1 i (by omega) (by omega) z, ?_⟩
  have := h5 t
  omega
theorem hld_bcre {β β' : Bk} {n : Nat} {a b v : Int} (hs : sbk β) (hc : bcre β n a b v = .inr β') (a' b' : Int) : hld β' a' b' = hld β a' b' + if a' = a ∧ b' = b then v else 0 := by
  unfold bcre at hc
  by_cases c : hs2 β a b
  · rw [if_pos c] at hc
    by_cases c2 : -LIM < β.2.2.2 (ps β a b) + v ∧ β.2.2.2 (ps β a b) + v < LIM
    · rw [if_pos c2] at hc; cases hc
      obtain ⟨_, l2, l3⟩ := lk_bset (v := β.2.2.2 (ps β a b) + v) c
      by_cases c3 : a' = a ∧ b' = b
      · rw [if_pos c3, c3.1, c3.2, l2]
        have : hld β a b = β.2.2.2 (ps β a b) := if_pos c
        rw [this]
      · rw [if_neg c3, l3 a' b' c3]; omega
    · rw [if_neg c2] at hc; cases hc
  · rw [if_neg c] at hc
    by_cases c2 : β.1 < n
    · rw [if_pos c2] at hc; cases hc
      obtain ⟨l1, l2, l3⟩ := lk_bins (v := v) hs c
      by_cases c3 : a' = a ∧ b' = b
      · rw [if_pos c3, c3.1, c3.2, l2]
        have : hld β a b = 0 := if_neg c
        rw [this]; omega
      · rw [if_neg c3]
        by_cases c4 : hs2 β a' b'
        · rw [l3 a' b' c4]; omega
        · have e1 : hld β a' b' = 0 := if_neg c4
          have e2 : hld (bins β a b v) a' b' = 0 := if_neg (fun z => by
            rcases (l1 a' b').mp z with w | w
            · exact c3 w
            · exact c4 w)
          rw [e1, e2]; rfl
    · rw [if_neg c2] at hc; cases hc
/-! the pool grows -/
theorem ends_add {R G : Rw} {m m' i e : Int} (h : ends (R 1) m i e) (hd : 0 ≤ R 1 i) (hG : ∀ (f : Nat) (j : Int), j < m → G f j = R f j) (hm : m ≤ m') (h1 : m < m' → G 1 m = 0) : ends (G 1) m' i e := by
  obtain ⟨a1, a2, a3, a4⟩ := h
  refine ⟨a1, by omega, fun j j1 j2 => ?_, fun z => ?_⟩
  · have := a3 j j1 j2
    rw [hG 1 i (by omega), hG 1 j (by omega)]; exact this
  · by_cases c : e < m
    · have := a4 c
      rw [hG 1 e c, hG 1 i (by omega)]; exact this
    · have : e = m := by omega
      subst this
      rw [h1 z, hG 1 i (by omega)]; exact hd
theorem rtO_add {R G : Rw} {m m' r : Int} (h : rtO R m r) (hG : ∀ (f : Nat) (j : Int), j < m → G f j = R f j) (hm : m ≤ m') (h1 : m < m' → G 1 m = 0) : rtO G m' r := by
  obtain ⟨⟨a1, a2⟩, a3, a4, a5⟩ := h
  have he := ends_eN (R := R) a2
  refine ⟨⟨a1, by omega⟩, by rw [hG 1 r a2]; exact a3, by rw [hG 0 r a2]; exact a4, ?_⟩
  rw [eN_eq (ends_add he (by omega) hG hm h1)]; exact a5
theorem inC_add {R G : Rw} {m m' nd : Int} {giv : Bk} (h : inC R m giv nd) (hd : 0 ≤ R 1 nd) (hG : ∀ (f : Nat) (j : Int), j < m → G f j = R f j) (hm : m ≤ m') (h1 : m < m' → G 1 m = 0) : inC G m' giv nd := by
  obtain ⟨e0, ρ, a1, ⟨⟨a2, a2'⟩, a3, a4⟩, ⟨⟨e1, a5, a6⟩, a7⟩, a8⟩ := h
  refine ⟨e0, ρ, by omega, ⟨⟨a2, a2'⟩, by rw [hG 1 ρ (by omega)]; exact a3, a4⟩, ⟨⟨e1, ends_add a5 hd hG hm h1, a6⟩, fun j j1 j2 => by rw [hG 1 j (by omega)]; exact a7 j j1 j2⟩, fun n n0 n1 k1 k2 k3 k4 => ?_⟩
  have hn : n < m := by omega
  rw [hG 0 n hn] at k1
  rw [hG 5 n hn] at k4 ⊢
  exact a8 n n0 hn k1 k2 (fun j j1 j2 => by rw [← hG 1 j (by omega)]; exact k3 j j1 j2) k4
theorem inO_add {R G : Rw} {m m' : Int} {I : Ins} (hW : WFP R m) (h : inO R m I) (hG : ∀ (f : Nat) (j : Int), j < m → G f j = R f j) (hm : m ≤ m') (h1 : m < m' → G 1 m = 0) : inO G m' I := by
  obtain ⟨a1, a2, a3⟩ := h
  refine ⟨a1, a2, fun z => ?_⟩
  obtain ⟨b1, ⟨b2, b2', b3⟩, b4, b5, b6⟩ := a3 z
  exact ⟨b1, ⟨b2, by omega, by rw [hG 0 _ b2']; exact b3⟩, b4, b5, inC_add b6 ((hW.2.2 _ b2 b2').2.2.1.1) hG hm h1⟩
/-! the journal -/
theorem entO_w {ag : Int} {J : Jw} {kd many a b c n : Int} {t : Int → Int} (h : jOk J) (hm : 0 ≤ many) (hn : 0 ≤ n) : jOk (entO ag J kd many a b c t n).2 ∧ J.2.1 ≤ (entO ag J kd many a b c t n).2.2.1 ∧ ((entO ag J kd many a b c t n).1 = 0 → ag = 0 → (entO ag J kd many a b c t n).2.2.1 = J.2.1 + (7 + 8 * many + n)) ∧ (ag = 1 → (entO ag J kd many a b c t n).2 = J) := by
  unfold entO
  by_cases hag : ag = 0
  · rw [if_pos hag]
    obtain ⟨h1, h2, h3⟩ := jwO_ok (kd := kd) (a := a) (b := b) (c := c) (t := t) h hm hn
    exact ⟨h1, h2, fun z _ => h3 z, fun z => by omega⟩
  · rw [if_neg hag]
    exact ⟨h, Int.le_refl _, fun _ z => absurd z hag, fun _ => rfl⟩
