/-! the class's parser: its stack -/
def SF (M M' : im_M) : Prop := (∀ x, x ≠ 23 → x ≠ 24 → x ≠ 25 → M' x = M x) ∧ (∀ k, k ≠ 4 → M' 23 k = M 23 k)
theorem SF.rf (M : im_M) : SF M M := ⟨fun _ _ _ _ => rfl, fun _ _ => rfl⟩
theorem SF.trans {M M1 M2 : im_M} (h : SF M M1) (h' : SF M1 M2) : SF M M2 := ⟨fun x a b c => (h'.1 x a b c).trans (h.1 x a b c), fun k a => (h'.2 k a).trans (h.2 k a)⟩
def stC (M : im_M) (L : List (Int × Int)) : Prop := M 23 4 = L.length ∧ stk M L
def ps2 (n : Int) (l : List (Int × Int × Int)) : List (Int × Int) := l.map (fun x => (x.1, n))
theorem cmp_app : ∀ (l : List (Int × Int × Int)) (n : Int) (r : List en), (∀ x ∈ l, x.1 ≠ 41) → cmp (l.map (fun x => ((x.1, n, x.2.1, x.2.2) : en)) ++ r) = ps2 n l ++ cmp r := by
  intro l n r
  induction l with
  | nil => intro _; rfl
  | cons x l ih =>
    intro h
    show (if x.1 = 41 then _ else (x.1, n) :: cmp (l.map (fun x => ((x.1, n, x.2.1, x.2.2) : en)) ++ r)) = _
    rw [if_neg (h x List.mem_cons_self), ih (fun y hy => h y (List.mem_cons_of_mem _ hy))]
    rfl
theorem shp_41 (k : Int) : ∀ x ∈ shp k, x.1 ≠ 41 := by
  refine shp_ind (P := fun _ l => ∀ x ∈ l, x.1 ≠ 41) k (fun _ => ?_) (fun _ => ?_) (fun _ => ?_) (fun _ => ?_) (fun _ => ?_) (fun _ => ?_) (fun _ => ?_) (fun _ => ?_) (fun _ => ?_) (fun _ => ?_) (fun _ => ?_) (fun _ => ?_) (fun _ => ?_) (fun _ => ?_) (fun _ => ?_) (fun _ => ?_) <;> decide
theorem cmp_shE (k n : Int) (r : List en) : cmp (shE k n ++ r) = ps2 n (shp k) ++ cmp r := cmp_app _ n r (shp_41 k)
theorem shp_len (k : Int) : (shp k).length ≤ 6 := by
  refine shp_ind (P := fun _ l => l.length ≤ 6) k (fun _ => ?_) (fun _ => ?_) (fun _ => ?_) (fun _ => ?_) (fun _ => ?_) (fun _ => ?_) (fun _ => ?_) (fun _ => ?_) (fun _ => ?_) (fun _ => ?_) (fun _ => ?_) (fun _ => ?_) (fun _ => ?_) (fun _ => ?_) (fun _ => ?_) (fun _ => ?_) <;> decide
section CPAR
variable {g : im_g} {d : Nat} {e : im_E} {M M0 : im_M} {K : im_K}
theorem c_push {s o : Int} {L : List (Int × Int)} (h : stC M L) (hl : L.length < 1024) (hs : im_i32 s) (ho : im_i32 o) (hK : ∀ M', SF M M' → stC M' ((s, o) :: L) → K (.inl none) e M') : im_T g d 39 0 [some (.ref 23), some (vI s), some (vI o)] [] e M K := by
  obtain ⟨h1, h2⟩ := h
  refine k_Parser_push_0 ?_
  rw [h1]
  refine ⟨fun z => absurd z (by omega), fun _ => ⟨by constructor <;> omega, hs, ho, by constructor <;> omega, hK _ ⟨fun x a b c => ?_, fun k a => ?_⟩ ⟨?_, ?_, ?_, ?_⟩⟩⟩
  · rw [im_u_ne _ _ _ a, im_u_ne _ _ _ c, im_u_ne _ _ _ b]
  · rw [im_rdk _ _ _ a, im_rdn _ _ _ _ (by decide), im_rdn _ _ _ _ (by decide)]
  · rw [im_rds]; rfl
  · rw [im_rdn _ _ _ _ (by decide), im_rdn _ _ _ _ (by decide), im_rds]
  · rw [im_rdn _ _ _ _ (by decide), im_rds]
  · refine stk_congr L h2 (fun i i0 i1 => ⟨?_, ?_⟩)
    · rw [im_rdn _ _ _ _ (by decide), im_rdn _ _ _ _ (by decide), im_rdk _ _ _ (by omega)]
    · rw [im_rdn _ _ _ _ (by decide), im_rdk _ _ _ (by omega), im_rdn _ _ _ _ (by decide)]
/-- a shape's signs, from its last one on -/
theorem l_pushShape {u : UInt32} {n : Int} {l : List (Int × Int × Int)} {L : List (Int × Int)} (hu : u.toNat < 20) (ht : (tx u).map Int32.toInt = l.map (fun x => x.1)) (hc : ∀ x ∈ l, 0 ≤ x.1 ∧ x.1 < 256) (hl : l.length ≤ 6) (hL : L.length + 6 < 1024) (hn : im_i32 n) (hd : 4 ≤ d) (hK : ∀ M', SF M0 M' → stC M' (ps2 n l ++ L) → K (.inl none) e M') :
    ∀ (j : Nat) (M : im_M), j ≤ l.length → SF M0 M → stC M (ps2 n (l.drop j) ++ L) → im_T g d 59 20 [some (.ref 23), some (vI n), some (.float u), some (vI ((j : Int) - 1))] [] e M K := by
  have hub : Nat.blt u.toNat 30 = true := Nat.ble_eq_true_of_le (by omega)
  have htl : (tx u).length = l.length := by have := congrArg List.length ht; simpa using this
  intro j
  induction j with
  | zero =>
    intro M hj hF hs
    exact k_Parser_pushShape_20 hub (by omega) ⟨by constructor <;> omega, fun _ => hK M hF hs, fun z => absurd z (by omega)⟩
  | succ j ih =>
    intro M hj hF hs
    have hjl : j < l.length := by omega
    have hch : ((tx u).getD j 0).toInt = (l[j]).1 := by
      have h1 : ((tx u).map Int32.toInt)[j]? = (l.map (fun x => x.1))[j]? := by rw [ht]
      rw [List.getElem?_map, List.getElem?_map, List.getElem?_eq_getElem hjl, List.getElem?_eq_getElem (by omega)] at h1
      simp only [Option.map_some, Option.some.injEq] at h1
      rw [List.getD_eq_getElem?_getD, List.getElem?_eq_getElem (by omega)]
      exact h1
    have hr := hc l[j] (List.getElem_mem hjl)
    rw [show ((j + 1 : Nat) : Int) - 1 = (j : Int) from by omega]
    refine k_Parser_pushShape_20 hub (by omega) ⟨by constructor <;> omega, fun z => absurd z (by omega), fun _ => ?_⟩
    refine c_char (n := l.length) (i := j) hu htl (by omega) hjl (by rw [hch]; exact hr) (by omega) ⟨_, rfl, rfl, ?_⟩
    rw [hch]
    refine c_push hs ?_ (by constructor <;> omega) hn (fun M' hF' hs' => ⟨rfl, rfl, ?_⟩)
    · unfold ps2
      rw [List.length_append, List.length_map, List.length_drop]
      omega
    · rw [show (j : Int) + -1 = (j : Int) - 1 from by omega]
      refine ih M' (by omega) (hF.trans hF') ?_
      rw [List.drop_eq_getElem_cons hjl]
      exact hs'
theorem c_pushShape {n : Int} {L : List (Int × Int)} {k : Int} (hs : stC M L) (hL : L.length + 6 < 1024) (hn0 : 0 ≤ n) (hn1 : n < 5000) (hk : M 14 n = k) (hk0 : 0 ≤ k) (hk1 : k ≤ 36) (hd : 5 ≤ d) (hK : ∀ M', SF M M' → stC M' (ps2 n (shp k) ++ L) → K (.inl none) e M') : im_T g d 59 0 [some (.ref 23), some (vI n), none, none] [] e M K := by
  have go : ∀ (u : UInt32), u.toNat < 20 → (tx u).map Int32.toInt = (shp k).map (fun x => x.1) → im_rf (fun u4 e_ M3 => e = e_ ∧ (Nat.blt u4.toNat 30 = true) ∧ im_T g (d - 1) 3 0 [some (.float u4)] [] e M3 (im_ri (fun x6 e_ M5 => e = e_ ∧ im_T g d 59 20 [some (.ref 23), some (vI n), some (.float u4), some (vI (x6 - 1))] [] e M5 K))) (.inl (some (.float u))) e M := by
    intro u hu ht
    have htl : (tx u).length = (shp k).length := by have := congrArg List.length ht; simpa using this
    have h6 := shp_len k
    refine ⟨u, rfl, rfl, Nat.ble_eq_true_of_le (by omega), c_slen hu htl (by omega) (by omega) ⟨_, rfl, rfl, ?_⟩⟩
    refine l_pushShape (M0 := M) (L := L) hu ht (fun x hx => ?_) h6 hL (by constructor <;> omega) (by omega) hK (shp k).length M (Nat.le_refl _) (SF.rf M) (by rw [List.drop_length]; exact hs)
    have : ∀ x ∈ shp k, 0 ≤ x.1 ∧ x.1 < 256 := by
      refine shp_ind (P := fun _ l => ∀ x ∈ l, 0 ≤ x.1 ∧ x.1 < 256) k (fun _ => ?_) (fun _ => ?_) (fun _ => ?_) (fun _ => ?_) (fun _ => ?_) (fun _ => ?_) (fun _ => ?_) (fun _ => ?_) (fun _ => ?_) (fun _ => ?_) (fun _ => ?_) (fun _ => ?_) (fun _ => ?_) (fun _ => ?_) (fun _ => ?_) (fun _ => ?_) <;> decide
    exact this x hx
  refine k_Parser_pushShape_0 (by omega) ⟨by constructor <;> omega, ?_⟩
  rw [hk]
  refine k_P_shape_0 ⟨by constructor <;> omega, fun z => go 1 (by decide) ?_, fun z => go 2 (by decide) ?_, fun z => go 3 (by decide) ?_, fun z => go 4 (by decide) ?_, fun z => go 5 (by decide) ?_, fun z => go 6 (by decide) ?_, fun z => go 7 (by decide) ?_, fun z => go 8 (by decide) ?_, fun z => go 9 (by decide) ?_, fun z => go 10 (by decide) ?_, fun z => go 11 (by decide) ?_, fun z => go 12 (by decide) ?_, fun z => go 12 (by decide) ?_, fun z => go 13 (by decide) ?_, fun z => go 14 (by decide) ?_, fun z => go 15 (by decide) ?_, fun z => go 5 (by decide) ?_, fun z => go 16 (by decide) ?_⟩
  · subst z; decide +kernel
  · subst z; decide +kernel
  · subst z; decide +kernel
  · subst z; decide +kernel
  · subst z; decide +kernel
  · rcases z with z | z | z <;> subst z <;> decide +kernel
  · subst z; decide +kernel
  · subst z; decide +kernel
  · subst z; decide +kernel
  · rcases z with z | z <;> subst z <;> decide +kernel
  · subst z; decide +kernel
  · rcases z with z | z | z | z <;> subst z <;> decide +kernel
  · rcases z with z | z | z | z | z <;> subst z <;> decide +kernel
  · subst z; decide +kernel
  · subst z; decide +kernel
  · subst z; decide +kernel
  · subst z; decide +kernel
  · have h16 : (tx 16).map Int32.toInt = [] := by decide +kernel
    rw [h16]
    have : shp k = [] := by
      have : ∀ q, q = k → shp q = [] := fun q hq => by
        refine shp_ind (P := fun k' l => k' = k → l = []) q (fun a b => ?_) (fun a b => ?_) (fun a b => ?_) (fun a b => ?_) (fun a b => ?_) (fun a b => ?_) (fun a b => ?_) (fun a b => ?_) (fun a b => ?_) (fun a b => ?_) (fun a b => ?_) (fun a b => ?_) (fun a b => ?_) (fun a b => ?_) (fun a b => ?_) (fun a b => rfl) hq <;> (exfalso; omega)
      exact this k rfl
    rw [this]; rfl
end CPAR
