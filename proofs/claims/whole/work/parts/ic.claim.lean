/-! THE CLAIM -/
theorem pure_384 : am_PURE 384 := by
  intro xs L hL
  obtain ⟨o, h', ⟨f, hr⟩, ho, h1, h2⟩ := pu_law0 xs L 180 (fun o h' => o = .inl (some (.int 1)) ∧ h'.length ≤ 600128 ∧ am_sl h' ≤ 7301098) (law_T xs L (180 + 20) hL (by decide))
  rw [ho] at hr
  exact ⟨f, 180 + 20, h', hr, by decide, h1, h2⟩
theorem i_vc : Claimed_1_1 ∧ Claimed_1_2 := i_vc_pure pure_384
