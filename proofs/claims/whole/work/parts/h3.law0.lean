/-! THE LAW: its blocks -/
set_option maxRecDepth 20000 in
set_option maxHeartbeats 4000000 in
theorem w_law_23 {g : im_g} {d : Nat} {e : im_E} {M : im_M} {K : im_K} {p4 : Int} (hP : (g.2 ≤ 2147483647) ∧ (im_i32 p4) ∧ (im_i32 ((g.2 : Int) - 6)) ∧ ((((g.2 : Int) - 6) < p4 → K (.inl (some (vI 1))) e M) ∧ (p4 ≤ ((g.2 : Int) - 6) → (0 ≤ p4 ∧ p4 < g.2) ∧ (((xiand (scr g p4) 63) = 0 → im_T g d 452 196 [some (.float 200), some (.ref 0), some (.ref 6952), some (.ref 7081), some (vI p4), none, none, none] [] e M K) ∧ ((xiand (scr g p4) 63) = 1 → im_T g d 452 300 [some (.float 200), some (.ref 0), some (.ref 6952), some (.ref 7081), some (vI p4), none, none, none] [] e M K) ∧ ((xiand (scr g p4) 63) = 2 → im_T g d 452 356 [some (.float 200), some (.ref 0), some (.ref 6952), some (.ref 7081), some (vI p4), none, none, none] [] e M K) ∧ ((xiand (scr g p4) 63) = 3 → im_T g d 452 400 [some (.float 200), some (.ref 0), some (.ref 6952), some (.ref 7081), some (vI p4), none, none, none] [] e M K) ∧ ((xiand (scr g p4) 63) = 4 → im_T g d 452 455 [some (.float 200), some (.ref 0), some (.ref 6952), some (.ref 7081), some (vI p4), none, none, none] [] e M K) ∧ ((xiand (scr g p4) 63) = 5 → im_T g d 452 499 [some (.float 200), some (.ref 0), some (.ref 6952), some (.ref 7081), some (vI p4), none, none, none] [] e M K) ∧ ((xiand (scr g p4) 63) = 6 → im_T g d 452 555 [some (.float 200), some (.ref 0), some (.ref 6952), some (.ref 7081), some (vI p4), none, none, none] [] e M K) ∧ ((xiand (scr g p4) 63) = 7 → im_T g d 452 596 [some (.float 200), some (.ref 0), some (.ref 6952), some (.ref 7081), some (vI p4), none, none, none] [] e M K) ∧ ((xiand (scr g p4) 63) = 8 → im_T g d 452 652 [some (.float 200), some (.ref 0), some (.ref 6952), some (.ref 7081), some (vI p4), none, none, none] [] e M K) ∧ ((xiand (scr g p4) 63) = 9 → im_T g d 452 708 [some (.float 200), some (.ref 0), some (.ref 6952), some (.ref 7081), some (vI p4), none, none, none] [] e M K) ∧ ((xiand (scr g p4) 63) = 10 → im_T g d 452 775 [some (.float 200), some (.ref 0), some (.ref 6952), some (.ref 7081), some (vI p4), none, none, none] [] e M K) ∧ ((xiand (scr g p4) 63) = 11 → im_T g d 452 863 [some (.float 200), some (.ref 0), some (.ref 6952), some (.ref 7081), some (vI p4), none, none, none] [] e M K) ∧ ((xiand (scr g p4) 63) = 12 → im_T g d 452 907 [some (.float 200), some (.ref 0), some (.ref 6952), some (.ref 7081), some (vI p4), none, none, none] [] e M K) ∧ ((xiand (scr g p4) 63) = 13 → im_T g d 452 1019 [some (.float 200), some (.ref 0), some (.ref 6952), some (.ref 7081), some (vI p4), none, none, none] [] e M K) ∧ ((xiand (scr g p4) 63) = 14 → im_T g d 452 1075 [some (.float 200), some (.ref 0), some (.ref 6952), some (.ref 7081), some (vI p4), none, none, none] [] e M K) ∧ ((xiand (scr g p4) 63) = 15 → im_T g d 452 1219 [some (.float 200), some (.ref 0), some (.ref 6952), some (.ref 7081), some (vI p4), none, none, none] [] e M K) ∧ ((xiand (scr g p4) 63) = 16 → im_T g d 452 1275 [some (.float 200), some (.ref 0), some (.ref 6952), some (.ref 7081), some (vI p4), none, none, none] [] e M K) ∧ ((xiand (scr g p4) 63) = 17 → im_T g d 452 1342 [some (.float 200), some (.ref 0), some (.ref 6952), some (.ref 7081), some (vI p4), none, none, none] [] e M K) ∧ ((xiand (scr g p4) 63) = 18 → im_T g d 452 1422 [some (.float 200), some (.ref 0), some (.ref 6952), some (.ref 7081), some (vI p4), none, none, none] [] e M K) ∧ ((xiand (scr g p4) 63) = 19 → im_T g d 452 1529 [some (.float 200), some (.ref 0), some (.ref 6952), some (.ref 7081), some (vI p4), none, none, none] [] e M K) ∧ ((xiand (scr g p4) 63) = 20 → im_T g d 452 1585 [some (.float 200), some (.ref 0), some (.ref 6952), some (.ref 7081), some (vI p4), none, none, none] [] e M K) ∧ ((xiand (scr g p4) 63) = 21 → im_T g d 452 1652 [some (.float 200), some (.ref 0), some (.ref 6952), some (.ref 7081), some (vI p4), none, none, none] [] e M K) ∧ ((xiand (scr g p4) 63) = 22 → im_T g d 452 1736 [some (.float 200), some (.ref 0), some (.ref 6952), some (.ref 7081), some (vI p4), none, none, none] [] e M K) ∧ ((xiand (scr g p4) 63) = 23 → im_T g d 452 1803 [some (.float 200), some (.ref 0), some (.ref 6952), some (.ref 7081), some (vI p4), none, none, none] [] e M K) ∧ ((xiand (scr g p4) 63) = 24 → im_T g d 452 1935 [some (.float 200), some (.ref 0), some (.ref 6952), some (.ref 7081), some (vI p4), none, none, none] [] e M K) ∧ ((xiand (scr g p4) 63) = 25 → im_T g d 452 2067 [some (.float 200), some (.ref 0), some (.ref 6952), some (.ref 7081), some (vI p4), none, none, none] [] e M K) ∧ ((xiand (scr g p4) 63) = 26 → im_T g d 452 2167 [some (.float 200), some (.ref 0), some (.ref 6952), some (.ref 7081), some (vI p4), none, none, none] [] e M K) ∧ ((xiand (scr g p4) 63) = 27 → im_T g d 452 2211 [some (.float 200), some (.ref 0), some (.ref 6952), some (.ref 7081), some (vI p4), none, none, none] [] e M K) ∧ ((xiand (scr g p4) 63) = 28 → im_T g d 452 2319 [some (.float 200), some (.ref 0), some (.ref 6952), some (.ref 7081), some (vI p4), none, none, none] [] e M K) ∧ ((xiand (scr g p4) 63) = 29 → im_T g d 452 2363 [some (.float 200), some (.ref 0), some (.ref 6952), some (.ref 7081), some (vI p4), none, none, none] [] e M K) ∧ ((xiand (scr g p4) 63) = 30 → im_T g d 452 2399 [some (.float 200), some (.ref 0), some (.ref 6952), some (.ref 7081), some (vI p4), none, none, none] [] e M K) ∧ ((xiand (scr g p4) 63) = 31 → im_T g d 452 2455 [some (.float 200), some (.ref 0), some (.ref 6952), some (.ref 7081), some (vI p4), none, none, none] [] e M K) ∧ ((xiand (scr g p4) 63) = 32 → im_T g d 452 2523 [some (.float 200), some (.ref 0), some (.ref 6952), some (.ref 7081), some (vI p4), none, none, none] [] e M K) ∧ ((xiand (scr g p4) 63) = 33 → im_T g d 452 2547 [some (.float 200), some (.ref 0), some (.ref 6952), some (.ref 7081), some (vI p4), none, none, none] [] e M K) ∧ ((xiand (scr g p4) 63) = 34 → im_T g d 452 2560 [some (.float 200), some (.ref 0), some (.ref 6952), some (.ref 7081), some (vI p4), none, none, none] [] e M K) ∧ ((xiand (scr g p4) 63) < 0 ∨ 34 < (xiand (scr g p4) 63) → im_T g d 452 23 [some (.float 200), some (.ref 0), some (.ref 6952), some (.ref 7081), some (vI (p4 + 6)), none, none, none] [] e M K))))) : im_T g d 452 23 [some (.float 200), some (.ref 0), some (.ref 6952), some (.ref 7081), some (vI p4), none, none, none] [] e M K := by
  refine im_ld (q := 25) (i := 4) D452_23 rfl rfl rfl ?_
  refine im_ld (q := 26) (i := 0) D452_25 rfl rfl rfl ?_
  obtain ⟨hg1, hP⟩ := hP
  refine im_scln (q := 27) D452_26 ?_
  refine im_bipush (q := 29) D452_27 rfl ?_
  refine im_isub (q := 30) D452_29 ?_
  obtain ⟨hg2, hP⟩ := hP
  obtain ⟨hg3, hP⟩ := hP
  refine im_icmp (q := 33) (t := 2622) D452_30 rfl hg2 hg3 (fun hc4 => ?_) (fun hc4 => ?_)
  · replace hP := hP.1 hc4
    refine im_iconst (q := 2623) D452_2622 ?_
    exact im_zret (q := 2624) D452_2623 rfl (by decide) hP
  · replace hP := hP.2 (Int.not_lt.mp hc4)
    refine im_ld (q := 34) (i := 0) D452_33 rfl rfl rfl ?_
    refine im_ld (q := 36) (i := 4) D452_34 rfl rfl rfl ?_
    obtain ⟨hg5, hP⟩ := hP
    refine im_scld (q := 37) D452_36 hg1 hg5.1 hg5.2 ?_
    refine im_bipush (q := 39) D452_37 rfl ?_
    refine im_iand (q := 40) D452_39 ?_
    by_cases hc6 : (xiand (scr g p4) 63) = 0
    · refine im_tsw (q := 41) (t := 196) D452_40 (xiand_r _ _) (fun _ => by rcases hc6 with hc6 <;> (rw [hc6]; rfl)) (by rcases hc6 with hc6 <;> (rw [hc6]; rfl)) ?_
      replace hP := hP.1 hc6
      exact hP.wk ⟨rfl, rfl, rfl, rfl, rfl, trivial⟩
    by_cases hc7 : (xiand (scr g p4) 63) = 1
    · refine im_tsw (q := 41) (t := 300) D452_40 (xiand_r _ _) (fun _ => by rcases hc7 with hc7 <;> (rw [hc7]; rfl)) (by rcases hc7 with hc7 <;> (rw [hc7]; rfl)) ?_
      replace hP := hP.2.1 hc7
      exact hP.wk ⟨rfl, rfl, rfl, rfl, rfl, trivial⟩
    by_cases hc8 : (xiand (scr g p4) 63) = 2
    · refine im_tsw (q := 41) (t := 356) D452_40 (xiand_r _ _) (fun _ => by rcases hc8 with hc8 <;> (rw [hc8]; rfl)) (by rcases hc8 with hc8 <;> (rw [hc8]; rfl)) ?_
      replace hP := hP.2.2.1 hc8
      exact hP.wk ⟨rfl, rfl, rfl, rfl, rfl, trivial⟩
    by_cases hc9 : (xiand (scr g p4) 63) = 3
    · refine im_tsw (q := 41) (t := 400) D452_40 (xiand_r _ _) (fun _ => by rcases hc9 with hc9 <;> (rw [hc9]; rfl)) (by rcases hc9 with hc9 <;> (rw [hc9]; rfl)) ?_
      replace hP := hP.2.2.2.1 hc9
      exact hP.wk ⟨rfl, rfl, rfl, rfl, rfl, trivial⟩
    by_cases hc10 : (xiand (scr g p4) 63) = 4
    · refine im_tsw (q := 41) (t := 455) D452_40 (xiand_r _ _) (fun _ => by rcases hc10 with hc10 <;> (rw [hc10]; rfl)) (by rcases hc10 with hc10 <;> (rw [hc10]; rfl)) ?_
      replace hP := hP.2.2.2.2.1 hc10
      exact hP.wk ⟨rfl, rfl, rfl, rfl, rfl, trivial⟩
    by_cases hc11 : (xiand (scr g p4) 63) = 5
    · refine im_tsw (q := 41) (t := 499) D452_40 (xiand_r _ _) (fun _ => by rcases hc11 with hc11 <;> (rw [hc11]; rfl)) (by rcases hc11 with hc11 <;> (rw [hc11]; rfl)) ?_
      replace hP := hP.2.2.2.2.2.1 hc11
      exact hP.wk ⟨rfl, rfl, rfl, rfl, rfl, trivial⟩
    by_cases hc12 : (xiand (scr g p4) 63) = 6
    · refine im_tsw (q := 41) (t := 555) D452_40 (xiand_r _ _) (fun _ => by rcases hc12 with hc12 <;> (rw [hc12]; rfl)) (by rcases hc12 with hc12 <;> (rw [hc12]; rfl)) ?_
      replace hP := hP.2.2.2.2.2.2.1 hc12
      exact hP.wk ⟨rfl, rfl, rfl, rfl, rfl, trivial⟩
    by_cases hc13 : (xiand (scr g p4) 63) = 7
    · refine im_tsw (q := 41) (t := 596) D452_40 (xiand_r _ _) (fun _ => by rcases hc13 with hc13 <;> (rw [hc13]; rfl)) (by rcases hc13 with hc13 <;> (rw [hc13]; rfl)) ?_
      replace hP := hP.2.2.2.2.2.2.2.1 hc13
      exact hP.wk ⟨rfl, rfl, rfl, rfl, rfl, trivial⟩
    by_cases hc14 : (xiand (scr g p4) 63) = 8
    · refine im_tsw (q := 41) (t := 652) D452_40 (xiand_r _ _) (fun _ => by rcases hc14 with hc14 <;> (rw [hc14]; rfl)) (by rcases hc14 with hc14 <;> (rw [hc14]; rfl)) ?_
      replace hP := hP.2.2.2.2.2.2.2.2.1 hc14
      exact hP.wk ⟨rfl, rfl, rfl, rfl, rfl, trivial⟩
    by_cases hc15 : (xiand (scr g p4) 63) = 9
    · refine im_tsw (q := 41) (t := 708) D452_40 (xiand_r _ _) (fun _ => by rcases hc15 with hc15 <;> (rw [hc15]; rfl)) (by rcases hc15 with hc15 <;> (rw [hc15]; rfl)) ?_
      replace hP := hP.2.2.2.2.2.2.2.2.2.1 hc15
      exact hP.wk ⟨rfl, rfl, rfl, rfl, rfl, trivial⟩
    by_cases hc16 : (xiand (scr g p4) 63) = 10
    · refine im_tsw (q := 41) (t := 775) D452_40 (xiand_r _ _) (fun _ => by rcases hc16 with hc16 <;> (rw [hc16]; rfl)) (by rcases hc16 with hc16 <;> (rw [hc16]; rfl)) ?_
      replace hP := hP.2.2.2.2.2.2.2.2.2.2.1 hc16
      exact hP.wk ⟨rfl, rfl, rfl, rfl, rfl, trivial⟩
    by_cases hc17 : (xiand (scr g p4) 63) = 11
    · refine im_tsw (q := 41) (t := 863) D452_40 (xiand_r _ _) (fun _ => by rcases hc17 with hc17 <;> (rw [hc17]; rfl)) (by rcases hc17 with hc17 <;> (rw [hc17]; rfl)) ?_
      replace hP := hP.2.2.2.2.2.2.2.2.2.2.2.1 hc17
      exact hP.wk ⟨rfl, rfl, rfl, rfl, rfl, trivial⟩
    by_cases hc18 : (xiand (scr g p4) 63) = 12
    · refine im_tsw (q := 41) (t := 907) D452_40 (xiand_r _ _) (fun _ => by rcases hc18 with hc18 <;> (rw [hc18]; rfl)) (by rcases hc18 with hc18 <;> (rw [hc18]; rfl)) ?_
      replace hP := hP.2.2.2.2.2.2.2.2.2.2.2.2.1 hc18
      exact hP.wk ⟨rfl, rfl, rfl, rfl, rfl, trivial⟩
    by_cases hc19 : (xiand (scr g p4) 63) = 13
    · refine im_tsw (q := 41) (t := 1019) D452_40 (xiand_r _ _) (fun _ => by rcases hc19 with hc19 <;> (rw [hc19]; rfl)) (by rcases hc19 with hc19 <;> (rw [hc19]; rfl)) ?_
      replace hP := hP.2.2.2.2.2.2.2.2.2.2.2.2.2.1 hc19
      exact hP.wk ⟨rfl, rfl, rfl, rfl, rfl, trivial⟩
    by_cases hc20 : (xiand (scr g p4) 63) = 14
    · refine im_tsw (q := 41) (t := 1075) D452_40 (xiand_r _ _) (fun _ => by rcases hc20 with hc20 <;> (rw [hc20]; rfl)) (by rcases hc20 with hc20 <;> (rw [hc20]; rfl)) ?_
      replace hP := hP.2.2.2.2.2.2.2.2.2.2.2.2.2.2.1 hc20
      exact hP.wk ⟨rfl, rfl, rfl, rfl, rfl, trivial⟩
    by_cases hc21 : (xiand (scr g p4) 63) = 15
    · refine im_tsw (q := 41) (t := 1219) D452_40 (xiand_r _ _) (fun _ => by rcases hc21 with hc21 <;> (rw [hc21]; rfl)) (by rcases hc21 with hc21 <;> (rw [hc21]; rfl)) ?_
      replace hP := hP.2.2.2.2.2.2.2.2.2.2.2.2.2.2.2.1 hc21
      exact hP.wk ⟨rfl, rfl, rfl, rfl, rfl, trivial⟩
    by_cases hc22 : (xiand (scr g p4) 63) = 16
    · refine im_tsw (q := 41) (t := 1275) D452_40 (xiand_r _ _) (fun _ => by rcases hc22 with hc22 <;> (rw [hc22]; rfl)) (by rcases hc22 with hc22 <;> (rw [hc22]; rfl)) ?_
      replace hP := hP.2.2.2.2.2.2.2.2.2.2.2.2.2.2.2.2.1 hc22
      exact hP.wk ⟨rfl, rfl, rfl, rfl, rfl, trivial⟩
    by_cases hc23 : (xiand (scr g p4) 63) = 17
    · refine im_tsw (q := 41) (t := 1342) D452_40 (xiand_r _ _) (fun _ => by rcases hc23 with hc23 <;> (rw [hc23]; rfl)) (by rcases hc23 with hc23 <;> (rw [hc23]; rfl)) ?_
      replace hP := hP.2.2.2.2.2.2.2.2.2.2.2.2.2.2.2.2.2.1 hc23
      exact hP.wk ⟨rfl, rfl, rfl, rfl, rfl, trivial⟩
    by_cases hc24 : (xiand (scr g p4) 63) = 18
    · refine im_tsw (q := 41) (t := 1422) D452_40 (xiand_r _ _) (fun _ => by rcases hc24 with hc24 <;> (rw [hc24]; rfl)) (by rcases hc24 with hc24 <;> (rw [hc24]; rfl)) ?_
      replace hP := hP.2.2.2.2.2.2.2.2.2.2.2.2.2.2.2.2.2.2.1 hc24
      exact hP.wk ⟨rfl, rfl, rfl, rfl, rfl, trivial⟩
    by_cases hc25 : (xiand (scr g p4) 63) = 19
    · refine im_tsw (q := 41) (t := 1529) D452_40 (xiand_r _ _) (fun _ => by rcases hc25 with hc25 <;> (rw [hc25]; rfl)) (by rcases hc25 with hc25 <;> (rw [hc25]; rfl)) ?_
      replace hP := hP.2.2.2.2.2.2.2.2.2.2.2.2.2.2.2.2.2.2.2.1 hc25
      exact hP.wk ⟨rfl, rfl, rfl, rfl, rfl, trivial⟩
    by_cases hc26 : (xiand (scr g p4) 63) = 20
    · refine im_tsw (q := 41) (t := 1585) D452_40 (xiand_r _ _) (fun _ => by rcases hc26 with hc26 <;> (rw [hc26]; rfl)) (by rcases hc26 with hc26 <;> (rw [hc26]; rfl)) ?_
      replace hP := hP.2.2.2.2.2.2.2.2.2.2.2.2.2.2.2.2.2.2.2.2.1 hc26
      exact hP.wk ⟨rfl, rfl, rfl, rfl, rfl, trivial⟩
    by_cases hc27 : (xiand (scr g p4) 63) = 21
    · refine im_tsw (q := 41) (t := 1652) D452_40 (xiand_r _ _) (fun _ => by rcases hc27 with hc27 <;> (rw [hc27]; rfl)) (by rcases hc27 with hc27 <;> (rw [hc27]; rfl)) ?_
      replace hP := hP.2.2.2.2.2.2.2.2.2.2.2.2.2.2.2.2.2.2.2.2.2.1 hc27
      exact hP.wk ⟨rfl, rfl, rfl, rfl, rfl, trivial⟩
    by_cases hc28 : (xiand (scr g p4) 63) = 22
    · refine im_tsw (q := 41) (t := 1736) D452_40 (xiand_r _ _) (fun _ => by rcases hc28 with hc28 <;> (rw [hc28]; rfl)) (by rcases hc28 with hc28 <;> (rw [hc28]; rfl)) ?_
      replace hP := hP.2.2.2.2.2.2.2.2.2.2.2.2.2.2.2.2.2.2.2.2.2.2.1 hc28
      exact hP.wk ⟨rfl, rfl, rfl, rfl, rfl, trivial⟩
    by_cases hc29 : (xiand (scr g p4) 63) = 23
    · refine im_tsw (q := 41) (t := 1803) D452_40 (xiand_r _ _) (fun _ => by rcases hc29 with hc29 <;> (rw [hc29]; rfl)) (by rcases hc29 with hc29 <;> (rw [hc29]; rfl)) ?_
      replace hP := hP.2.2.2.2.2.2.2.2.2.2.2.2.2.2.2.2.2.2.2.2.2.2.2.1 hc29
      exact hP.wk ⟨rfl, rfl, rfl, rfl, rfl, trivial⟩
    by_cases hc30 : (xiand (scr g p4) 63) = 24
    · refine im_tsw (q := 41) (t := 1935) D452_40 (xiand_r _ _) (fun _ => by rcases hc30 with hc30 <;> (rw [hc30]; rfl)) (by rcases hc30 with hc30 <;> (rw [hc30]; rfl)) ?_
      replace hP := hP.2.2.2.2.2.2.2.2.2.2.2.2.2.2.2.2.2.2.2.2.2.2.2.2.1 hc30
      exact hP.wk ⟨rfl, rfl, rfl, rfl, rfl, trivial⟩
    by_cases hc31 : (xiand (scr g p4) 63) = 25
    · refine im_tsw (q := 41) (t := 2067) D452_40 (xiand_r _ _) (fun _ => by rcases hc31 with hc31 <;> (rw [hc31]; rfl)) (by rcases hc31 with hc31 <;> (rw [hc31]; rfl)) ?_
      replace hP := hP.2.2.2.2.2.2.2.2.2.2.2.2.2.2.2.2.2.2.2.2.2.2.2.2.2.1 hc31
      exact hP.wk ⟨rfl, rfl, rfl, rfl, rfl, trivial⟩
    by_cases hc32 : (xiand (scr g p4) 63) = 26
    · refine im_tsw (q := 41) (t := 2167) D452_40 (xiand_r _ _) (fun _ => by rcases hc32 with hc32 <;> (rw [hc32]; rfl)) (by rcases hc32 with hc32 <;> (rw [hc32]; rfl)) ?_
      replace hP := hP.2.2.2.2.2.2.2.2.2.2.2.2.2.2.2.2.2.2.2.2.2.2.2.2.2.2.1 hc32
      exact hP.wk ⟨rfl, rfl, rfl, rfl, rfl, trivial⟩
    by_cases hc33 : (xiand (scr g p4) 63) = 27
    · refine im_tsw (q := 41) (t := 2211) D452_40 (xiand_r _ _) (fun _ => by rcases hc33 with hc33 <;> (rw [hc33]; rfl)) (by rcases hc33 with hc33 <;> (rw [hc33]; rfl)) ?_
      replace hP := hP.2.2.2.2.2.2.2.2.2.2.2.2.2.2.2.2.2.2.2.2.2.2.2.2.2.2.2.1 hc33
      exact hP.wk ⟨rfl, rfl, rfl, rfl, rfl, trivial⟩
    by_cases hc34 : (xiand (scr g p4) 63) = 28
    · refine im_tsw (q := 41) (t := 2319) D452_40 (xiand_r _ _) (fun _ => by rcases hc34 with hc34 <;> (rw [hc34]; rfl)) (by rcases hc34 with hc34 <;> (rw [hc34]; rfl)) ?_
      replace hP := hP.2.2.2.2.2.2.2.2.2.2.2.2.2.2.2.2.2.2.2.2.2.2.2.2.2.2.2.2.1 hc34
      exact hP.wk ⟨rfl, rfl, rfl, rfl, rfl, trivial⟩
    by_cases hc35 : (xiand (scr g p4) 63) = 29
    · refine im_tsw (q := 41) (t := 2363) D452_40 (xiand_r _ _) (fun _ => by rcases hc35 with hc35 <;> (rw [hc35]; rfl)) (by rcases hc35 with hc35 <;> (rw [hc35]; rfl)) ?_
      replace hP := hP.2.2.2.2.2.2.2.2.2.2.2.2.2.2.2.2.2.2.2.2.2.2.2.2.2.2.2.2.2.1 hc35
      exact hP.wk ⟨rfl, rfl, rfl, rfl, rfl, trivial⟩
    by_cases hc36 : (xiand (scr g p4) 63) = 30
    · refine im_tsw (q := 41) (t := 2399) D452_40 (xiand_r _ _) (fun _ => by rcases hc36 with hc36 <;> (rw [hc36]; rfl)) (by rcases hc36 with hc36 <;> (rw [hc36]; rfl)) ?_
      replace hP := hP.2.2.2.2.2.2.2.2.2.2.2.2.2.2.2.2.2.2.2.2.2.2.2.2.2.2.2.2.2.2.1 hc36
      exact hP.wk ⟨rfl, rfl, rfl, rfl, rfl, trivial⟩
    by_cases hc37 : (xiand (scr g p4) 63) = 31
    · refine im_tsw (q := 41) (t := 2455) D452_40 (xiand_r _ _) (fun _ => by rcases hc37 with hc37 <;> (rw [hc37]; rfl)) (by rcases hc37 with hc37 <;> (rw [hc37]; rfl)) ?_
      replace hP := hP.2.2.2.2.2.2.2.2.2.2.2.2.2.2.2.2.2.2.2.2.2.2.2.2.2.2.2.2.2.2.2.1 hc37
      exact hP.wk ⟨rfl, rfl, rfl, rfl, rfl, trivial⟩
    by_cases hc38 : (xiand (scr g p4) 63) = 32
    · refine im_tsw (q := 41) (t := 2523) D452_40 (xiand_r _ _) (fun _ => by rcases hc38 with hc38 <;> (rw [hc38]; rfl)) (by rcases hc38 with hc38 <;> (rw [hc38]; rfl)) ?_
      replace hP := hP.2.2.2.2.2.2.2.2.2.2.2.2.2.2.2.2.2.2.2.2.2.2.2.2.2.2.2.2.2.2.2.2.1 hc38
      exact hP.wk ⟨rfl, rfl, rfl, rfl, rfl, trivial⟩
    by_cases hc39 : (xiand (scr g p4) 63) = 33
    · refine im_tsw (q := 41) (t := 2547) D452_40 (xiand_r _ _) (fun _ => by rcases hc39 with hc39 <;> (rw [hc39]; rfl)) (by rcases hc39 with hc39 <;> (rw [hc39]; rfl)) ?_
      replace hP := hP.2.2.2.2.2.2.2.2.2.2.2.2.2.2.2.2.2.2.2.2.2.2.2.2.2.2.2.2.2.2.2.2.2.1 hc39
      exact hP.wk ⟨rfl, rfl, rfl, rfl, rfl, trivial⟩
    by_cases hc40 : (xiand (scr g p4) 63) = 34
    · refine im_tsw (q := 41) (t := 2560) D452_40 (xiand_r _ _) (fun _ => by rcases hc40 with hc40 <;> (rw [hc40]; rfl)) (by rcases hc40 with hc40 <;> (rw [hc40]; rfl)) ?_
      replace hP := hP.2.2.2.2.2.2.2.2.2.2.2.2.2.2.2.2.2.2.2.2.2.2.2.2.2.2.2.2.2.2.2.2.2.2.1 hc40
      exact hP.wk ⟨rfl, rfl, rfl, rfl, rfl, trivial⟩
    have hd41 : (xiand (scr g p4) 63) < 0 ∨ 34 < (xiand (scr g p4) 63) := by clear hP; omega
    refine im_tsw (q := 41) (t := 2616) D452_40 (xiand_r _ _) (fun z9 => absurd hd41 z9) (by rw [if_pos hd41]; rfl) ?_
    replace hP := hP.2.2.2.2.2.2.2.2.2.2.2.2.2.2.2.2.2.2.2.2.2.2.2.2.2.2.2.2.2.2.2.2.2.2.2 hd41
    refine im_iinc (q := 2619) (i := 4) (L' := [some (.float 200), some (.ref 0), some (.ref 6952), some (.ref 7081), some (vI (p4 + 6)), none, none, none]) D452_2616 rfl (Nat.le_of_ble_eq_true rfl) rfl ?_
    refine im_goto (q := 2622) (t := 23) D452_2619 rfl ?_
    exact hP.wk ⟨rfl, rfl, rfl, rfl, rfl, trivial⟩
set_option maxRecDepth 20000 in
set_option maxHeartbeats 4000000 in
theorem w_law_196 {g : im_g} {d : Nat} {e : im_E} {M : im_M} {K : im_K} {p4 : Int} (hd : 1 ≤ d) (hP : (g.2 ≤ 2147483647) ∧ (0 ≤ (p4 + 1) ∧ (p4 + 1) < g.2) ∧ (0 ≤ (p4 + 2) ∧ (p4 + 2) < g.2) ∧ (0 ≤ (p4 + 3) ∧ (p4 + 3) < g.2) ∧ (0 ≤ (p4 + 4) ∧ (p4 + 4) < g.2) ∧ (0 ≤ (p4 + 5) ∧ (p4 + 5) < g.2) ∧ im_T g (d - 1) 150 0 [some (.ref 0), some (vI (scr g (p4 + 1))), some (vI (scr g (p4 + 2))), some (vI (scr g (p4 + 3))), some (vI (scr g (p4 + 4))), some (vI (scr g (p4 + 5))), some (.ref 7081), none] [] e M (im_ri (fun x10 e8 M7 => ∃ ex9 : im_E, e8 = e ++ ex9 ∧ im_T g (d - 1) 263 0 [some (.ref 6952), some (vI (scr g (p4 + 1))), some (vI (scr g (p4 + 2))), some (vI (scr g (p4 + 3))), some (vI (scr g (p4 + 4))), some (vI (scr g (p4 + 5))), none, none] [] (e ++ ex9) M7 (im_ri (fun x14 e_ M11 => (e ++ ex9) = e_ ∧ im_T g (d - 1) 262 0 [some (.ref 6952)] [] (e ++ ex9) M11 (im_ri (fun x18 e_ M15 => (e ++ ex9) = e_ ∧ (im_i32 x18) ∧ (im_i32 x10) ∧ ((((x18 = x10 → ((x10 = 0 → (im_i32 x14) ∧ ((¬ (M15 7081 0) = x14 → K (.inl (some (vI 0))) (e ++ ex9) M15))))) ∧ (¬ x18 = x10 → K (.inl (some (vI 0))) (e ++ ex9) M15))) ∧ ((((x18 = x10) ∧ (¬ x10 = 0)) ∨ ((x18 = x10) ∧ (x10 = 0) ∧ ((M15 7081 0) = x14))) → im_T g d 452 23 [some (.float 200), some (.ref 0), some (.ref 6952), some (.ref 7081), some (vI (p4 + 6)), none, none, none] [] (e ++ ex9) M15 K))))))))) : im_T g d 452 196 [some (.float 200), some (.ref 0), some (.ref 6952), some (.ref 7081), some (vI p4), none, none, none] [] e M K := by
  refine im_ld (q := 197) (i := 1) D452_196 rfl rfl rfl ?_
  refine im_ld (q := 198) (i := 0) D452_197 rfl rfl rfl ?_
  refine im_ld (q := 200) (i := 4) D452_198 rfl rfl rfl ?_
  refine im_iconst (q := 201) D452_200 ?_
  refine im_iadd (q := 202) D452_201 ?_
  obtain ⟨hg1, hP⟩ := hP
  obtain ⟨hg2, hP⟩ := hP
  refine im_scld (q := 203) D452_202 hg1 hg2.1 hg2.2 ?_
  refine im_ld (q := 204) (i := 0) D452_203 rfl rfl rfl ?_
  refine im_ld (q := 206) (i := 4) D452_204 rfl rfl rfl ?_
  refine im_iconst (q := 207) D452_206 ?_
  refine im_iadd (q := 208) D452_207 ?_
  obtain ⟨hg3, hP⟩ := hP
  refine im_scld (q := 209) D452_208 hg1 hg3.1 hg3.2 ?_
  refine im_ld (q := 210) (i := 0) D452_209 rfl rfl rfl ?_
  refine im_ld (q := 212) (i := 4) D452_210 rfl rfl rfl ?_
  refine im_iconst (q := 213) D452_212 ?_
  refine im_iadd (q := 214) D452_213 ?_
  obtain ⟨hg4, hP⟩ := hP
  refine im_scld (q := 215) D452_214 hg1 hg4.1 hg4.2 ?_
  refine im_ld (q := 216) (i := 0) D452_215 rfl rfl rfl ?_
  refine im_ld (q := 218) (i := 4) D452_216 rfl rfl rfl ?_
  refine im_iconst (q := 219) D452_218 ?_
  refine im_iadd (q := 220) D452_219 ?_
  obtain ⟨hg5, hP⟩ := hP
  refine im_scld (q := 221) D452_220 hg1 hg5.1 hg5.2 ?_
  refine im_ld (q := 222) (i := 0) D452_221 rfl rfl rfl ?_
  refine im_ld (q := 224) (i := 4) D452_222 rfl rfl rfl ?_
  refine im_iconst (q := 225) D452_224 ?_
  refine im_iadd (q := 226) D452_225 ?_
  obtain ⟨hg6, hP⟩ := hP
  refine im_scld (q := 227) D452_226 hg1 hg6.1 hg6.2 ?_
  refine im_ld (q := 228) (i := 3) D452_227 rfl rfl rfl ?_
  refine im_callS (q := 231) (kd := 0) (y := 150) (n := 7) (z := 0) (vs := [.ref 0, vI (scr g (p4 + 1)), vI (scr g (p4 + 2)), vI (scr g (p4 + 3)), vI (scr g (p4 + 4)), vI (scr g (p4 + 5)), .ref 7081]) (r := []) (L2 := [some (.ref 0), some (vI (scr g (p4 + 1))), some (vI (scr g (p4 + 2))), some (vI (scr g (p4 + 3))), some (vI (scr g (p4 + 4))), some (vI (scr g (p4 + 5))), some (.ref 7081), none]) D452_228 rfl (im_cal cn_452 cl_13_134) (Or.inl rfl) rfl rfl rfl rfl rfl hd ⟨rfl, rfl, rfl, rfl, rfl, rfl, rfl, trivial⟩ ?_
  refine hP.mono ?_
  rintro _ e8 M7 ⟨x10, rfl, ex9, rfl, hP⟩
  refine im_bkS ?_
  refine im_st1 (q := 233) (i := 5) (L' := [some (.float 200), some (.ref 0), some (.ref 6952), some (.ref 7081), some (vI p4), some (vI x10), none, none]) D452_231 (Or.inr rfl) (Nat.le_of_ble_eq_true rfl) rfl ?_
  refine im_ld (q := 234) (i := 2) D452_233 rfl rfl rfl ?_
  refine im_ld (q := 235) (i := 0) D452_234 rfl rfl rfl ?_
  refine im_ld (q := 237) (i := 4) D452_235 rfl rfl rfl ?_
  refine im_iconst (q := 238) D452_237 ?_
  refine im_iadd (q := 239) D452_238 ?_
  refine im_scld (q := 240) D452_239 hg1 hg2.1 hg2.2 ?_
  refine im_ld (q := 241) (i := 0) D452_240 rfl rfl rfl ?_
  refine im_ld (q := 243) (i := 4) D452_241 rfl rfl rfl ?_
  refine im_iconst (q := 244) D452_243 ?_
  refine im_iadd (q := 245) D452_244 ?_
  refine im_scld (q := 246) D452_245 hg1 hg3.1 hg3.2 ?_
  refine im_ld (q := 247) (i := 0) D452_246 rfl rfl rfl ?_
  refine im_ld (q := 249) (i := 4) D452_247 rfl rfl rfl ?_
  refine im_iconst (q := 250) D452_249 ?_
  refine im_iadd (q := 251) D452_250 ?_
  refine im_scld (q := 252) D452_251 hg1 hg4.1 hg4.2 ?_
  refine im_ld (q := 253) (i := 0) D452_252 rfl rfl rfl ?_
  refine im_ld (q := 255) (i := 4) D452_253 rfl rfl rfl ?_
  refine im_iconst (q := 256) D452_255 ?_
  refine im_iadd (q := 257) D452_256 ?_
  refine im_scld (q := 258) D452_257 hg1 hg5.1 hg5.2 ?_
  refine im_ld (q := 259) (i := 0) D452_258 rfl rfl rfl ?_
  refine im_ld (q := 261) (i := 4) D452_259 rfl rfl rfl ?_
  refine im_iconst (q := 262) D452_261 ?_
  refine im_iadd (q := 263) D452_262 ?_
  refine im_scld (q := 264) D452_263 hg1 hg6.1 hg6.2 ?_
  refine im_callV (q := 267) (kd := 1) (y := 263) (n := 5) (ci := 12) (a := 6952) (vs := [.ref 6952, vI (scr g (p4 + 1)), vI (scr g (p4 + 2)), vI (scr g (p4 + 3)), vI (scr g (p4 + 4)), vI (scr g (p4 + 5))]) (r := []) (L2 := [some (.ref 6952), some (vI (scr g (p4 + 1))), some (vI (scr g (p4 + 2))), some (vI (scr g (p4 + 3))), some (vI (scr g (p4 + 4))), some (vI (scr g (p4 + 5))), none, none]) D452_264 (im_cal cn_452 cl_13_139) (Or.inl rfl) rfl sf_6952 rfl rfl rfl rfl hd ⟨rfl, rfl, rfl, rfl, rfl, rfl, trivial⟩ ?_
  refine hP.mono ?_
  rintro _ e12 M11 ⟨x14, rfl, rfl, hP⟩
  refine im_bkS ?_
  refine im_st1 (q := 269) (i := 6) (L' := [some (.float 200), some (.ref 0), some (.ref 6952), some (.ref 7081), some (vI p4), some (vI x10), some (vI x14), none]) D452_267 (Or.inr rfl) (Nat.le_of_ble_eq_true rfl) rfl ?_
  refine im_ld (q := 270) (i := 2) D452_269 rfl rfl rfl ?_
  refine im_callV (q := 273) (kd := 1) (y := 262) (n := 0) (ci := 12) (a := 6952) (vs := [.ref 6952]) (r := []) (L2 := [some (.ref 6952)]) D452_270 (im_cal cn_452 cl_13_140) (Or.inl rfl) rfl sf_6952 rfl rfl rfl rfl hd ⟨rfl, trivial⟩ ?_
  refine hP.mono ?_
  rintro _ e16 M15 ⟨x18, rfl, rfl, hP⟩
  refine im_bkS ?_
  refine im_ld (q := 275) (i := 5) D452_273 rfl rfl rfl ?_
  obtain ⟨hg19, hP⟩ := hP
  obtain ⟨hg20, hP⟩ := hP
  obtain ⟨hP, hJ26⟩ := hP
  have kJ27 : (((x18 = x10) ∧ (¬ x10 = 0)) ∨ ((x18 = x10) ∧ (x10 = 0) ∧ ((M15 7081 0) = x14))) → im_T g d 452 297 [some (.float 200), some (.ref 0), some (.ref 6952), some (.ref 7081), some (vI p4), none, none, none] [] (e ++ ex9) M15 K := by
    intro  hx28
    have hP := hJ26  hx28
    refine im_goto (q := 300) (t := 2616) D452_297 rfl ?_
    refine im_iinc (q := 2619) (i := 4) (L' := [some (.float 200), some (.ref 0), some (.ref 6952), some (.ref 7081), some (vI (p4 + 6)), none, none, none]) D452_2616 rfl (Nat.le_of_ble_eq_true rfl) rfl ?_
    refine im_goto (q := 2622) (t := 23) D452_2619 rfl ?_
    exact hP.wk ⟨rfl, rfl, rfl, rfl, rfl, trivial⟩
  refine im_icmp (q := 278) (t := 280) D452_275 rfl hg19 hg20 (fun hc21 => ?_) (fun hc21 => ?_)
  · replace hP := hP.1 hc21
    refine im_ld (q := 282) (i := 5) D452_280 rfl rfl rfl ?_
    refine im_ifc (q := 285) (t := 297) D452_282 rfl hg20 (fun hc22 => ?_) (fun hc22 => ?_)
    · exact (kJ27  (Or.inl ⟨hc21, hc22⟩)).wk ⟨rfl, rfl, rfl, rfl, rfl, trivial⟩
    · replace hP := hP (Decidable.not_not.mp hc22)
      refine im_ld (q := 286) (i := 3) D452_285 rfl rfl rfl ?_
      refine im_iconst (q := 287) D452_286 ?_
      refine im_rng (j := 0) sf_7081 (by decide) (by decide) (fun hr23 => ?_)
      refine im_lald (q := 288) D452_287 sf_7081 (by decide) (by decide) (by decide) rfl ?_
      refine im_ld (q := 290) (i := 6) D452_288 rfl rfl rfl ?_
      obtain ⟨hg24, hP⟩ := hP
      refine im_i2l (q := 291) D452_290 hg24 ?_
      refine im_lif (q := 292) (q2 := 295) (t := 297) D452_291 D452_292 rfl hr23 (im_32_64 hg24) (fun hc25 => ?_) (fun hc25 => ?_)
      · exact (kJ27  (Or.inr ⟨hc21, (Decidable.not_not.mp hc22), hc25⟩)).wk ⟨rfl, rfl, rfl, rfl, rfl, trivial⟩
      · replace hP := hP hc25
        refine im_iconst (q := 296) D452_295 ?_
        exact im_zret (q := 297) D452_296 rfl (by decide) hP
  · replace hP := hP.2 hc21
    refine im_iconst (q := 279) D452_278 ?_
    exact im_zret (q := 280) D452_279 rfl (by decide) hP
set_option maxRecDepth 20000 in
set_option maxHeartbeats 4000000 in
theorem w_law_300 {g : im_g} {d : Nat} {e : im_E} {M : im_M} {K : im_K} {p4 : Int} (hd : 1 ≤ d) (hP : (g.2 ≤ 2147483647) ∧ (0 ≤ (p4 + 1) ∧ (p4 + 1) < g.2) ∧ im_T g (d - 1) 154 0 [some (.ref 0), some (vI (scr g (p4 + 1))), some (.ref 7081), none] [] e M (im_ri (fun x6 e4 M3 => ∃ ex5 : im_E, e4 = e ++ ex5 ∧ im_T g (d - 1) 265 0 [some (.ref 6952), some (vI (scr g (p4 + 1)))] [] (e ++ ex5) M3 (im_ri (fun x10 e_ M7 => (e ++ ex5) = e_ ∧ im_T g (d - 1) 262 0 [some (.ref 6952)] [] (e ++ ex5) M7 (im_ri (fun x14 e_ M11 => (e ++ ex5) = e_ ∧ (im_i32 x14) ∧ (im_i32 x6) ∧ ((((x14 = x6 → ((x6 = 0 → (im_i32 x10) ∧ ((¬ (M11 7081 0) = x10 → K (.inl (some (vI 0))) (e ++ ex5) M11))))) ∧ (¬ x14 = x6 → K (.inl (some (vI 0))) (e ++ ex5) M11))) ∧ ((((x14 = x6) ∧ (¬ x6 = 0)) ∨ ((x14 = x6) ∧ (x6 = 0) ∧ ((M11 7081 0) = x10))) → im_T g d 452 23 [some (.float 200), some (.ref 0), some (.ref 6952), some (.ref 7081), some (vI (p4 + 6)), none, none, none] [] (e ++ ex5) M11 K))))))))) : im_T g d 452 300 [some (.float 200), some (.ref 0), some (.ref 6952), some (.ref 7081), some (vI p4), none, none, none] [] e M K := by
  refine im_ld (q := 301) (i := 1) D452_300 rfl rfl rfl ?_
  refine im_ld (q := 302) (i := 0) D452_301 rfl rfl rfl ?_
  refine im_ld (q := 304) (i := 4) D452_302 rfl rfl rfl ?_
  refine im_iconst (q := 305) D452_304 ?_
  refine im_iadd (q := 306) D452_305 ?_
  obtain ⟨hg1, hP⟩ := hP
  obtain ⟨hg2, hP⟩ := hP
  refine im_scld (q := 307) D452_306 hg1 hg2.1 hg2.2 ?_
  refine im_ld (q := 308) (i := 3) D452_307 rfl rfl rfl ?_
  refine im_callS (q := 311) (kd := 0) (y := 154) (n := 3) (z := 0) (vs := [.ref 0, vI (scr g (p4 + 1)), .ref 7081]) (r := []) (L2 := [some (.ref 0), some (vI (scr g (p4 + 1))), some (.ref 7081), none]) D452_308 rfl (im_cal cn_452 cl_13_143) (Or.inl rfl) rfl rfl rfl rfl rfl hd ⟨rfl, rfl, rfl, trivial⟩ ?_
  refine hP.mono ?_
  rintro _ e4 M3 ⟨x6, rfl, ex5, rfl, hP⟩
  refine im_bkS ?_
  refine im_st1 (q := 313) (i := 5) (L' := [some (.float 200), some (.ref 0), some (.ref 6952), some (.ref 7081), some (vI p4), some (vI x6), none, none]) D452_311 (Or.inr rfl) (Nat.le_of_ble_eq_true rfl) rfl ?_
  refine im_ld (q := 314) (i := 2) D452_313 rfl rfl rfl ?_
  refine im_ld (q := 315) (i := 0) D452_314 rfl rfl rfl ?_
  refine im_ld (q := 317) (i := 4) D452_315 rfl rfl rfl ?_
  refine im_iconst (q := 318) D452_317 ?_
  refine im_iadd (q := 319) D452_318 ?_
  refine im_scld (q := 320) D452_319 hg1 hg2.1 hg2.2 ?_
  refine im_callV (q := 323) (kd := 1) (y := 265) (n := 1) (ci := 12) (a := 6952) (vs := [.ref 6952, vI (scr g (p4 + 1))]) (r := []) (L2 := [some (.ref 6952), some (vI (scr g (p4 + 1)))]) D452_320 (im_cal cn_452 cl_13_146) (Or.inl rfl) rfl sf_6952 rfl rfl rfl rfl hd ⟨rfl, rfl, trivial⟩ ?_
  refine hP.mono ?_
  rintro _ e8 M7 ⟨x10, rfl, rfl, hP⟩
  refine im_bkS ?_
  refine im_st1 (q := 325) (i := 6) (L' := [some (.float 200), some (.ref 0), some (.ref 6952), some (.ref 7081), some (vI p4), some (vI x6), some (vI x10), none]) D452_323 (Or.inr rfl) (Nat.le_of_ble_eq_true rfl) rfl ?_
  refine im_ld (q := 326) (i := 2) D452_325 rfl rfl rfl ?_
  refine im_callV (q := 329) (kd := 1) (y := 262) (n := 0) (ci := 12) (a := 6952) (vs := [.ref 6952]) (r := []) (L2 := [some (.ref 6952)]) D452_326 (im_cal cn_452 cl_13_140) (Or.inl rfl) rfl sf_6952 rfl rfl rfl rfl hd ⟨rfl, trivial⟩ ?_
  refine hP.mono ?_
  rintro _ e12 M11 ⟨x14, rfl, rfl, hP⟩
  refine im_bkS ?_
  refine im_ld (q := 331) (i := 5) D452_329 rfl rfl rfl ?_
  obtain ⟨hg15, hP⟩ := hP
  obtain ⟨hg16, hP⟩ := hP
  obtain ⟨hP, hJ22⟩ := hP
  have kJ23 : (((x14 = x6) ∧ (¬ x6 = 0)) ∨ ((x14 = x6) ∧ (x6 = 0) ∧ ((M11 7081 0) = x10))) → im_T g d 452 353 [some (.float 200), some (.ref 0), some (.ref 6952), some (.ref 7081), some (vI p4), none, none, none] [] (e ++ ex5) M11 K := by
    intro  hx24
    have hP := hJ22  hx24
    refine im_goto (q := 356) (t := 2616) D452_353 rfl ?_
    refine im_iinc (q := 2619) (i := 4) (L' := [some (.float 200), some (.ref 0), some (.ref 6952), some (.ref 7081), some (vI (p4 + 6)), none, none, none]) D452_2616 rfl (Nat.le_of_ble_eq_true rfl) rfl ?_
    refine im_goto (q := 2622) (t := 23) D452_2619 rfl ?_
    exact hP.wk ⟨rfl, rfl, rfl, rfl, rfl, trivial⟩
  refine im_icmp (q := 334) (t := 336) D452_331 rfl hg15 hg16 (fun hc17 => ?_) (fun hc17 => ?_)
  · replace hP := hP.1 hc17
    refine im_ld (q := 338) (i := 5) D452_336 rfl rfl rfl ?_
    refine im_ifc (q := 341) (t := 353) D452_338 rfl hg16 (fun hc18 => ?_) (fun hc18 => ?_)
    · exact (kJ23  (Or.inl ⟨hc17, hc18⟩)).wk ⟨rfl, rfl, rfl, rfl, rfl, trivial⟩
    · replace hP := hP (Decidable.not_not.mp hc18)
      refine im_ld (q := 342) (i := 3) D452_341 rfl rfl rfl ?_
      refine im_iconst (q := 343) D452_342 ?_
      refine im_rng (j := 0) sf_7081 (by decide) (by decide) (fun hr19 => ?_)
      refine im_lald (q := 344) D452_343 sf_7081 (by decide) (by decide) (by decide) rfl ?_
      refine im_ld (q := 346) (i := 6) D452_344 rfl rfl rfl ?_
      obtain ⟨hg20, hP⟩ := hP
      refine im_i2l (q := 347) D452_346 hg20 ?_
      refine im_lif (q := 348) (q2 := 351) (t := 353) D452_347 D452_348 rfl hr19 (im_32_64 hg20) (fun hc21 => ?_) (fun hc21 => ?_)
      · exact (kJ23  (Or.inr ⟨hc17, (Decidable.not_not.mp hc18), hc21⟩)).wk ⟨rfl, rfl, rfl, rfl, rfl, trivial⟩
      · replace hP := hP hc21
        refine im_iconst (q := 352) D452_351 ?_
        exact im_zret (q := 353) D452_352 rfl (by decide) hP
  · replace hP := hP.2 hc17
    refine im_iconst (q := 335) D452_334 ?_
    exact im_zret (q := 336) D452_335 rfl (by decide) hP
set_option maxRecDepth 20000 in
set_option maxHeartbeats 4000000 in
theorem w_law_356 {g : im_g} {d : Nat} {e : im_E} {M : im_M} {K : im_K} {p4 : Int} (hd : 1 ≤ d) (hP : im_T g (d - 1) 156 0 [some (.ref 0), some (.ref 7081), none] [] e M (im_ri (fun x4 e2 M1 => ∃ ex3 : im_E, e2 = e ++ ex3 ∧ im_T g (d - 1) 266 0 [some (.ref 6952)] [] (e ++ ex3) M1 (im_ri (fun x8 e_ M5 => (e ++ ex3) = e_ ∧ im_T g (d - 1) 262 0 [some (.ref 6952)] [] (e ++ ex3) M5 (im_ri (fun x12 e_ M9 => (e ++ ex3) = e_ ∧ (im_i32 x12) ∧ (im_i32 x4) ∧ ((((x12 = x4 → ((x4 = 0 → (im_i32 x8) ∧ ((¬ (M9 7081 0) = x8 → K (.inl (some (vI 0))) (e ++ ex3) M9))))) ∧ (¬ x12 = x4 → K (.inl (some (vI 0))) (e ++ ex3) M9))) ∧ ((((x12 = x4) ∧ (¬ x4 = 0)) ∨ ((x12 = x4) ∧ (x4 = 0) ∧ ((M9 7081 0) = x8))) → im_T g d 452 23 [some (.float 200), some (.ref 0), some (.ref 6952), some (.ref 7081), some (vI (p4 + 6)), none, none, none] [] (e ++ ex3) M9 K))))))))) : im_T g d 452 356 [some (.float 200), some (.ref 0), some (.ref 6952), some (.ref 7081), some (vI p4), none, none, none] [] e M K := by
  refine im_ld (q := 357) (i := 1) D452_356 rfl rfl rfl ?_
  refine im_ld (q := 358) (i := 3) D452_357 rfl rfl rfl ?_
  refine im_callS (q := 361) (kd := 0) (y := 156) (n := 2) (z := 0) (vs := [.ref 0, .ref 7081]) (r := []) (L2 := [some (.ref 0), some (.ref 7081), none]) D452_358 rfl (im_cal cn_452 cl_13_147) (Or.inl rfl) rfl rfl rfl rfl rfl hd ⟨rfl, rfl, trivial⟩ ?_
  refine hP.mono ?_
  rintro _ e2 M1 ⟨x4, rfl, ex3, rfl, hP⟩
  refine im_bkS ?_
  refine im_st1 (q := 363) (i := 5) (L' := [some (.float 200), some (.ref 0), some (.ref 6952), some (.ref 7081), some (vI p4), some (vI x4), none, none]) D452_361 (Or.inr rfl) (Nat.le_of_ble_eq_true rfl) rfl ?_
  refine im_ld (q := 364) (i := 2) D452_363 rfl rfl rfl ?_
  refine im_callV (q := 367) (kd := 1) (y := 266) (n := 0) (ci := 12) (a := 6952) (vs := [.ref 6952]) (r := []) (L2 := [some (.ref 6952)]) D452_364 (im_cal cn_452 cl_13_150) (Or.inl rfl) rfl sf_6952 rfl rfl rfl rfl hd ⟨rfl, trivial⟩ ?_
  refine hP.mono ?_
  rintro _ e6 M5 ⟨x8, rfl, rfl, hP⟩
  refine im_bkS ?_
  refine im_st1 (q := 369) (i := 6) (L' := [some (.float 200), some (.ref 0), some (.ref 6952), some (.ref 7081), some (vI p4), some (vI x4), some (vI x8), none]) D452_367 (Or.inr rfl) (Nat.le_of_ble_eq_true rfl) rfl ?_
  refine im_ld (q := 370) (i := 2) D452_369 rfl rfl rfl ?_
  refine im_callV (q := 373) (kd := 1) (y := 262) (n := 0) (ci := 12) (a := 6952) (vs := [.ref 6952]) (r := []) (L2 := [some (.ref 6952)]) D452_370 (im_cal cn_452 cl_13_140) (Or.inl rfl) rfl sf_6952 rfl rfl rfl rfl hd ⟨rfl, trivial⟩ ?_
  refine hP.mono ?_
  rintro _ e10 M9 ⟨x12, rfl, rfl, hP⟩
  refine im_bkS ?_
  refine im_ld (q := 375) (i := 5) D452_373 rfl rfl rfl ?_
  obtain ⟨hg13, hP⟩ := hP
  obtain ⟨hg14, hP⟩ := hP
  obtain ⟨hP, hJ20⟩ := hP
  have kJ21 : (((x12 = x4) ∧ (¬ x4 = 0)) ∨ ((x12 = x4) ∧ (x4 = 0) ∧ ((M9 7081 0) = x8))) → im_T g d 452 397 [some (.float 200), some (.ref 0), some (.ref 6952), some (.ref 7081), some (vI p4), none, none, none] [] (e ++ ex3) M9 K := by
    intro  hx22
    have hP := hJ20  hx22
    refine im_goto (q := 400) (t := 2616) D452_397 rfl ?_
    refine im_iinc (q := 2619) (i := 4) (L' := [some (.float 200), some (.ref 0), some (.ref 6952), some (.ref 7081), some (vI (p4 + 6)), none, none, none]) D452_2616 rfl (Nat.le_of_ble_eq_true rfl) rfl ?_
    refine im_goto (q := 2622) (t := 23) D452_2619 rfl ?_
    exact hP.wk ⟨rfl, rfl, rfl, rfl, rfl, trivial⟩
  refine im_icmp (q := 378) (t := 380) D452_375 rfl hg13 hg14 (fun hc15 => ?_) (fun hc15 => ?_)
  · replace hP := hP.1 hc15
    refine im_ld (q := 382) (i := 5) D452_380 rfl rfl rfl ?_
    refine im_ifc (q := 385) (t := 397) D452_382 rfl hg14 (fun hc16 => ?_) (fun hc16 => ?_)
    · exact (kJ21  (Or.inl ⟨hc15, hc16⟩)).wk ⟨rfl, rfl, rfl, rfl, rfl, trivial⟩
    · replace hP := hP (Decidable.not_not.mp hc16)
      refine im_ld (q := 386) (i := 3) D452_385 rfl rfl rfl ?_
      refine im_iconst (q := 387) D452_386 ?_
      refine im_rng (j := 0) sf_7081 (by decide) (by decide) (fun hr17 => ?_)
      refine im_lald (q := 388) D452_387 sf_7081 (by decide) (by decide) (by decide) rfl ?_
      refine im_ld (q := 390) (i := 6) D452_388 rfl rfl rfl ?_
      obtain ⟨hg18, hP⟩ := hP
      refine im_i2l (q := 391) D452_390 hg18 ?_
      refine im_lif (q := 392) (q2 := 395) (t := 397) D452_391 D452_392 rfl hr17 (im_32_64 hg18) (fun hc19 => ?_) (fun hc19 => ?_)
      · exact (kJ21  (Or.inr ⟨hc15, (Decidable.not_not.mp hc16), hc19⟩)).wk ⟨rfl, rfl, rfl, rfl, rfl, trivial⟩
      · replace hP := hP hc19
        refine im_iconst (q := 396) D452_395 ?_
        exact im_zret (q := 397) D452_396 rfl (by decide) hP
  · replace hP := hP.2 hc15
    refine im_iconst (q := 379) D452_378 ?_
    exact im_zret (q := 380) D452_379 rfl (by decide) hP
set_option maxRecDepth 20000 in
set_option maxHeartbeats 4000000 in
theorem w_law_400 {g : im_g} {d : Nat} {e : im_E} {M : im_M} {K : im_K} {p4 : Int} (hd : 1 ≤ d) (hP : (g.2 ≤ 2147483647) ∧ (0 ≤ (p4 + 1) ∧ (p4 + 1) < g.2) ∧ im_T g (d - 1) 158 0 [some (.ref 0), some (vI (scr g (p4 + 1))), some (.ref 7081), none] [] e M (im_ri (fun x6 e4 M3 => ∃ ex5 : im_E, e4 = e ++ ex5 ∧ im_T g (d - 1) 267 0 [some (.ref 6952), some (vI (scr g (p4 + 1))), none, none, none, none] [] (e ++ ex5) M3 (im_rl (fun x10 e_ M7 => (e ++ ex5) = e_ ∧ im_T g (d - 1) 262 0 [some (.ref 6952)] [] (e ++ ex5) M7 (im_ri (fun x14 e_ M11 => (e ++ ex5) = e_ ∧ (im_i32 x14) ∧ (im_i32 x6) ∧ ((((x14 = x6 → ((x6 = 0 → (im_i64 x10) ∧ ((¬ (M11 7081 0) = x10 → K (.inl (some (vI 0))) (e ++ ex5) M11))))) ∧ (¬ x14 = x6 → K (.inl (some (vI 0))) (e ++ ex5) M11))) ∧ ((((x14 = x6) ∧ (¬ x6 = 0)) ∨ ((x14 = x6) ∧ (x6 = 0) ∧ ((M11 7081 0) = x10))) → im_T g d 452 23 [some (.float 200), some (.ref 0), some (.ref 6952), some (.ref 7081), some (vI (p4 + 6)), none, none, none] [] (e ++ ex5) M11 K))))))))) : im_T g d 452 400 [some (.float 200), some (.ref 0), some (.ref 6952), some (.ref 7081), some (vI p4), none, none, none] [] e M K := by
  refine im_ld (q := 401) (i := 1) D452_400 rfl rfl rfl ?_
  refine im_ld (q := 402) (i := 0) D452_401 rfl rfl rfl ?_
  refine im_ld (q := 404) (i := 4) D452_402 rfl rfl rfl ?_
  refine im_iconst (q := 405) D452_404 ?_
  refine im_iadd (q := 406) D452_405 ?_
  obtain ⟨hg1, hP⟩ := hP
  obtain ⟨hg2, hP⟩ := hP
  refine im_scld (q := 407) D452_406 hg1 hg2.1 hg2.2 ?_
  refine im_ld (q := 408) (i := 3) D452_407 rfl rfl rfl ?_
  refine im_callS (q := 411) (kd := 0) (y := 158) (n := 3) (z := 0) (vs := [.ref 0, vI (scr g (p4 + 1)), .ref 7081]) (r := []) (L2 := [some (.ref 0), some (vI (scr g (p4 + 1))), some (.ref 7081), none]) D452_408 rfl (im_cal cn_452 cl_13_151) (Or.inl rfl) rfl rfl rfl rfl rfl hd ⟨rfl, rfl, rfl, trivial⟩ ?_
  refine hP.mono ?_
  rintro _ e4 M3 ⟨x6, rfl, ex5, rfl, hP⟩
  refine im_bkS ?_
  refine im_st1 (q := 413) (i := 5) (L' := [some (.float 200), some (.ref 0), some (.ref 6952), some (.ref 7081), some (vI p4), some (vI x6), none, none]) D452_411 (Or.inr rfl) (Nat.le_of_ble_eq_true rfl) rfl ?_
  refine im_ld (q := 414) (i := 2) D452_413 rfl rfl rfl ?_
  refine im_ld (q := 415) (i := 0) D452_414 rfl rfl rfl ?_
  refine im_ld (q := 417) (i := 4) D452_415 rfl rfl rfl ?_
  refine im_iconst (q := 418) D452_417 ?_
  refine im_iadd (q := 419) D452_418 ?_
  refine im_scld (q := 420) D452_419 hg1 hg2.1 hg2.2 ?_
  refine im_callV (q := 423) (kd := 1) (y := 267) (n := 1) (ci := 12) (a := 6952) (vs := [.ref 6952, vI (scr g (p4 + 1))]) (r := []) (L2 := [some (.ref 6952), some (vI (scr g (p4 + 1))), none, none, none, none]) D452_420 (im_cal cn_452 cl_13_153) (Or.inl rfl) rfl sf_6952 rfl rfl rfl rfl hd ⟨rfl, rfl, trivial⟩ ?_
  refine hP.mono ?_
  rintro _ e8 M7 ⟨x10, rfl, rfl, hP⟩
  refine im_bkS ?_
  refine im_st2 (q := 425) (i := 6) (L' := [some (.float 200), some (.ref 0), some (.ref 6952), some (.ref 7081), some (vI p4), some (vI x6), some (vL x10), none]) D452_423 (Or.inr rfl) (Nat.le_of_ble_eq_true rfl) rfl ?_
  refine im_ld (q := 426) (i := 2) D452_425 rfl rfl rfl ?_
  refine im_callV (q := 429) (kd := 1) (y := 262) (n := 0) (ci := 12) (a := 6952) (vs := [.ref 6952]) (r := []) (L2 := [some (.ref 6952)]) D452_426 (im_cal cn_452 cl_13_140) (Or.inl rfl) rfl sf_6952 rfl rfl rfl rfl hd ⟨rfl, trivial⟩ ?_
  refine hP.mono ?_
  rintro _ e12 M11 ⟨x14, rfl, rfl, hP⟩
  refine im_bkS ?_
  refine im_ld (q := 431) (i := 5) D452_429 rfl rfl rfl ?_
  obtain ⟨hg15, hP⟩ := hP
  obtain ⟨hg16, hP⟩ := hP
  obtain ⟨hP, hJ22⟩ := hP
  have kJ23 : (((x14 = x6) ∧ (¬ x6 = 0)) ∨ ((x14 = x6) ∧ (x6 = 0) ∧ ((M11 7081 0) = x10))) → im_T g d 452 452 [some (.float 200), some (.ref 0), some (.ref 6952), some (.ref 7081), some (vI p4), none, none, none] [] (e ++ ex5) M11 K := by
    intro  hx24
    have hP := hJ22  hx24
    refine im_goto (q := 455) (t := 2616) D452_452 rfl ?_
    refine im_iinc (q := 2619) (i := 4) (L' := [some (.float 200), some (.ref 0), some (.ref 6952), some (.ref 7081), some (vI (p4 + 6)), none, none, none]) D452_2616 rfl (Nat.le_of_ble_eq_true rfl) rfl ?_
    refine im_goto (q := 2622) (t := 23) D452_2619 rfl ?_
    exact hP.wk ⟨rfl, rfl, rfl, rfl, rfl, trivial⟩
  refine im_icmp (q := 434) (t := 436) D452_431 rfl hg15 hg16 (fun hc17 => ?_) (fun hc17 => ?_)
  · replace hP := hP.1 hc17
    refine im_ld (q := 438) (i := 5) D452_436 rfl rfl rfl ?_
    refine im_ifc (q := 441) (t := 452) D452_438 rfl hg16 (fun hc18 => ?_) (fun hc18 => ?_)
    · exact (kJ23  (Or.inl ⟨hc17, hc18⟩)).wk ⟨rfl, rfl, rfl, rfl, rfl, trivial⟩
    · replace hP := hP (Decidable.not_not.mp hc18)
      refine im_ld (q := 442) (i := 3) D452_441 rfl rfl rfl ?_
      refine im_iconst (q := 443) D452_442 ?_
      refine im_rng (j := 0) sf_7081 (by decide) (by decide) (fun hr19 => ?_)
      refine im_lald (q := 444) D452_443 sf_7081 (by decide) (by decide) (by decide) rfl ?_
      refine im_ld (q := 446) (i := 6) D452_444 rfl rfl rfl ?_
      obtain ⟨hg20, hP⟩ := hP
      refine im_lif (q := 447) (q2 := 450) (t := 452) D452_446 D452_447 rfl hr19 hg20 (fun hc21 => ?_) (fun hc21 => ?_)
      · exact (kJ23  (Or.inr ⟨hc17, (Decidable.not_not.mp hc18), hc21⟩)).wk ⟨rfl, rfl, rfl, rfl, rfl, trivial⟩
      · replace hP := hP hc21
        refine im_iconst (q := 451) D452_450 ?_
        exact im_zret (q := 452) D452_451 rfl (by decide) hP
  · replace hP := hP.2 hc17
    refine im_iconst (q := 435) D452_434 ?_
    exact im_zret (q := 436) D452_435 rfl (by decide) hP
set_option maxRecDepth 20000 in
set_option maxHeartbeats 4000000 in
theorem w_law_455 {g : im_g} {d : Nat} {e : im_E} {M : im_M} {K : im_K} {p4 : Int} (hd : 1 ≤ d) (hP : im_T g (d - 1) 160 0 [some (.ref 0), some (.ref 7081), none] [] e M (im_ri (fun x4 e2 M1 => ∃ ex3 : im_E, e2 = e ++ ex3 ∧ im_T g (d - 1) 269 0 [some (.ref 6952), none] [] (e ++ ex3) M1 (im_ri (fun x8 e_ M5 => (e ++ ex3) = e_ ∧ im_T g (d - 1) 262 0 [some (.ref 6952)] [] (e ++ ex3) M5 (im_ri (fun x12 e_ M9 => (e ++ ex3) = e_ ∧ (im_i32 x12) ∧ (im_i32 x4) ∧ ((((x12 = x4 → ((x4 = 0 → (im_i32 x8) ∧ ((¬ (M9 7081 0) = x8 → K (.inl (some (vI 0))) (e ++ ex3) M9))))) ∧ (¬ x12 = x4 → K (.inl (some (vI 0))) (e ++ ex3) M9))) ∧ ((((x12 = x4) ∧ (¬ x4 = 0)) ∨ ((x12 = x4) ∧ (x4 = 0) ∧ ((M9 7081 0) = x8))) → im_T g d 452 23 [some (.float 200), some (.ref 0), some (.ref 6952), some (.ref 7081), some (vI (p4 + 6)), none, none, none] [] (e ++ ex3) M9 K))))))))) : im_T g d 452 455 [some (.float 200), some (.ref 0), some (.ref 6952), some (.ref 7081), some (vI p4), none, none, none] [] e M K := by
  refine im_ld (q := 456) (i := 1) D452_455 rfl rfl rfl ?_
  refine im_ld (q := 457) (i := 3) D452_456 rfl rfl rfl ?_
  refine im_callS (q := 460) (kd := 0) (y := 160) (n := 2) (z := 0) (vs := [.ref 0, .ref 7081]) (r := []) (L2 := [some (.ref 0), some (.ref 7081), none]) D452_457 rfl (im_cal cn_452 cl_13_154) (Or.inl rfl) rfl rfl rfl rfl rfl hd ⟨rfl, rfl, trivial⟩ ?_
  refine hP.mono ?_
  rintro _ e2 M1 ⟨x4, rfl, ex3, rfl, hP⟩
  refine im_bkS ?_
  refine im_st1 (q := 462) (i := 5) (L' := [some (.float 200), some (.ref 0), some (.ref 6952), some (.ref 7081), some (vI p4), some (vI x4), none, none]) D452_460 (Or.inr rfl) (Nat.le_of_ble_eq_true rfl) rfl ?_
  refine im_ld (q := 463) (i := 2) D452_462 rfl rfl rfl ?_
  refine im_callV (q := 466) (kd := 1) (y := 269) (n := 0) (ci := 12) (a := 6952) (vs := [.ref 6952]) (r := []) (L2 := [some (.ref 6952), none]) D452_463 (im_cal cn_452 cl_13_156) (Or.inl rfl) rfl sf_6952 rfl rfl rfl rfl hd ⟨rfl, trivial⟩ ?_
  refine hP.mono ?_
  rintro _ e6 M5 ⟨x8, rfl, rfl, hP⟩
  refine im_bkS ?_
  refine im_st1 (q := 468) (i := 6) (L' := [some (.float 200), some (.ref 0), some (.ref 6952), some (.ref 7081), some (vI p4), some (vI x4), some (vI x8), none]) D452_466 (Or.inr rfl) (Nat.le_of_ble_eq_true rfl) rfl ?_
  refine im_ld (q := 469) (i := 2) D452_468 rfl rfl rfl ?_
  refine im_callV (q := 472) (kd := 1) (y := 262) (n := 0) (ci := 12) (a := 6952) (vs := [.ref 6952]) (r := []) (L2 := [some (.ref 6952)]) D452_469 (im_cal cn_452 cl_13_140) (Or.inl rfl) rfl sf_6952 rfl rfl rfl rfl hd ⟨rfl, trivial⟩ ?_
  refine hP.mono ?_
  rintro _ e10 M9 ⟨x12, rfl, rfl, hP⟩
  refine im_bkS ?_
  refine im_ld (q := 474) (i := 5) D452_472 rfl rfl rfl ?_
  obtain ⟨hg13, hP⟩ := hP
  obtain ⟨hg14, hP⟩ := hP
  obtain ⟨hP, hJ20⟩ := hP
  have kJ21 : (((x12 = x4) ∧ (¬ x4 = 0)) ∨ ((x12 = x4) ∧ (x4 = 0) ∧ ((M9 7081 0) = x8))) → im_T g d 452 496 [some (.float 200), some (.ref 0), some (.ref 6952), some (.ref 7081), some (vI p4), none, none, none] [] (e ++ ex3) M9 K := by
    intro  hx22
    have hP := hJ20  hx22
    refine im_goto (q := 499) (t := 2616) D452_496 rfl ?_
    refine im_iinc (q := 2619) (i := 4) (L' := [some (.float 200), some (.ref 0), some (.ref 6952), some (.ref 7081), some (vI (p4 + 6)), none, none, none]) D452_2616 rfl (Nat.le_of_ble_eq_true rfl) rfl ?_
    refine im_goto (q := 2622) (t := 23) D452_2619 rfl ?_
    exact hP.wk ⟨rfl, rfl, rfl, rfl, rfl, trivial⟩
  refine im_icmp (q := 477) (t := 479) D452_474 rfl hg13 hg14 (fun hc15 => ?_) (fun hc15 => ?_)
  · replace hP := hP.1 hc15
    refine im_ld (q := 481) (i := 5) D452_479 rfl rfl rfl ?_
    refine im_ifc (q := 484) (t := 496) D452_481 rfl hg14 (fun hc16 => ?_) (fun hc16 => ?_)
    · exact (kJ21  (Or.inl ⟨hc15, hc16⟩)).wk ⟨rfl, rfl, rfl, rfl, rfl, trivial⟩
    · replace hP := hP (Decidable.not_not.mp hc16)
      refine im_ld (q := 485) (i := 3) D452_484 rfl rfl rfl ?_
      refine im_iconst (q := 486) D452_485 ?_
      refine im_rng (j := 0) sf_7081 (by decide) (by decide) (fun hr17 => ?_)
      refine im_lald (q := 487) D452_486 sf_7081 (by decide) (by decide) (by decide) rfl ?_
      refine im_ld (q := 489) (i := 6) D452_487 rfl rfl rfl ?_
      obtain ⟨hg18, hP⟩ := hP
      refine im_i2l (q := 490) D452_489 hg18 ?_
      refine im_lif (q := 491) (q2 := 494) (t := 496) D452_490 D452_491 rfl hr17 (im_32_64 hg18) (fun hc19 => ?_) (fun hc19 => ?_)
      · exact (kJ21  (Or.inr ⟨hc15, (Decidable.not_not.mp hc16), hc19⟩)).wk ⟨rfl, rfl, rfl, rfl, rfl, trivial⟩
      · replace hP := hP hc19
        refine im_iconst (q := 495) D452_494 ?_
        exact im_zret (q := 496) D452_495 rfl (by decide) hP
  · replace hP := hP.2 hc15
    refine im_iconst (q := 478) D452_477 ?_
    exact im_zret (q := 479) D452_478 rfl (by decide) hP
set_option maxRecDepth 20000 in
set_option maxHeartbeats 4000000 in
theorem w_law_499 {g : im_g} {d : Nat} {e : im_E} {M : im_M} {K : im_K} {p4 : Int} (hd : 1 ≤ d) (hP : (g.2 ≤ 2147483647) ∧ (0 ≤ (p4 + 1) ∧ (p4 + 1) < g.2) ∧ im_T g (d - 1) 163 0 [some (.ref 0), some (vI (scr g (p4 + 1))), some (.ref 7081), none] [] e M (im_ri (fun x6 e4 M3 => ∃ ex5 : im_E, e4 = e ++ ex5 ∧ im_T g (d - 1) 270 0 [some (.ref 6952), some (vI (scr g (p4 + 1))), none] [] (e ++ ex5) M3 (im_ri (fun x10 e_ M7 => (e ++ ex5) = e_ ∧ im_T g (d - 1) 262 0 [some (.ref 6952)] [] (e ++ ex5) M7 (im_ri (fun x14 e_ M11 => (e ++ ex5) = e_ ∧ (im_i32 x14) ∧ (im_i32 x6) ∧ ((((x14 = x6 → ((x6 = 0 → (im_i32 x10) ∧ ((¬ (M11 7081 0) = x10 → K (.inl (some (vI 0))) (e ++ ex5) M11))))) ∧ (¬ x14 = x6 → K (.inl (some (vI 0))) (e ++ ex5) M11))) ∧ ((((x14 = x6) ∧ (¬ x6 = 0)) ∨ ((x14 = x6) ∧ (x6 = 0) ∧ ((M11 7081 0) = x10))) → im_T g d 452 23 [some (.float 200), some (.ref 0), some (.ref 6952), some (.ref 7081), some (vI (p4 + 6)), none, none, none] [] (e ++ ex5) M11 K))))))))) : im_T g d 452 499 [some (.float 200), some (.ref 0), some (.ref 6952), some (.ref 7081), some (vI p4), none, none, none] [] e M K := by
  refine im_ld (q := 500) (i := 1) D452_499 rfl rfl rfl ?_
  refine im_ld (q := 501) (i := 0) D452_500 rfl rfl rfl ?_
  refine im_ld (q := 503) (i := 4) D452_501 rfl rfl rfl ?_
  refine im_iconst (q := 504) D452_503 ?_
  refine im_iadd (q := 505) D452_504 ?_
  obtain ⟨hg1, hP⟩ := hP
  obtain ⟨hg2, hP⟩ := hP
  refine im_scld (q := 506) D452_505 hg1 hg2.1 hg2.2 ?_
  refine im_ld (q := 507) (i := 3) D452_506 rfl rfl rfl ?_
  refine im_callS (q := 510) (kd := 0) (y := 163) (n := 3) (z := 0) (vs := [.ref 0, vI (scr g (p4 + 1)), .ref 7081]) (r := []) (L2 := [some (.ref 0), some (vI (scr g (p4 + 1))), some (.ref 7081), none]) D452_507 rfl (im_cal cn_452 cl_13_157) (Or.inl rfl) rfl rfl rfl rfl rfl hd ⟨rfl, rfl, rfl, trivial⟩ ?_
  refine hP.mono ?_
  rintro _ e4 M3 ⟨x6, rfl, ex5, rfl, hP⟩
  refine im_bkS ?_
  refine im_st1 (q := 512) (i := 5) (L' := [some (.float 200), some (.ref 0), some (.ref 6952), some (.ref 7081), some (vI p4), some (vI x6), none, none]) D452_510 (Or.inr rfl) (Nat.le_of_ble_eq_true rfl) rfl ?_
  refine im_ld (q := 513) (i := 2) D452_512 rfl rfl rfl ?_
  refine im_ld (q := 514) (i := 0) D452_513 rfl rfl rfl ?_
  refine im_ld (q := 516) (i := 4) D452_514 rfl rfl rfl ?_
  refine im_iconst (q := 517) D452_516 ?_
  refine im_iadd (q := 518) D452_517 ?_
  refine im_scld (q := 519) D452_518 hg1 hg2.1 hg2.2 ?_
  refine im_callV (q := 522) (kd := 1) (y := 270) (n := 1) (ci := 12) (a := 6952) (vs := [.ref 6952, vI (scr g (p4 + 1))]) (r := []) (L2 := [some (.ref 6952), some (vI (scr g (p4 + 1))), none]) D452_519 (im_cal cn_452 cl_13_159) (Or.inl rfl) rfl sf_6952 rfl rfl rfl rfl hd ⟨rfl, rfl, trivial⟩ ?_
  refine hP.mono ?_
  rintro _ e8 M7 ⟨x10, rfl, rfl, hP⟩
  refine im_bkS ?_
  refine im_st1 (q := 524) (i := 6) (L' := [some (.float 200), some (.ref 0), some (.ref 6952), some (.ref 7081), some (vI p4), some (vI x6), some (vI x10), none]) D452_522 (Or.inr rfl) (Nat.le_of_ble_eq_true rfl) rfl ?_
  refine im_ld (q := 525) (i := 2) D452_524 rfl rfl rfl ?_
  refine im_callV (q := 528) (kd := 1) (y := 262) (n := 0) (ci := 12) (a := 6952) (vs := [.ref 6952]) (r := []) (L2 := [some (.ref 6952)]) D452_525 (im_cal cn_452 cl_13_140) (Or.inl rfl) rfl sf_6952 rfl rfl rfl rfl hd ⟨rfl, trivial⟩ ?_
  refine hP.mono ?_
  rintro _ e12 M11 ⟨x14, rfl, rfl, hP⟩
  refine im_bkS ?_
  refine im_ld (q := 530) (i := 5) D452_528 rfl rfl rfl ?_
  obtain ⟨hg15, hP⟩ := hP
  obtain ⟨hg16, hP⟩ := hP
  obtain ⟨hP, hJ22⟩ := hP
  have kJ23 : (((x14 = x6) ∧ (¬ x6 = 0)) ∨ ((x14 = x6) ∧ (x6 = 0) ∧ ((M11 7081 0) = x10))) → im_T g d 452 552 [some (.float 200), some (.ref 0), some (.ref 6952), some (.ref 7081), some (vI p4), none, none, none] [] (e ++ ex5) M11 K := by
    intro  hx24
    have hP := hJ22  hx24
    refine im_goto (q := 555) (t := 2616) D452_552 rfl ?_
    refine im_iinc (q := 2619) (i := 4) (L' := [some (.float 200), some (.ref 0), some (.ref 6952), some (.ref 7081), some (vI (p4 + 6)), none, none, none]) D452_2616 rfl (Nat.le_of_ble_eq_true rfl) rfl ?_
    refine im_goto (q := 2622) (t := 23) D452_2619 rfl ?_
    exact hP.wk ⟨rfl, rfl, rfl, rfl, rfl, trivial⟩
  refine im_icmp (q := 533) (t := 535) D452_530 rfl hg15 hg16 (fun hc17 => ?_) (fun hc17 => ?_)
  · replace hP := hP.1 hc17
    refine im_ld (q := 537) (i := 5) D452_535 rfl rfl rfl ?_
    refine im_ifc (q := 540) (t := 552) D452_537 rfl hg16 (fun hc18 => ?_) (fun hc18 => ?_)
    · exact (kJ23  (Or.inl ⟨hc17, hc18⟩)).wk ⟨rfl, rfl, rfl, rfl, rfl, trivial⟩
    · replace hP := hP (Decidable.not_not.mp hc18)
      refine im_ld (q := 541) (i := 3) D452_540 rfl rfl rfl ?_
      refine im_iconst (q := 542) D452_541 ?_
      refine im_rng (j := 0) sf_7081 (by decide) (by decide) (fun hr19 => ?_)
      refine im_lald (q := 543) D452_542 sf_7081 (by decide) (by decide) (by decide) rfl ?_
      refine im_ld (q := 545) (i := 6) D452_543 rfl rfl rfl ?_
      obtain ⟨hg20, hP⟩ := hP
      refine im_i2l (q := 546) D452_545 hg20 ?_
      refine im_lif (q := 547) (q2 := 550) (t := 552) D452_546 D452_547 rfl hr19 (im_32_64 hg20) (fun hc21 => ?_) (fun hc21 => ?_)
      · exact (kJ23  (Or.inr ⟨hc17, (Decidable.not_not.mp hc18), hc21⟩)).wk ⟨rfl, rfl, rfl, rfl, rfl, trivial⟩
      · replace hP := hP hc21
        refine im_iconst (q := 551) D452_550 ?_
        exact im_zret (q := 552) D452_551 rfl (by decide) hP
  · replace hP := hP.2 hc17
    refine im_iconst (q := 534) D452_533 ?_
    exact im_zret (q := 535) D452_534 rfl (by decide) hP
set_option maxRecDepth 20000 in
set_option maxHeartbeats 4000000 in
theorem w_law_555 {g : im_g} {d : Nat} {e : im_E} {M : im_M} {K : im_K} {p4 : Int} (hd : 1 ≤ d) (hP : (g.2 ≤ 2147483647) ∧ (0 ≤ (p4 + 1) ∧ (p4 + 1) < g.2) ∧ ((∀ x4 : Int, ((((scr g (p4 + 1)) = 0) ∧ x4 = 0) ∨ ((¬ (scr g (p4 + 1)) = 0) ∧ x4 = 1)) → im_T g (d - 1) 19 0 [some (.ref 0), some (vI x4)] [] e M (im_ri (fun x11 e_ M8 => e = e_ ∧ ((∀ x13 : Int, ((((scr g (p4 + 1)) = 0) ∧ x13 = 0) ∨ ((¬ (scr g (p4 + 1)) = 0) ∧ x13 = 1)) → im_T g (d - 1) 313 0 [some (.ref 6952), some (vI x13)] [] e M8 (im_ri (fun x20 e_ M17 => e = e_ ∧ (im_i32 x11) ∧ (im_i32 x20) ∧ ((x11 = x20 → im_T g d 452 23 [some (.float 200), some (.ref 0), some (.ref 6952), some (.ref 7081), some (vI (p4 + 6)), none, none, none] [] e M17 K) ∧ (¬ x11 = x20 → K (.inl (some (vI 0))) e M17))))))))))) : im_T g d 452 555 [some (.float 200), some (.ref 0), some (.ref 6952), some (.ref 7081), some (vI p4), none, none, none] [] e M K := by
  refine im_ld (q := 556) (i := 1) D452_555 rfl rfl rfl ?_
  refine im_ld (q := 557) (i := 0) D452_556 rfl rfl rfl ?_
  refine im_ld (q := 559) (i := 4) D452_557 rfl rfl rfl ?_
  refine im_iconst (q := 560) D452_559 ?_
  refine im_iadd (q := 561) D452_560 ?_
  obtain ⟨hg1, hP⟩ := hP
  obtain ⟨hg2, hP⟩ := hP
  refine im_scld (q := 562) D452_561 hg1 hg2.1 hg2.2 ?_
  have hJ5 := hP
  have kJ6 : ∀ x4 : Int, ((((scr g (p4 + 1)) = 0) ∧ x4 = 0) ∨ ((¬ (scr g (p4 + 1)) = 0) ∧ x4 = 1)) → im_T g d 452 570 [some (.float 200), some (.ref 0), some (.ref 6952), some (.ref 7081), some (vI p4), none, none, none] [vI x4, .ref 0] e M K := by
    intro x4 hx7
    have hP := hJ5 x4 hx7
    refine im_callV (q := 573) (kd := 1) (y := 19) (n := 1) (ci := 11) (a := 0) (vs := [.ref 0, vI x4]) (r := []) (L2 := [some (.ref 0), some (vI x4)]) D452_570 (im_cal cn_452 cl_13_160) (Or.inl rfl) rfl sf_0 rfl rfl rfl rfl hd ⟨rfl, rfl, trivial⟩ ?_
    refine hP.mono ?_
    rintro _ e9 M8 ⟨x11, rfl, rfl, hP⟩
    refine im_bkS ?_
    refine im_ld (q := 574) (i := 2) D452_573 rfl rfl rfl ?_
    refine im_ld (q := 575) (i := 0) D452_574 rfl rfl rfl ?_
    refine im_ld (q := 577) (i := 4) D452_575 rfl rfl rfl ?_
    refine im_iconst (q := 578) D452_577 ?_
    refine im_iadd (q := 579) D452_578 ?_
    refine im_scld (q := 580) D452_579 hg1 hg2.1 hg2.2 ?_
    have hJ14 := hP
    have kJ15 : ∀ x13 : Int, ((((scr g (p4 + 1)) = 0) ∧ x13 = 0) ∨ ((¬ (scr g (p4 + 1)) = 0) ∧ x13 = 1)) → im_T g d 452 588 [some (.float 200), some (.ref 0), some (.ref 6952), some (.ref 7081), some (vI p4), none, none, none] [vI x13, .ref 6952, vI x11] e M8 K := by
      intro x13 hx16
      have hP := hJ14 x13 hx16
      refine im_callV (q := 591) (kd := 1) (y := 313) (n := 1) (ci := 12) (a := 6952) (vs := [.ref 6952, vI x13]) (r := [vI x11]) (L2 := [some (.ref 6952), some (vI x13)]) D452_588 (im_cal cn_452 cl_13_164) (Or.inl rfl) rfl sf_6952 rfl rfl rfl rfl hd ⟨rfl, rfl, trivial⟩ ?_
      refine hP.mono ?_
      rintro _ e18 M17 ⟨x20, rfl, rfl, hP⟩
      refine im_bkS ?_
      obtain ⟨hg21, hP⟩ := hP
      obtain ⟨hg22, hP⟩ := hP
      refine im_icmp (q := 594) (t := 2616) D452_591 rfl hg21 hg22 (fun hc23 => ?_) (fun hc23 => ?_)
      · replace hP := hP.1 hc23
        refine im_iinc (q := 2619) (i := 4) (L' := [some (.float 200), some (.ref 0), some (.ref 6952), some (.ref 7081), some (vI (p4 + 6)), none, none, none]) D452_2616 rfl (Nat.le_of_ble_eq_true rfl) rfl ?_
        refine im_goto (q := 2622) (t := 23) D452_2619 rfl ?_
        exact hP.wk ⟨rfl, rfl, rfl, rfl, rfl, trivial⟩
      · replace hP := hP.2 hc23
        refine im_iconst (q := 595) D452_594 ?_
        exact im_zret (q := 596) D452_595 rfl (by decide) hP
    refine im_ifc (q := 583) (t := 587) D452_580 rfl (scr_r _ _) (fun hc12 => ?_) (fun hc12 => ?_)
    · refine im_iconst (q := 588) D452_587 ?_
      exact (kJ15 (0) (Or.inl ⟨hc12, rfl⟩)).wk ⟨rfl, rfl, rfl, rfl, rfl, trivial⟩
    · refine im_iconst (q := 584) D452_583 ?_
      refine im_goto (q := 587) (t := 588) D452_584 rfl ?_
      exact (kJ15 (1) (Or.inr ⟨hc12, rfl⟩)).wk ⟨rfl, rfl, rfl, rfl, rfl, trivial⟩
  refine im_ifc (q := 565) (t := 569) D452_562 rfl (scr_r _ _) (fun hc3 => ?_) (fun hc3 => ?_)
  · refine im_iconst (q := 570) D452_569 ?_
    exact (kJ6 (0) (Or.inl ⟨hc3, rfl⟩)).wk ⟨rfl, rfl, rfl, rfl, rfl, trivial⟩
  · refine im_iconst (q := 566) D452_565 ?_
    refine im_goto (q := 569) (t := 570) D452_566 rfl ?_
    exact (kJ6 (1) (Or.inr ⟨hc3, rfl⟩)).wk ⟨rfl, rfl, rfl, rfl, rfl, trivial⟩
set_option maxRecDepth 20000 in
set_option maxHeartbeats 4000000 in
theorem w_law_596 {g : im_g} {d : Nat} {e : im_E} {M : im_M} {K : im_K} {p4 : Int} (hd : 1 ≤ d) (hP : (g.2 ≤ 2147483647) ∧ (0 ≤ (p4 + 1) ∧ (p4 + 1) < g.2) ∧ im_T g (d - 1) 170 0 [some (.ref 0), some (vI (scr g (p4 + 1))), some (.ref 7081), none] [] e M (im_ri (fun x6 e4 M3 => ∃ ex5 : im_E, e4 = e ++ ex5 ∧ im_T g (d - 1) 314 0 [some (.ref 6952), some (vI (scr g (p4 + 1))), none] [] (e ++ ex5) M3 (im_ri (fun x10 e_ M7 => (e ++ ex5) = e_ ∧ im_T g (d - 1) 262 0 [some (.ref 6952)] [] (e ++ ex5) M7 (im_ri (fun x14 e_ M11 => (e ++ ex5) = e_ ∧ (im_i32 x14) ∧ (im_i32 x6) ∧ ((((x14 = x6 → ((x6 = 0 → (im_i32 x10) ∧ ((¬ (M11 7081 0) = x10 → K (.inl (some (vI 0))) (e ++ ex5) M11))))) ∧ (¬ x14 = x6 → K (.inl (some (vI 0))) (e ++ ex5) M11))) ∧ ((((x14 = x6) ∧ (¬ x6 = 0)) ∨ ((x14 = x6) ∧ (x6 = 0) ∧ ((M11 7081 0) = x10))) → im_T g d 452 23 [some (.float 200), some (.ref 0), some (.ref 6952), some (.ref 7081), some (vI (p4 + 6)), none, none, none] [] (e ++ ex5) M11 K))))))))) : im_T g d 452 596 [some (.float 200), some (.ref 0), some (.ref 6952), some (.ref 7081), some (vI p4), none, none, none] [] e M K := by
  refine im_ld (q := 597) (i := 1) D452_596 rfl rfl rfl ?_
  refine im_ld (q := 598) (i := 0) D452_597 rfl rfl rfl ?_
  refine im_ld (q := 600) (i := 4) D452_598 rfl rfl rfl ?_
  refine im_iconst (q := 601) D452_600 ?_
  refine im_iadd (q := 602) D452_601 ?_
  obtain ⟨hg1, hP⟩ := hP
  obtain ⟨hg2, hP⟩ := hP
  refine im_scld (q := 603) D452_602 hg1 hg2.1 hg2.2 ?_
  refine im_ld (q := 604) (i := 3) D452_603 rfl rfl rfl ?_
  refine im_callS (q := 607) (kd := 0) (y := 170) (n := 3) (z := 0) (vs := [.ref 0, vI (scr g (p4 + 1)), .ref 7081]) (r := []) (L2 := [some (.ref 0), some (vI (scr g (p4 + 1))), some (.ref 7081), none]) D452_604 rfl (im_cal cn_452 cl_13_165) (Or.inl rfl) rfl rfl rfl rfl rfl hd ⟨rfl, rfl, rfl, trivial⟩ ?_
  refine hP.mono ?_
  rintro _ e4 M3 ⟨x6, rfl, ex5, rfl, hP⟩
  refine im_bkS ?_
  refine im_st1 (q := 609) (i := 5) (L' := [some (.float 200), some (.ref 0), some (.ref 6952), some (.ref 7081), some (vI p4), some (vI x6), none, none]) D452_607 (Or.inr rfl) (Nat.le_of_ble_eq_true rfl) rfl ?_
  refine im_ld (q := 610) (i := 2) D452_609 rfl rfl rfl ?_
  refine im_ld (q := 611) (i := 0) D452_610 rfl rfl rfl ?_
  refine im_ld (q := 613) (i := 4) D452_611 rfl rfl rfl ?_
  refine im_iconst (q := 614) D452_613 ?_
  refine im_iadd (q := 615) D452_614 ?_
  refine im_scld (q := 616) D452_615 hg1 hg2.1 hg2.2 ?_
  refine im_callV (q := 619) (kd := 1) (y := 314) (n := 1) (ci := 12) (a := 6952) (vs := [.ref 6952, vI (scr g (p4 + 1))]) (r := []) (L2 := [some (.ref 6952), some (vI (scr g (p4 + 1))), none]) D452_616 (im_cal cn_452 cl_13_167) (Or.inl rfl) rfl sf_6952 rfl rfl rfl rfl hd ⟨rfl, rfl, trivial⟩ ?_
  refine hP.mono ?_
  rintro _ e8 M7 ⟨x10, rfl, rfl, hP⟩
  refine im_bkS ?_
  refine im_st1 (q := 621) (i := 6) (L' := [some (.float 200), some (.ref 0), some (.ref 6952), some (.ref 7081), some (vI p4), some (vI x6), some (vI x10), none]) D452_619 (Or.inr rfl) (Nat.le_of_ble_eq_true rfl) rfl ?_
  refine im_ld (q := 622) (i := 2) D452_621 rfl rfl rfl ?_
  refine im_callV (q := 625) (kd := 1) (y := 262) (n := 0) (ci := 12) (a := 6952) (vs := [.ref 6952]) (r := []) (L2 := [some (.ref 6952)]) D452_622 (im_cal cn_452 cl_13_140) (Or.inl rfl) rfl sf_6952 rfl rfl rfl rfl hd ⟨rfl, trivial⟩ ?_
  refine hP.mono ?_
  rintro _ e12 M11 ⟨x14, rfl, rfl, hP⟩
  refine im_bkS ?_
  refine im_ld (q := 627) (i := 5) D452_625 rfl rfl rfl ?_
  obtain ⟨hg15, hP⟩ := hP
  obtain ⟨hg16, hP⟩ := hP
  obtain ⟨hP, hJ22⟩ := hP
  have kJ23 : (((x14 = x6) ∧ (¬ x6 = 0)) ∨ ((x14 = x6) ∧ (x6 = 0) ∧ ((M11 7081 0) = x10))) → im_T g d 452 649 [some (.float 200), some (.ref 0), some (.ref 6952), some (.ref 7081), some (vI p4), none, none, none] [] (e ++ ex5) M11 K := by
    intro  hx24
    have hP := hJ22  hx24
    refine im_goto (q := 652) (t := 2616) D452_649 rfl ?_
    refine im_iinc (q := 2619) (i := 4) (L' := [some (.float 200), some (.ref 0), some (.ref 6952), some (.ref 7081), some (vI (p4 + 6)), none, none, none]) D452_2616 rfl (Nat.le_of_ble_eq_true rfl) rfl ?_
    refine im_goto (q := 2622) (t := 23) D452_2619 rfl ?_
    exact hP.wk ⟨rfl, rfl, rfl, rfl, rfl, trivial⟩
  refine im_icmp (q := 630) (t := 632) D452_627 rfl hg15 hg16 (fun hc17 => ?_) (fun hc17 => ?_)
  · replace hP := hP.1 hc17
    refine im_ld (q := 634) (i := 5) D452_632 rfl rfl rfl ?_
    refine im_ifc (q := 637) (t := 649) D452_634 rfl hg16 (fun hc18 => ?_) (fun hc18 => ?_)
    · exact (kJ23  (Or.inl ⟨hc17, hc18⟩)).wk ⟨rfl, rfl, rfl, rfl, rfl, trivial⟩
    · replace hP := hP (Decidable.not_not.mp hc18)
      refine im_ld (q := 638) (i := 3) D452_637 rfl rfl rfl ?_
      refine im_iconst (q := 639) D452_638 ?_
      refine im_rng (j := 0) sf_7081 (by decide) (by decide) (fun hr19 => ?_)
      refine im_lald (q := 640) D452_639 sf_7081 (by decide) (by decide) (by decide) rfl ?_
      refine im_ld (q := 642) (i := 6) D452_640 rfl rfl rfl ?_
      obtain ⟨hg20, hP⟩ := hP
      refine im_i2l (q := 643) D452_642 hg20 ?_
      refine im_lif (q := 644) (q2 := 647) (t := 649) D452_643 D452_644 rfl hr19 (im_32_64 hg20) (fun hc21 => ?_) (fun hc21 => ?_)
      · exact (kJ23  (Or.inr ⟨hc17, (Decidable.not_not.mp hc18), hc21⟩)).wk ⟨rfl, rfl, rfl, rfl, rfl, trivial⟩
      · replace hP := hP hc21
        refine im_iconst (q := 648) D452_647 ?_
        exact im_zret (q := 649) D452_648 rfl (by decide) hP
  · replace hP := hP.2 hc17
    refine im_iconst (q := 631) D452_630 ?_
    exact im_zret (q := 632) D452_631 rfl (by decide) hP
set_option maxRecDepth 20000 in
set_option maxHeartbeats 4000000 in
theorem w_law_652 {g : im_g} {d : Nat} {e : im_E} {M : im_M} {K : im_K} {p4 : Int} (hd : 1 ≤ d) (hP : (g.2 ≤ 2147483647) ∧ (0 ≤ (p4 + 1) ∧ (p4 + 1) < g.2) ∧ im_T g (d - 1) 172 0 [some (.ref 0), some (vI (scr g (p4 + 1))), some (.ref 7081), none] [] e M (im_ri (fun x6 e4 M3 => ∃ ex5 : im_E, e4 = e ++ ex5 ∧ im_T g (d - 1) 315 0 [some (.ref 6952), some (vI (scr g (p4 + 1)))] [] (e ++ ex5) M3 (im_ri (fun x10 e_ M7 => (e ++ ex5) = e_ ∧ im_T g (d - 1) 262 0 [some (.ref 6952)] [] (e ++ ex5) M7 (im_ri (fun x14 e_ M11 => (e ++ ex5) = e_ ∧ (im_i32 x14) ∧ (im_i32 x6) ∧ ((((x14 = x6 → ((x6 = 0 → (im_i32 x10) ∧ ((¬ (M11 7081 0) = x10 → K (.inl (some (vI 0))) (e ++ ex5) M11))))) ∧ (¬ x14 = x6 → K (.inl (some (vI 0))) (e ++ ex5) M11))) ∧ ((((x14 = x6) ∧ (¬ x6 = 0)) ∨ ((x14 = x6) ∧ (x6 = 0) ∧ ((M11 7081 0) = x10))) → im_T g d 452 23 [some (.float 200), some (.ref 0), some (.ref 6952), some (.ref 7081), some (vI (p4 + 6)), none, none, none] [] (e ++ ex5) M11 K))))))))) : im_T g d 452 652 [some (.float 200), some (.ref 0), some (.ref 6952), some (.ref 7081), some (vI p4), none, none, none] [] e M K := by
  refine im_ld (q := 653) (i := 1) D452_652 rfl rfl rfl ?_
  refine im_ld (q := 654) (i := 0) D452_653 rfl rfl rfl ?_
  refine im_ld (q := 656) (i := 4) D452_654 rfl rfl rfl ?_
  refine im_iconst (q := 657) D452_656 ?_
  refine im_iadd (q := 658) D452_657 ?_
  obtain ⟨hg1, hP⟩ := hP
  obtain ⟨hg2, hP⟩ := hP
  refine im_scld (q := 659) D452_658 hg1 hg2.1 hg2.2 ?_
  refine im_ld (q := 660) (i := 3) D452_659 rfl rfl rfl ?_
  refine im_callS (q := 663) (kd := 0) (y := 172) (n := 3) (z := 0) (vs := [.ref 0, vI (scr g (p4 + 1)), .ref 7081]) (r := []) (L2 := [some (.ref 0), some (vI (scr g (p4 + 1))), some (.ref 7081), none]) D452_660 rfl (im_cal cn_452 cl_13_168) (Or.inl rfl) rfl rfl rfl rfl rfl hd ⟨rfl, rfl, rfl, trivial⟩ ?_
  refine hP.mono ?_
  rintro _ e4 M3 ⟨x6, rfl, ex5, rfl, hP⟩
  refine im_bkS ?_
  refine im_st1 (q := 665) (i := 5) (L' := [some (.float 200), some (.ref 0), some (.ref 6952), some (.ref 7081), some (vI p4), some (vI x6), none, none]) D452_663 (Or.inr rfl) (Nat.le_of_ble_eq_true rfl) rfl ?_
  refine im_ld (q := 666) (i := 2) D452_665 rfl rfl rfl ?_
  refine im_ld (q := 667) (i := 0) D452_666 rfl rfl rfl ?_
  refine im_ld (q := 669) (i := 4) D452_667 rfl rfl rfl ?_
  refine im_iconst (q := 670) D452_669 ?_
  refine im_iadd (q := 671) D452_670 ?_
  refine im_scld (q := 672) D452_671 hg1 hg2.1 hg2.2 ?_
  refine im_callV (q := 675) (kd := 1) (y := 315) (n := 1) (ci := 12) (a := 6952) (vs := [.ref 6952, vI (scr g (p4 + 1))]) (r := []) (L2 := [some (.ref 6952), some (vI (scr g (p4 + 1)))]) D452_672 (im_cal cn_452 cl_13_170) (Or.inl rfl) rfl sf_6952 rfl rfl rfl rfl hd ⟨rfl, rfl, trivial⟩ ?_
  refine hP.mono ?_
  rintro _ e8 M7 ⟨x10, rfl, rfl, hP⟩
  refine im_bkS ?_
  refine im_st1 (q := 677) (i := 6) (L' := [some (.float 200), some (.ref 0), some (.ref 6952), some (.ref 7081), some (vI p4), some (vI x6), some (vI x10), none]) D452_675 (Or.inr rfl) (Nat.le_of_ble_eq_true rfl) rfl ?_
  refine im_ld (q := 678) (i := 2) D452_677 rfl rfl rfl ?_
  refine im_callV (q := 681) (kd := 1) (y := 262) (n := 0) (ci := 12) (a := 6952) (vs := [.ref 6952]) (r := []) (L2 := [some (.ref 6952)]) D452_678 (im_cal cn_452 cl_13_140) (Or.inl rfl) rfl sf_6952 rfl rfl rfl rfl hd ⟨rfl, trivial⟩ ?_
  refine hP.mono ?_
  rintro _ e12 M11 ⟨x14, rfl, rfl, hP⟩
  refine im_bkS ?_
  refine im_ld (q := 683) (i := 5) D452_681 rfl rfl rfl ?_
  obtain ⟨hg15, hP⟩ := hP
  obtain ⟨hg16, hP⟩ := hP
  obtain ⟨hP, hJ22⟩ := hP
  have kJ23 : (((x14 = x6) ∧ (¬ x6 = 0)) ∨ ((x14 = x6) ∧ (x6 = 0) ∧ ((M11 7081 0) = x10))) → im_T g d 452 705 [some (.float 200), some (.ref 0), some (.ref 6952), some (.ref 7081), some (vI p4), none, none, none] [] (e ++ ex5) M11 K := by
    intro  hx24
    have hP := hJ22  hx24
    refine im_goto (q := 708) (t := 2616) D452_705 rfl ?_
    refine im_iinc (q := 2619) (i := 4) (L' := [some (.float 200), some (.ref 0), some (.ref 6952), some (.ref 7081), some (vI (p4 + 6)), none, none, none]) D452_2616 rfl (Nat.le_of_ble_eq_true rfl) rfl ?_
    refine im_goto (q := 2622) (t := 23) D452_2619 rfl ?_
    exact hP.wk ⟨rfl, rfl, rfl, rfl, rfl, trivial⟩
  refine im_icmp (q := 686) (t := 688) D452_683 rfl hg15 hg16 (fun hc17 => ?_) (fun hc17 => ?_)
  · replace hP := hP.1 hc17
    refine im_ld (q := 690) (i := 5) D452_688 rfl rfl rfl ?_
    refine im_ifc (q := 693) (t := 705) D452_690 rfl hg16 (fun hc18 => ?_) (fun hc18 => ?_)
    · exact (kJ23  (Or.inl ⟨hc17, hc18⟩)).wk ⟨rfl, rfl, rfl, rfl, rfl, trivial⟩
    · replace hP := hP (Decidable.not_not.mp hc18)
      refine im_ld (q := 694) (i := 3) D452_693 rfl rfl rfl ?_
      refine im_iconst (q := 695) D452_694 ?_
      refine im_rng (j := 0) sf_7081 (by decide) (by decide) (fun hr19 => ?_)
      refine im_lald (q := 696) D452_695 sf_7081 (by decide) (by decide) (by decide) rfl ?_
      refine im_ld (q := 698) (i := 6) D452_696 rfl rfl rfl ?_
      obtain ⟨hg20, hP⟩ := hP
      refine im_i2l (q := 699) D452_698 hg20 ?_
      refine im_lif (q := 700) (q2 := 703) (t := 705) D452_699 D452_700 rfl hr19 (im_32_64 hg20) (fun hc21 => ?_) (fun hc21 => ?_)
      · exact (kJ23  (Or.inr ⟨hc17, (Decidable.not_not.mp hc18), hc21⟩)).wk ⟨rfl, rfl, rfl, rfl, rfl, trivial⟩
      · replace hP := hP hc21
        refine im_iconst (q := 704) D452_703 ?_
        exact im_zret (q := 705) D452_704 rfl (by decide) hP
  · replace hP := hP.2 hc17
    refine im_iconst (q := 687) D452_686 ?_
    exact im_zret (q := 688) D452_687 rfl (by decide) hP
set_option maxRecDepth 20000 in
set_option maxHeartbeats 4000000 in
theorem w_law_708 {g : im_g} {d : Nat} {e : im_E} {M : im_M} {K : im_K} {p4 : Int} (hd : 1 ≤ d) (hP : (g.2 ≤ 2147483647) ∧ (0 ≤ (p4 + 1) ∧ (p4 + 1) < g.2) ∧ (0 ≤ (p4 + 2) ∧ (p4 + 2) < g.2) ∧ im_T g (d - 1) 188 0 [some (.ref 0), some (vI (scr g (p4 + 1))), some (vI (scr g (p4 + 2))), some (.ref 7081), none] [] e M (im_ri (fun x7 e5 M4 => ∃ ex6 : im_E, e5 = e ++ ex6 ∧ im_T g (d - 1) 328 0 [some (.ref 6952), some (vI (scr g (p4 + 1))), some (vI (scr g (p4 + 2))), none, none, none, none, none] [] (e ++ ex6) M4 (im_rl (fun x11 e_ M8 => (e ++ ex6) = e_ ∧ im_T g (d - 1) 262 0 [some (.ref 6952)] [] (e ++ ex6) M8 (im_ri (fun x15 e_ M12 => (e ++ ex6) = e_ ∧ (im_i32 x15) ∧ (im_i32 x7) ∧ ((((x15 = x7 → ((x7 = 0 → (im_i64 x11) ∧ ((¬ (M12 7081 0) = x11 → K (.inl (some (vI 0))) (e ++ ex6) M12))))) ∧ (¬ x15 = x7 → K (.inl (some (vI 0))) (e ++ ex6) M12))) ∧ ((((x15 = x7) ∧ (¬ x7 = 0)) ∨ ((x15 = x7) ∧ (x7 = 0) ∧ ((M12 7081 0) = x11))) → im_T g d 452 23 [some (.float 200), some (.ref 0), some (.ref 6952), some (.ref 7081), some (vI (p4 + 6)), none, none, none] [] (e ++ ex6) M12 K))))))))) : im_T g d 452 708 [some (.float 200), some (.ref 0), some (.ref 6952), some (.ref 7081), some (vI p4), none, none, none] [] e M K := by
  refine im_ld (q := 709) (i := 1) D452_708 rfl rfl rfl ?_
  refine im_ld (q := 710) (i := 0) D452_709 rfl rfl rfl ?_
  refine im_ld (q := 712) (i := 4) D452_710 rfl rfl rfl ?_
  refine im_iconst (q := 713) D452_712 ?_
  refine im_iadd (q := 714) D452_713 ?_
  obtain ⟨hg1, hP⟩ := hP
  obtain ⟨hg2, hP⟩ := hP
  refine im_scld (q := 715) D452_714 hg1 hg2.1 hg2.2 ?_
  refine im_ld (q := 716) (i := 0) D452_715 rfl rfl rfl ?_
  refine im_ld (q := 718) (i := 4) D452_716 rfl rfl rfl ?_
  refine im_iconst (q := 719) D452_718 ?_
  refine im_iadd (q := 720) D452_719 ?_
  obtain ⟨hg3, hP⟩ := hP
  refine im_scld (q := 721) D452_720 hg1 hg3.1 hg3.2 ?_
  refine im_ld (q := 722) (i := 3) D452_721 rfl rfl rfl ?_
  refine im_callS (q := 725) (kd := 0) (y := 188) (n := 4) (z := 0) (vs := [.ref 0, vI (scr g (p4 + 1)), vI (scr g (p4 + 2)), .ref 7081]) (r := []) (L2 := [some (.ref 0), some (vI (scr g (p4 + 1))), some (vI (scr g (p4 + 2))), some (.ref 7081), none]) D452_722 rfl (im_cal cn_452 cl_13_171) (Or.inl rfl) rfl rfl rfl rfl rfl hd ⟨rfl, rfl, rfl, rfl, trivial⟩ ?_
  refine hP.mono ?_
  rintro _ e5 M4 ⟨x7, rfl, ex6, rfl, hP⟩
  refine im_bkS ?_
  refine im_st1 (q := 727) (i := 5) (L' := [some (.float 200), some (.ref 0), some (.ref 6952), some (.ref 7081), some (vI p4), some (vI x7), none, none]) D452_725 (Or.inr rfl) (Nat.le_of_ble_eq_true rfl) rfl ?_
  refine im_ld (q := 728) (i := 2) D452_727 rfl rfl rfl ?_
  refine im_ld (q := 729) (i := 0) D452_728 rfl rfl rfl ?_
  refine im_ld (q := 731) (i := 4) D452_729 rfl rfl rfl ?_
  refine im_iconst (q := 732) D452_731 ?_
  refine im_iadd (q := 733) D452_732 ?_
  refine im_scld (q := 734) D452_733 hg1 hg2.1 hg2.2 ?_
  refine im_ld (q := 735) (i := 0) D452_734 rfl rfl rfl ?_
  refine im_ld (q := 737) (i := 4) D452_735 rfl rfl rfl ?_
  refine im_iconst (q := 738) D452_737 ?_
  refine im_iadd (q := 739) D452_738 ?_
  refine im_scld (q := 740) D452_739 hg1 hg3.1 hg3.2 ?_
  refine im_callV (q := 743) (kd := 1) (y := 328) (n := 2) (ci := 12) (a := 6952) (vs := [.ref 6952, vI (scr g (p4 + 1)), vI (scr g (p4 + 2))]) (r := []) (L2 := [some (.ref 6952), some (vI (scr g (p4 + 1))), some (vI (scr g (p4 + 2))), none, none, none, none, none]) D452_740 (im_cal cn_452 cl_13_174) (Or.inl rfl) rfl sf_6952 rfl rfl rfl rfl hd ⟨rfl, rfl, rfl, trivial⟩ ?_
  refine hP.mono ?_
  rintro _ e9 M8 ⟨x11, rfl, rfl, hP⟩
  refine im_bkS ?_
  refine im_st2 (q := 745) (i := 6) (L' := [some (.float 200), some (.ref 0), some (.ref 6952), some (.ref 7081), some (vI p4), some (vI x7), some (vL x11), none]) D452_743 (Or.inr rfl) (Nat.le_of_ble_eq_true rfl) rfl ?_
  refine im_ld (q := 746) (i := 2) D452_745 rfl rfl rfl ?_
  refine im_callV (q := 749) (kd := 1) (y := 262) (n := 0) (ci := 12) (a := 6952) (vs := [.ref 6952]) (r := []) (L2 := [some (.ref 6952)]) D452_746 (im_cal cn_452 cl_13_140) (Or.inl rfl) rfl sf_6952 rfl rfl rfl rfl hd ⟨rfl, trivial⟩ ?_
  refine hP.mono ?_
  rintro _ e13 M12 ⟨x15, rfl, rfl, hP⟩
  refine im_bkS ?_
  refine im_ld (q := 751) (i := 5) D452_749 rfl rfl rfl ?_
  obtain ⟨hg16, hP⟩ := hP
  obtain ⟨hg17, hP⟩ := hP
  obtain ⟨hP, hJ23⟩ := hP
  have kJ24 : (((x15 = x7) ∧ (¬ x7 = 0)) ∨ ((x15 = x7) ∧ (x7 = 0) ∧ ((M12 7081 0) = x11))) → im_T g d 452 772 [some (.float 200), some (.ref 0), some (.ref 6952), some (.ref 7081), some (vI p4), none, none, none] [] (e ++ ex6) M12 K := by
    intro  hx25
    have hP := hJ23  hx25
    refine im_goto (q := 775) (t := 2616) D452_772 rfl ?_
    refine im_iinc (q := 2619) (i := 4) (L' := [some (.float 200), some (.ref 0), some (.ref 6952), some (.ref 7081), some (vI (p4 + 6)), none, none, none]) D452_2616 rfl (Nat.le_of_ble_eq_true rfl) rfl ?_
    refine im_goto (q := 2622) (t := 23) D452_2619 rfl ?_
    exact hP.wk ⟨rfl, rfl, rfl, rfl, rfl, trivial⟩
  refine im_icmp (q := 754) (t := 756) D452_751 rfl hg16 hg17 (fun hc18 => ?_) (fun hc18 => ?_)
  · replace hP := hP.1 hc18
    refine im_ld (q := 758) (i := 5) D452_756 rfl rfl rfl ?_
    refine im_ifc (q := 761) (t := 772) D452_758 rfl hg17 (fun hc19 => ?_) (fun hc19 => ?_)
    · exact (kJ24  (Or.inl ⟨hc18, hc19⟩)).wk ⟨rfl, rfl, rfl, rfl, rfl, trivial⟩
    · replace hP := hP (Decidable.not_not.mp hc19)
      refine im_ld (q := 762) (i := 3) D452_761 rfl rfl rfl ?_
      refine im_iconst (q := 763) D452_762 ?_
      refine im_rng (j := 0) sf_7081 (by decide) (by decide) (fun hr20 => ?_)
      refine im_lald (q := 764) D452_763 sf_7081 (by decide) (by decide) (by decide) rfl ?_
      refine im_ld (q := 766) (i := 6) D452_764 rfl rfl rfl ?_
      obtain ⟨hg21, hP⟩ := hP
      refine im_lif (q := 767) (q2 := 770) (t := 772) D452_766 D452_767 rfl hr20 hg21 (fun hc22 => ?_) (fun hc22 => ?_)
      · exact (kJ24  (Or.inr ⟨hc18, (Decidable.not_not.mp hc19), hc22⟩)).wk ⟨rfl, rfl, rfl, rfl, rfl, trivial⟩
      · replace hP := hP hc22
        refine im_iconst (q := 771) D452_770 ?_
        exact im_zret (q := 772) D452_771 rfl (by decide) hP
  · replace hP := hP.2 hc18
    refine im_iconst (q := 755) D452_754 ?_
    exact im_zret (q := 756) D452_755 rfl (by decide) hP
set_option maxRecDepth 20000 in
set_option maxHeartbeats 4000000 in
theorem w_law_775 {g : im_g} {d : Nat} {e : im_E} {M : im_M} {K : im_K} {p4 : Int} (hd : 1 ≤ d) (hP : (g.2 ≤ 2147483647) ∧ (0 ≤ (p4 + 1) ∧ (p4 + 1) < g.2) ∧ (0 ≤ (p4 + 2) ∧ (p4 + 2) < g.2) ∧ im_T g (d - 1) 196 0 [some (.ref 0), some (vL (xlor (xlshl (scr g (p4 + 1)) 32) (xland (scr g (p4 + 2)) 4294967295))), none, some (.ref 7081), none] [] e M (im_ri (fun x7 e5 M4 => ∃ ex6 : im_E, e5 = e ++ ex6 ∧ im_T g (d - 1) 332 0 [some (.ref 6952), some (vL (xlor (xlshl (scr g (p4 + 1)) 32) (xland (scr g (p4 + 2)) 4294967295))), none, none] [] (e ++ ex6) M4 (im_ri (fun x11 e_ M8 => (e ++ ex6) = e_ ∧ im_T g (d - 1) 262 0 [some (.ref 6952)] [] (e ++ ex6) M8 (im_ri (fun x15 e_ M12 => (e ++ ex6) = e_ ∧ (im_i32 x15) ∧ (im_i32 x7) ∧ ((((x15 = x7 → ((x7 = 0 → (im_i32 x11) ∧ ((¬ (M12 7081 0) = x11 → K (.inl (some (vI 0))) (e ++ ex6) M12))))) ∧ (¬ x15 = x7 → K (.inl (some (vI 0))) (e ++ ex6) M12))) ∧ ((((x15 = x7) ∧ (¬ x7 = 0)) ∨ ((x15 = x7) ∧ (x7 = 0) ∧ ((M12 7081 0) = x11))) → im_T g d 452 23 [some (.float 200), some (.ref 0), some (.ref 6952), some (.ref 7081), some (vI (p4 + 6)), none, none, none] [] (e ++ ex6) M12 K))))))))) : im_T g d 452 775 [some (.float 200), some (.ref 0), some (.ref 6952), some (.ref 7081), some (vI p4), none, none, none] [] e M K := by
  refine im_ld (q := 776) (i := 1) D452_775 rfl rfl rfl ?_
  refine im_ld (q := 777) (i := 0) D452_776 rfl rfl rfl ?_
  refine im_ld (q := 779) (i := 4) D452_777 rfl rfl rfl ?_
  refine im_iconst (q := 780) D452_779 ?_
  refine im_iadd (q := 781) D452_780 ?_
  obtain ⟨hg1, hP⟩ := hP
  obtain ⟨hg2, hP⟩ := hP
  refine im_scld (q := 782) D452_781 hg1 hg2.1 hg2.2 ?_
  refine im_i2l (q := 783) D452_782 (scr_r _ _) ?_
  refine im_bipush (q := 785) D452_783 rfl ?_
  refine im_lshl (q := 786) D452_785 ?_
  refine im_ld (q := 787) (i := 0) D452_786 rfl rfl rfl ?_
  refine im_ld (q := 789) (i := 4) D452_787 rfl rfl rfl ?_
  refine im_iconst (q := 790) D452_789 ?_
  refine im_iadd (q := 791) D452_790 ?_
  obtain ⟨hg3, hP⟩ := hP
  refine im_scld (q := 792) D452_791 hg1 hg3.1 hg3.2 ?_
  refine im_i2l (q := 793) D452_792 (scr_r _ _) ?_
  refine im_ldc2 (q := 796) (n := 4294967295) D452_793 rfl ?_
  refine im_land (q := 797) D452_796 ?_
  refine im_lor (q := 798) D452_797 ?_
  refine im_ld (q := 799) (i := 3) D452_798 rfl rfl rfl ?_
  refine im_callS (q := 802) (kd := 0) (y := 196) (n := 3) (z := 0) (vs := [.ref 0, vL (xlor (xlshl (scr g (p4 + 1)) 32) (xland (scr g (p4 + 2)) 4294967295)), .ref 7081]) (r := []) (L2 := [some (.ref 0), some (vL (xlor (xlshl (scr g (p4 + 1)) 32) (xland (scr g (p4 + 2)) 4294967295))), none, some (.ref 7081), none]) D452_799 rfl (im_cal cn_452 cl_13_177) (Or.inl rfl) rfl rfl rfl rfl rfl hd ⟨rfl, rfl, rfl, trivial⟩ ?_
  refine hP.mono ?_
  rintro _ e5 M4 ⟨x7, rfl, ex6, rfl, hP⟩
  refine im_bkS ?_
  refine im_st1 (q := 804) (i := 5) (L' := [some (.float 200), some (.ref 0), some (.ref 6952), some (.ref 7081), some (vI p4), some (vI x7), none, none]) D452_802 (Or.inr rfl) (Nat.le_of_ble_eq_true rfl) rfl ?_
  refine im_ld (q := 805) (i := 2) D452_804 rfl rfl rfl ?_
  refine im_ld (q := 806) (i := 0) D452_805 rfl rfl rfl ?_
  refine im_ld (q := 808) (i := 4) D452_806 rfl rfl rfl ?_
  refine im_iconst (q := 809) D452_808 ?_
  refine im_iadd (q := 810) D452_809 ?_
  refine im_scld (q := 811) D452_810 hg1 hg2.1 hg2.2 ?_
  refine im_i2l (q := 812) D452_811 (scr_r _ _) ?_
  refine im_bipush (q := 814) D452_812 rfl ?_
  refine im_lshl (q := 815) D452_814 ?_
  refine im_ld (q := 816) (i := 0) D452_815 rfl rfl rfl ?_
  refine im_ld (q := 818) (i := 4) D452_816 rfl rfl rfl ?_
  refine im_iconst (q := 819) D452_818 ?_
  refine im_iadd (q := 820) D452_819 ?_
  refine im_scld (q := 821) D452_820 hg1 hg3.1 hg3.2 ?_
  refine im_i2l (q := 822) D452_821 (scr_r _ _) ?_
  refine im_ldc2 (q := 825) (n := 4294967295) D452_822 rfl ?_
  refine im_land (q := 826) D452_825 ?_
  refine im_lor (q := 827) D452_826 ?_
  refine im_callV (q := 830) (kd := 1) (y := 332) (n := 1) (ci := 12) (a := 6952) (vs := [.ref 6952, vL (xlor (xlshl (scr g (p4 + 1)) 32) (xland (scr g (p4 + 2)) 4294967295))]) (r := []) (L2 := [some (.ref 6952), some (vL (xlor (xlshl (scr g (p4 + 1)) 32) (xland (scr g (p4 + 2)) 4294967295))), none, none]) D452_827 (im_cal cn_452 cl_13_180) (Or.inl rfl) rfl sf_6952 rfl rfl rfl rfl hd ⟨rfl, rfl, trivial⟩ ?_
  refine hP.mono ?_
  rintro _ e9 M8 ⟨x11, rfl, rfl, hP⟩
  refine im_bkS ?_
  refine im_st1 (q := 832) (i := 6) (L' := [some (.float 200), some (.ref 0), some (.ref 6952), some (.ref 7081), some (vI p4), some (vI x7), some (vI x11), none]) D452_830 (Or.inr rfl) (Nat.le_of_ble_eq_true rfl) rfl ?_
  refine im_ld (q := 833) (i := 2) D452_832 rfl rfl rfl ?_
  refine im_callV (q := 836) (kd := 1) (y := 262) (n := 0) (ci := 12) (a := 6952) (vs := [.ref 6952]) (r := []) (L2 := [some (.ref 6952)]) D452_833 (im_cal cn_452 cl_13_140) (Or.inl rfl) rfl sf_6952 rfl rfl rfl rfl hd ⟨rfl, trivial⟩ ?_
  refine hP.mono ?_
  rintro _ e13 M12 ⟨x15, rfl, rfl, hP⟩
  refine im_bkS ?_
  refine im_ld (q := 838) (i := 5) D452_836 rfl rfl rfl ?_
  obtain ⟨hg16, hP⟩ := hP
  obtain ⟨hg17, hP⟩ := hP
  obtain ⟨hP, hJ23⟩ := hP
  have kJ24 : (((x15 = x7) ∧ (¬ x7 = 0)) ∨ ((x15 = x7) ∧ (x7 = 0) ∧ ((M12 7081 0) = x11))) → im_T g d 452 860 [some (.float 200), some (.ref 0), some (.ref 6952), some (.ref 7081), some (vI p4), none, none, none] [] (e ++ ex6) M12 K := by
    intro  hx25
    have hP := hJ23  hx25
    refine im_goto (q := 863) (t := 2616) D452_860 rfl ?_
    refine im_iinc (q := 2619) (i := 4) (L' := [some (.float 200), some (.ref 0), some (.ref 6952), some (.ref 7081), some (vI (p4 + 6)), none, none, none]) D452_2616 rfl (Nat.le_of_ble_eq_true rfl) rfl ?_
    refine im_goto (q := 2622) (t := 23) D452_2619 rfl ?_
    exact hP.wk ⟨rfl, rfl, rfl, rfl, rfl, trivial⟩
  refine im_icmp (q := 841) (t := 843) D452_838 rfl hg16 hg17 (fun hc18 => ?_) (fun hc18 => ?_)
  · replace hP := hP.1 hc18
    refine im_ld (q := 845) (i := 5) D452_843 rfl rfl rfl ?_
    refine im_ifc (q := 848) (t := 860) D452_845 rfl hg17 (fun hc19 => ?_) (fun hc19 => ?_)
    · exact (kJ24  (Or.inl ⟨hc18, hc19⟩)).wk ⟨rfl, rfl, rfl, rfl, rfl, trivial⟩
    · replace hP := hP (Decidable.not_not.mp hc19)
      refine im_ld (q := 849) (i := 3) D452_848 rfl rfl rfl ?_
      refine im_iconst (q := 850) D452_849 ?_
      refine im_rng (j := 0) sf_7081 (by decide) (by decide) (fun hr20 => ?_)
      refine im_lald (q := 851) D452_850 sf_7081 (by decide) (by decide) (by decide) rfl ?_
      refine im_ld (q := 853) (i := 6) D452_851 rfl rfl rfl ?_
      obtain ⟨hg21, hP⟩ := hP
      refine im_i2l (q := 854) D452_853 hg21 ?_
      refine im_lif (q := 855) (q2 := 858) (t := 860) D452_854 D452_855 rfl hr20 (im_32_64 hg21) (fun hc22 => ?_) (fun hc22 => ?_)
      · exact (kJ24  (Or.inr ⟨hc18, (Decidable.not_not.mp hc19), hc22⟩)).wk ⟨rfl, rfl, rfl, rfl, rfl, trivial⟩
      · replace hP := hP hc22
        refine im_iconst (q := 859) D452_858 ?_
        exact im_zret (q := 860) D452_859 rfl (by decide) hP
  · replace hP := hP.2 hc18
    refine im_iconst (q := 842) D452_841 ?_
    exact im_zret (q := 843) D452_842 rfl (by decide) hP
set_option maxRecDepth 20000 in
set_option maxHeartbeats 4000000 in
theorem w_law_863 {g : im_g} {d : Nat} {e : im_E} {M : im_M} {K : im_K} {p4 : Int} (hd : 1 ≤ d) (hP : im_T g (d - 1) 198 0 [some (.ref 0), some (.ref 7081), none] [] e M (im_ri (fun x4 e2 M1 => ∃ ex3 : im_E, e2 = e ++ ex3 ∧ im_T g (d - 1) 341 0 [some (.ref 6952), none, none] [] (e ++ ex3) M1 (im_ri (fun x8 e_ M5 => (e ++ ex3) = e_ ∧ im_T g (d - 1) 262 0 [some (.ref 6952)] [] (e ++ ex3) M5 (im_ri (fun x12 e_ M9 => (e ++ ex3) = e_ ∧ (im_i32 x12) ∧ (im_i32 x4) ∧ ((((x12 = x4 → ((x4 = 0 → (im_i32 x8) ∧ ((¬ (M9 7081 0) = x8 → K (.inl (some (vI 0))) (e ++ ex3) M9))))) ∧ (¬ x12 = x4 → K (.inl (some (vI 0))) (e ++ ex3) M9))) ∧ ((((x12 = x4) ∧ (¬ x4 = 0)) ∨ ((x12 = x4) ∧ (x4 = 0) ∧ ((M9 7081 0) = x8))) → im_T g d 452 23 [some (.float 200), some (.ref 0), some (.ref 6952), some (.ref 7081), some (vI (p4 + 6)), none, none, none] [] (e ++ ex3) M9 K))))))))) : im_T g d 452 863 [some (.float 200), some (.ref 0), some (.ref 6952), some (.ref 7081), some (vI p4), none, none, none] [] e M K := by
  refine im_ld (q := 864) (i := 1) D452_863 rfl rfl rfl ?_
  refine im_ld (q := 865) (i := 3) D452_864 rfl rfl rfl ?_
  refine im_callS (q := 868) (kd := 0) (y := 198) (n := 2) (z := 0) (vs := [.ref 0, .ref 7081]) (r := []) (L2 := [some (.ref 0), some (.ref 7081), none]) D452_865 rfl (im_cal cn_452 cl_13_181) (Or.inl rfl) rfl rfl rfl rfl rfl hd ⟨rfl, rfl, trivial⟩ ?_
  refine hP.mono ?_
  rintro _ e2 M1 ⟨x4, rfl, ex3, rfl, hP⟩
  refine im_bkS ?_
  refine im_st1 (q := 870) (i := 5) (L' := [some (.float 200), some (.ref 0), some (.ref 6952), some (.ref 7081), some (vI p4), some (vI x4), none, none]) D452_868 (Or.inr rfl) (Nat.le_of_ble_eq_true rfl) rfl ?_
  refine im_ld (q := 871) (i := 2) D452_870 rfl rfl rfl ?_
  refine im_callV (q := 874) (kd := 1) (y := 341) (n := 0) (ci := 12) (a := 6952) (vs := [.ref 6952]) (r := []) (L2 := [some (.ref 6952), none, none]) D452_871 (im_cal cn_452 cl_13_183) (Or.inl rfl) rfl sf_6952 rfl rfl rfl rfl hd ⟨rfl, trivial⟩ ?_
  refine hP.mono ?_
  rintro _ e6 M5 ⟨x8, rfl, rfl, hP⟩
  refine im_bkS ?_
  refine im_st1 (q := 876) (i := 6) (L' := [some (.float 200), some (.ref 0), some (.ref 6952), some (.ref 7081), some (vI p4), some (vI x4), some (vI x8), none]) D452_874 (Or.inr rfl) (Nat.le_of_ble_eq_true rfl) rfl ?_
  refine im_ld (q := 877) (i := 2) D452_876 rfl rfl rfl ?_
  refine im_callV (q := 880) (kd := 1) (y := 262) (n := 0) (ci := 12) (a := 6952) (vs := [.ref 6952]) (r := []) (L2 := [some (.ref 6952)]) D452_877 (im_cal cn_452 cl_13_140) (Or.inl rfl) rfl sf_6952 rfl rfl rfl rfl hd ⟨rfl, trivial⟩ ?_
  refine hP.mono ?_
  rintro _ e10 M9 ⟨x12, rfl, rfl, hP⟩
  refine im_bkS ?_
  refine im_ld (q := 882) (i := 5) D452_880 rfl rfl rfl ?_
  obtain ⟨hg13, hP⟩ := hP
  obtain ⟨hg14, hP⟩ := hP
  obtain ⟨hP, hJ20⟩ := hP
  have kJ21 : (((x12 = x4) ∧ (¬ x4 = 0)) ∨ ((x12 = x4) ∧ (x4 = 0) ∧ ((M9 7081 0) = x8))) → im_T g d 452 904 [some (.float 200), some (.ref 0), some (.ref 6952), some (.ref 7081), some (vI p4), none, none, none] [] (e ++ ex3) M9 K := by
    intro  hx22
    have hP := hJ20  hx22
    refine im_goto (q := 907) (t := 2616) D452_904 rfl ?_
    refine im_iinc (q := 2619) (i := 4) (L' := [some (.float 200), some (.ref 0), some (.ref 6952), some (.ref 7081), some (vI (p4 + 6)), none, none, none]) D452_2616 rfl (Nat.le_of_ble_eq_true rfl) rfl ?_
    refine im_goto (q := 2622) (t := 23) D452_2619 rfl ?_
    exact hP.wk ⟨rfl, rfl, rfl, rfl, rfl, trivial⟩
  refine im_icmp (q := 885) (t := 887) D452_882 rfl hg13 hg14 (fun hc15 => ?_) (fun hc15 => ?_)
  · replace hP := hP.1 hc15
    refine im_ld (q := 889) (i := 5) D452_887 rfl rfl rfl ?_
    refine im_ifc (q := 892) (t := 904) D452_889 rfl hg14 (fun hc16 => ?_) (fun hc16 => ?_)
    · exact (kJ21  (Or.inl ⟨hc15, hc16⟩)).wk ⟨rfl, rfl, rfl, rfl, rfl, trivial⟩
    · replace hP := hP (Decidable.not_not.mp hc16)
      refine im_ld (q := 893) (i := 3) D452_892 rfl rfl rfl ?_
      refine im_iconst (q := 894) D452_893 ?_
      refine im_rng (j := 0) sf_7081 (by decide) (by decide) (fun hr17 => ?_)
      refine im_lald (q := 895) D452_894 sf_7081 (by decide) (by decide) (by decide) rfl ?_
      refine im_ld (q := 897) (i := 6) D452_895 rfl rfl rfl ?_
      obtain ⟨hg18, hP⟩ := hP
      refine im_i2l (q := 898) D452_897 hg18 ?_
      refine im_lif (q := 899) (q2 := 902) (t := 904) D452_898 D452_899 rfl hr17 (im_32_64 hg18) (fun hc19 => ?_) (fun hc19 => ?_)
      · exact (kJ21  (Or.inr ⟨hc15, (Decidable.not_not.mp hc16), hc19⟩)).wk ⟨rfl, rfl, rfl, rfl, rfl, trivial⟩
      · replace hP := hP hc19
        refine im_iconst (q := 903) D452_902 ?_
        exact im_zret (q := 904) D452_903 rfl (by decide) hP
  · replace hP := hP.2 hc15
    refine im_iconst (q := 886) D452_885 ?_
    exact im_zret (q := 887) D452_886 rfl (by decide) hP
