theorem am_pieces {α : Type} {p : α → Bool} {l : List α} (n k : Nat) (hl : l.length ≤ n * k) (h : ∀ j, j < k → ((l.drop (n * j)).take n).all p = true) : l.all p = true := by
  rw [List.all_eq_true]
  intro x hx
  obtain ⟨i, hi⟩ := List.mem_iff_getElem?.mp hx
  have hil : i < l.length := (List.getElem?_eq_some_iff.mp hi).1
  have hn : 0 < n := by
    rcases Nat.eq_zero_or_pos n with z | z
    · subst z; simp at hl; subst hl; cases hil
    · exact z
  have hj : i / n < k := Nat.div_lt_of_lt_mul (by omega)
  refine List.all_eq_true.mp (h (i / n) hj) x (List.mem_of_getElem? (i := i % n) ?_)
  rw [List.getElem?_take, if_pos (Nat.mod_lt _ hn), List.getElem?_drop, Nat.div_add_mod, hi]
theorem am_k0 : am_t0.all (am_ck1 prog_1_method_1_code) = true := by decide +kernel
theorem am_k1 : am_t1.all (am_ck1 prog_8_method_1_code) = true := by decide +kernel
theorem am_k2 : am_t2.all (am_ck1 prog_5_method_1_code) = true := by decide +kernel
theorem am_k3 : am_t3.all (am_ck1 prog_22_method_54_code) = true := by decide +kernel
theorem am_k4 : am_t4.all (am_ck1 prog_22_method_152_code) = true := by decide +kernel
theorem am_k5 : am_t5.all (am_ck1 prog_22_method_56_code) = true := by decide +kernel
theorem am_k6 : am_t6.all (am_ck1 prog_22_method_154_code) = true := by decide +kernel
theorem am_k7 : am_t7.all (am_ck1 prog_23_method_2_code) = true := by decide +kernel
theorem am_k8 : am_t8.all (am_ck1 prog_22_method_155_code) = true := by decide +kernel
theorem am_k9 : am_t9.all (am_ck1 prog_26_method_11_code) = true := by decide +kernel
theorem am_k10 : am_t10.all (am_ck1 prog_12_method_1_code) = true := by decide +kernel
theorem am_k11 : am_t11.all (am_ck1 prog_7_method_1_code) = true := by decide +kernel
theorem am_k12 : am_t12.all (am_ck1 prog_6_method_1_code) = true := by decide +kernel
theorem am_k13 : am_t13.all (am_ck1 prog_2_method_1_code) = true := by decide +kernel
theorem am_k14 : am_t14.all (am_ck1 prog_9_method_1_code) = true := by decide +kernel
theorem am_k15 : am_t15.all (am_ck1 prog_11_method_1_code) = true := by decide +kernel
theorem am_k16 : am_t16.all (am_ck1 prog_4_method_1_code) = true := by decide +kernel
theorem am_k17 : am_t17.all (am_ck1 prog_10_method_1_code) = true := by decide +kernel
theorem am_k18 : am_t18.all (am_ck1 prog_3_method_1_code) = true := by decide +kernel
theorem am_k19 : am_t19.all (am_ck1 prog_1_method_9_code) = true := by decide +kernel
theorem am_k20 : am_t20.all (am_ck1 prog_1_method_48_code) = true := by decide +kernel
theorem am_k21 : am_t21.all (am_ck1 prog_1_method_52_code) = true := by decide +kernel
theorem am_k22 : am_t22.all (am_ck1 prog_12_method_2_code) = true := by decide +kernel
theorem am_k23 : am_t23.all (am_ck1 prog_7_method_2_code) = true := by decide +kernel
theorem am_k24 : am_t24.all (am_ck1 prog_3_method_2_code) = true := by decide +kernel
theorem am_k25 : am_t25.all (am_ck1 prog_3_method_15_code) = true := by decide +kernel
theorem am_k26 : am_t26.all (am_ck1 prog_3_method_14_code) = true := by decide +kernel
theorem am_k27 : am_t27.all (am_ck1 prog_3_method_13_code) = true := by decide +kernel
theorem am_k28 : am_t28.all (am_ck1 prog_3_method_3_code) = true := by decide +kernel
theorem am_k29 : am_t29.all (am_ck1 prog_3_method_4_code) = true := by decide +kernel
theorem am_k30 : am_t30.all (am_ck1 prog_3_method_10_code) = true := by decide +kernel
theorem am_k31 : am_t31.all (am_ck1 prog_3_method_11_code) = true := by decide +kernel
theorem am_k32 : am_t32.all (am_ck1 prog_3_method_16_code) = true := by decide +kernel
theorem am_k33 : am_t33.all (am_ck1 prog_3_method_12_code) = true := by decide +kernel
theorem am_k34 : am_t34.all (am_ck1 prog_3_method_18_code) = true := by decide +kernel
theorem am_k35 : am_t35.all (am_ck1 prog_3_method_17_code) = true := by decide +kernel
theorem am_k36 : am_t36.all (am_ck1 prog_1_method_13_code) = true := by decide +kernel
theorem am_k37 : am_t37.all (am_ck1 prog_6_method_2_code) = true := by decide +kernel
theorem am_k38 : am_t38.all (am_ck1 prog_8_method_4_code) = true := by decide +kernel
theorem am_k39 : am_t39.all (am_ck1 prog_6_method_4_code) = true := by decide +kernel
theorem am_k40 : am_t40.all (am_ck1 prog_8_method_5_code) = true := by decide +kernel
theorem am_k41 : am_t41.all (am_ck1 prog_8_method_6_code) = true := by decide +kernel
theorem am_k42 : am_t42.all (am_ck1 prog_8_method_7_code) = true := by decide +kernel
theorem am_k43 : am_t43.all (am_ck1 prog_8_method_10_code) = true := by decide +kernel
theorem am_k44 : am_t44.all (am_ck1 prog_8_method_9_code) = true := by decide +kernel
theorem am_k45 : am_t45.all (am_ck1 prog_8_method_11_code) = true := by decide +kernel
theorem am_k46 : am_t46.all (am_ck1 prog_5_method_6_code) = true := by decide +kernel
theorem am_k47 : am_t47.all (am_ck1 prog_8_method_12_code) = true := by decide +kernel
theorem am_k48 : am_t48.all (am_ck1 prog_8_method_8_code) = true := by decide +kernel
theorem am_k49 : am_t49.all (am_ck1 prog_8_method_13_code) = true := by decide +kernel
theorem am_k50 : am_t50.all (am_ck1 prog_6_method_6_code) = true := by decide +kernel
theorem am_k51 : am_t51.all (am_ck1 prog_6_method_7_code) = true := by decide +kernel
theorem am_k52 : am_t52.all (am_ck1 prog_6_method_8_code) = true := by decide +kernel
theorem am_k53 : am_t53.all (am_ck1 prog_6_method_10_code) = true := by decide +kernel
theorem am_k54 : am_t54.all (am_ck1 prog_6_method_12_code) = true := by decide +kernel
theorem am_k55 : am_t55.all (am_ck1 prog_6_method_11_code) = true := by decide +kernel
theorem am_k56 : am_t56.all (am_ck1 prog_6_method_13_code) = true := by decide +kernel
theorem am_k57 : am_t57.all (am_ck1 prog_6_method_14_code) = true := by decide +kernel
theorem am_k58 : am_t58.all (am_ck1 prog_7_method_3_code) = true := by decide +kernel
theorem am_k59 : am_t59.all (am_ck1 prog_6_method_5_code) = true := by decide +kernel
theorem am_k60 : am_t60.all (am_ck1 prog_1_method_61_code) = true := by decide +kernel
theorem am_k61 : am_t61.all (am_ck1 prog_6_method_15_code) = true := by decide +kernel
theorem am_k62 : am_t62.all (am_ck1 prog_6_method_16_code) = true := by decide +kernel
theorem am_k63 : am_t63.all (am_ck1 prog_6_method_17_code) = true := by decide +kernel
theorem am_k64 : am_t64.all (am_ck1 prog_5_method_5_code) = true := by decide +kernel
theorem am_k65 : am_t65.all (am_ck1 prog_6_method_18_code) = true := by decide +kernel
theorem am_k66 : am_t66.all (am_ck1 prog_5_method_3_code) = true := by decide +kernel
theorem am_k67 : am_t67.all (am_ck1 prog_6_method_19_code) = true := by decide +kernel
theorem am_k68 : am_t68.all (am_ck1 prog_5_method_7_code) = true := by decide +kernel
theorem am_k69 : am_t69.all (am_ck1 prog_5_method_8_code) = true := by decide +kernel
