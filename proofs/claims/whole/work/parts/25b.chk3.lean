theorem am_okm0 : ∀ j, j < 32 → am_cm1 (0 + j) = true := by decide +kernel
theorem am_okm1 : ∀ j, j < 32 → am_cm1 (32 + j) = true := by decide +kernel
theorem am_okm2 : ∀ j, j < 32 → am_cm1 (64 + j) = true := by decide +kernel
theorem am_okm3 : ∀ j, j < 32 → am_cm1 (96 + j) = true := by decide +kernel
theorem am_okm4 : ∀ j, j < 32 → am_cm1 (128 + j) = true := by decide +kernel
theorem am_okm5 : ∀ j, j < 32 → am_cm1 (160 + j) = true := by decide +kernel
theorem am_okm6 : ∀ j, j < 32 → am_cm1 (192 + j) = true := by decide +kernel
theorem am_okm7 : ∀ j, j < 32 → am_cm1 (224 + j) = true := by decide +kernel
theorem am_okm8 : ∀ j, j < 32 → am_cm1 (256 + j) = true := by decide +kernel
theorem am_okm9 : ∀ j, j < 32 → am_cm1 (288 + j) = true := by decide +kernel
theorem am_okm10 : ∀ j, j < 32 → am_cm1 (320 + j) = true := by decide +kernel
theorem am_okm11 : ∀ j, j < 32 → am_cm1 (352 + j) = true := by decide +kernel
theorem am_okm12 : ∀ j, j < 32 → am_cm1 (384 + j) = true := by decide +kernel
theorem am_okm13 : ∀ j, j < 32 → am_cm1 (416 + j) = true := by decide +kernel
theorem am_okm14 : ∀ j, j < 9 → am_cm1 (448 + j) = true := by decide +kernel
theorem am_okm : ∀ M, M < 457 → am_cm1 M = true := by
  intro M hM
  rcases Nat.lt_or_ge M 32 with z | z
  · have := am_okm0 (M - 0) (by omega); rwa [show 0 + (M - 0) = M by omega] at this
  rcases Nat.lt_or_ge M 64 with z | z
  · have := am_okm1 (M - 32) (by omega); rwa [show 32 + (M - 32) = M by omega] at this
  rcases Nat.lt_or_ge M 96 with z | z
  · have := am_okm2 (M - 64) (by omega); rwa [show 64 + (M - 64) = M by omega] at this
  rcases Nat.lt_or_ge M 128 with z | z
  · have := am_okm3 (M - 96) (by omega); rwa [show 96 + (M - 96) = M by omega] at this
  rcases Nat.lt_or_ge M 160 with z | z
  · have := am_okm4 (M - 128) (by omega); rwa [show 128 + (M - 128) = M by omega] at this
  rcases Nat.lt_or_ge M 192 with z | z
  · have := am_okm5 (M - 160) (by omega); rwa [show 160 + (M - 160) = M by omega] at this
  rcases Nat.lt_or_ge M 224 with z | z
  · have := am_okm6 (M - 192) (by omega); rwa [show 192 + (M - 192) = M by omega] at this
  rcases Nat.lt_or_ge M 256 with z | z
  · have := am_okm7 (M - 224) (by omega); rwa [show 224 + (M - 224) = M by omega] at this
  rcases Nat.lt_or_ge M 288 with z | z
  · have := am_okm8 (M - 256) (by omega); rwa [show 256 + (M - 256) = M by omega] at this
  rcases Nat.lt_or_ge M 320 with z | z
  · have := am_okm9 (M - 288) (by omega); rwa [show 288 + (M - 288) = M by omega] at this
  rcases Nat.lt_or_ge M 352 with z | z
  · have := am_okm10 (M - 320) (by omega); rwa [show 320 + (M - 320) = M by omega] at this
  rcases Nat.lt_or_ge M 384 with z | z
  · have := am_okm11 (M - 352) (by omega); rwa [show 352 + (M - 352) = M by omega] at this
  rcases Nat.lt_or_ge M 416 with z | z
  · have := am_okm12 (M - 384) (by omega); rwa [show 384 + (M - 384) = M by omega] at this
  rcases Nat.lt_or_ge M 448 with z | z
  · have := am_okm13 (M - 416) (by omega); rwa [show 416 + (M - 416) = M by omega] at this
  rcases Nat.lt_or_ge M 457 with z | z
  · have := am_okm14 (M - 448) (by omega); rwa [show 448 + (M - 448) = M by omega] at this
  · omega
theorem am_cnok : ∀ M, M < 458 → am_cs (am_cn M) = (am_nam M).cls ∧ plainName (am_nam M).cls = true := by decide +kernel
