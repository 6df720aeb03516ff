/-! THE LAW: the script -/
def scr (g : im_g) (j : Int) : Int := (g.1 j.toNat).toInt
theorem scr_r (g : im_g) (j : Int) : im_i32 (scr g j) := by
  have h1 := (g.1 j.toNat).toInt_lt
  have h2 := (g.1 j.toNat).le_toInt
  unfold scr
  constructor <;> omega
theorem scl_r {g : im_g} (h : g.2 ≤ 2147483647) : im_i32 (g.2 : Int) := by constructor <;> omega
theorem im_scld {g : im_g} {d m pc q : Nat} {L : im_L} {r : List Value} {e : im_E} {M : im_M} {K : im_K} {j : Int} (hD : im_D g m pc .iaload q) (hL : g.2 ≤ 2147483647) (h0 : 0 ≤ j) (h1 : j < g.2) (k : im_T g d m q L (vI (scr g j) :: r) e M K) : im_T g d m pc L (vI j :: .float 200 :: r) e M K := by
  obtain ⟨_, len, hd, hq⟩ := hD
  have hq : pc + 1 = q := hq
  refine im_spc (q := q) (st' := vI (scr g j) :: r) ?_ k
  have hd : (am_2 am_tbs [] m).lookup pc = some (.iaload, len) := hd
  show am_sp g.1 g.2 m pc (vI j :: .float 200 :: r) = some (q, vI (scr g j) :: r)
  unfold am_sp
  rw [hd]
  obtain ⟨i1, i2⟩ := im_ix (n := g.2) h0 h1 hL
  simp only [vI]
  rw [if_pos trivial, if_neg i1, i2]
  subst hq
  have : Int32.ofInt (scr g j) = g.1 j.toNat := Int32.ofInt_toInt _
  rw [this]
theorem im_scln {g : im_g} {d m pc q : Nat} {L : im_L} {r : List Value} {e : im_E} {M : im_M} {K : im_K} (hD : im_D g m pc .arraylength q) (k : im_T g d m q L (vI (g.2 : Int) :: r) e M K) : im_T g d m pc L (.float 200 :: r) e M K := by
  obtain ⟨_, len, hd, hq⟩ := hD
  have hq : pc + 1 = q := hq
  refine im_spc (q := q) (st' := vI (g.2 : Int) :: r) ?_ k
  have hd : (am_2 am_tbs [] m).lookup pc = some (.arraylength, len) := hd
  show am_sp g.1 g.2 m pc (.float 200 :: r) = some (q, vI (g.2 : Int) :: r)
  unfold am_sp
  rw [hd]
  simp only [vI]
  rw [if_pos trivial]
  subst hq
  rfl
set_option maxRecDepth 20000 in
theorem sf_7081 {e : im_E} : (im_sh0 ++ e)[7081]? = some (2, 1, []) := im_sh_of (pu_Rr (n := 7081) (i := 0) (by simp only [List.length_append, List.length_nil, pu_plat_len, pu_model_len]) rfl rfl) rfl
theorem cn_150 : am_cn 150 = 13 := by decide +kernel
theorem cn_154 : am_cn 154 = 13 := by decide +kernel
theorem cn_156 : am_cn 156 = 13 := by decide +kernel
theorem cn_158 : am_cn 158 = 13 := by decide +kernel
theorem cn_160 : am_cn 160 = 13 := by decide +kernel
theorem cn_163 : am_cn 163 = 13 := by decide +kernel
theorem cn_170 : am_cn 170 = 13 := by decide +kernel
theorem cn_172 : am_cn 172 = 13 := by decide +kernel
theorem cn_188 : am_cn 188 = 13 := by decide +kernel
theorem cn_196 : am_cn 196 = 13 := by decide +kernel
theorem cn_198 : am_cn 198 = 13 := by decide +kernel
theorem cn_200 : am_cn 200 = 13 := by decide +kernel
theorem cn_202 : am_cn 202 = 13 := by decide +kernel
theorem cn_204 : am_cn 204 = 13 := by decide +kernel
theorem cn_206 : am_cn 206 = 13 := by decide +kernel
theorem cn_209 : am_cn 209 = 13 := by decide +kernel
theorem cn_212 : am_cn 212 = 13 := by decide +kernel
theorem cn_216 : am_cn 216 = 13 := by decide +kernel
theorem cn_218 : am_cn 218 = 13 := by decide +kernel
theorem cn_220 : am_cn 220 = 13 := by decide +kernel
theorem cn_223 : am_cn 223 = 13 := by decide +kernel
theorem cn_225 : am_cn 225 = 13 := by decide +kernel
theorem cn_227 : am_cn 227 = 13 := by decide +kernel
theorem cn_229 : am_cn 229 = 13 := by decide +kernel
theorem cn_231 : am_cn 231 = 13 := by decide +kernel
theorem cn_234 : am_cn 234 = 13 := by decide +kernel
theorem cn_236 : am_cn 236 = 13 := by decide +kernel
theorem cn_247 : am_cn 247 = 13 := by decide +kernel
theorem cn_249 : am_cn 249 = 13 := by decide +kernel
theorem cn_251 : am_cn 251 = 13 := by decide +kernel
theorem cn_253 : am_cn 253 = 13 := by decide +kernel
theorem cn_255 : am_cn 255 = 13 := by decide +kernel
theorem cn_257 : am_cn 257 = 13 := by decide +kernel
theorem cn_452 : am_cn 452 = 13 := by decide +kernel
theorem cl_13_7 : (am_ccal.getD 13 []).lookup 7 = some (1, 151, 5, 11) := by decide +kernel
theorem cl_13_17 : (am_ccal.getD 13 []).lookup 17 = some (1, 155, 1, 11) := by decide +kernel
theorem cl_13_21 : (am_ccal.getD 13 []).lookup 21 = some (1, 157, 0, 11) := by decide +kernel
theorem cl_13_25 : (am_ccal.getD 13 []).lookup 25 = some (1, 159, 1, 11) := by decide +kernel
theorem cl_13_29 : (am_ccal.getD 13 []).lookup 29 = some (1, 161, 0, 11) := by decide +kernel
theorem cl_13_32 : (am_ccal.getD 13 []).lookup 32 = some (1, 164, 1, 11) := by decide +kernel
theorem cl_13_37 : (am_ccal.getD 13 []).lookup 37 = some (1, 171, 1, 11) := by decide +kernel
theorem cl_13_40 : (am_ccal.getD 13 []).lookup 40 = some (1, 173, 1, 11) := by decide +kernel
theorem cl_13_43 : (am_ccal.getD 13 []).lookup 43 = some (1, 189, 2, 11) := by decide +kernel
theorem cl_13_47 : (am_ccal.getD 13 []).lookup 47 = some (1, 197, 1, 11) := by decide +kernel
theorem cl_13_51 : (am_ccal.getD 13 []).lookup 51 = some (1, 199, 0, 11) := by decide +kernel
theorem cl_13_54 : (am_ccal.getD 13 []).lookup 54 = some (1, 201, 3, 11) := by decide +kernel
theorem cl_13_58 : (am_ccal.getD 13 []).lookup 58 = some (1, 203, 1, 11) := by decide +kernel
theorem cl_13_61 : (am_ccal.getD 13 []).lookup 61 = some (1, 205, 3, 11) := by decide +kernel
theorem cl_13_65 : (am_ccal.getD 13 []).lookup 65 = some (1, 207, 1, 11) := by decide +kernel
theorem cl_13_68 : (am_ccal.getD 13 []).lookup 68 = some (1, 210, 2, 11) := by decide +kernel
theorem cl_13_71 : (am_ccal.getD 13 []).lookup 71 = some (1, 213, 3, 11) := by decide +kernel
theorem cl_13_75 : (am_ccal.getD 13 []).lookup 75 = some (1, 217, 4, 11) := by decide +kernel
theorem cl_13_79 : (am_ccal.getD 13 []).lookup 79 = some (1, 219, 1, 11) := by decide +kernel
theorem cl_13_82 : (am_ccal.getD 13 []).lookup 82 = some (1, 221, 2, 11) := by decide +kernel
theorem cl_13_85 : (am_ccal.getD 13 []).lookup 85 = some (1, 224, 2, 11) := by decide +kernel
theorem cl_13_89 : (am_ccal.getD 13 []).lookup 89 = some (1, 226, 2, 11) := by decide +kernel
theorem cl_13_92 : (am_ccal.getD 13 []).lookup 92 = some (1, 228, 2, 11) := by decide +kernel
theorem cl_13_96 : (am_ccal.getD 13 []).lookup 96 = some (1, 230, 2, 11) := by decide +kernel
theorem cl_13_99 : (am_ccal.getD 13 []).lookup 99 = some (1, 232, 2, 11) := by decide +kernel
theorem cl_13_103 : (am_ccal.getD 13 []).lookup 103 = some (1, 235, 0, 11) := by decide +kernel
theorem cl_13_106 : (am_ccal.getD 13 []).lookup 106 = some (1, 237, 4, 11) := by decide +kernel
theorem cl_13_110 : (am_ccal.getD 13 []).lookup 110 = some (1, 248, 0, 11) := by decide +kernel
theorem cl_13_113 : (am_ccal.getD 13 []).lookup 113 = some (1, 250, 1, 11) := by decide +kernel
theorem cl_13_117 : (am_ccal.getD 13 []).lookup 117 = some (1, 252, 1, 11) := by decide +kernel
theorem cl_13_120 : (am_ccal.getD 13 []).lookup 120 = some (1, 254, 2, 11) := by decide +kernel
theorem cl_13_124 : (am_ccal.getD 13 []).lookup 124 = some (1, 256, 0, 11) := by decide +kernel
theorem cl_13_127 : (am_ccal.getD 13 []).lookup 127 = some (1, 258, 1, 11) := by decide +kernel
theorem cl_13_134 : (am_ccal.getD 13 []).lookup 134 = some (0, 150, 7, 0) := by decide +kernel
theorem cl_13_139 : (am_ccal.getD 13 []).lookup 139 = some (1, 263, 5, 12) := by decide +kernel
theorem cl_13_140 : (am_ccal.getD 13 []).lookup 140 = some (1, 262, 0, 12) := by decide +kernel
theorem cl_13_143 : (am_ccal.getD 13 []).lookup 143 = some (0, 154, 3, 0) := by decide +kernel
theorem cl_13_146 : (am_ccal.getD 13 []).lookup 146 = some (1, 265, 1, 12) := by decide +kernel
theorem cl_13_147 : (am_ccal.getD 13 []).lookup 147 = some (0, 156, 2, 0) := by decide +kernel
theorem cl_13_150 : (am_ccal.getD 13 []).lookup 150 = some (1, 266, 0, 12) := by decide +kernel
theorem cl_13_151 : (am_ccal.getD 13 []).lookup 151 = some (0, 158, 3, 0) := by decide +kernel
theorem cl_13_153 : (am_ccal.getD 13 []).lookup 153 = some (1, 267, 1, 12) := by decide +kernel
theorem cl_13_154 : (am_ccal.getD 13 []).lookup 154 = some (0, 160, 2, 0) := by decide +kernel
theorem cl_13_156 : (am_ccal.getD 13 []).lookup 156 = some (1, 269, 0, 12) := by decide +kernel
theorem cl_13_157 : (am_ccal.getD 13 []).lookup 157 = some (0, 163, 3, 0) := by decide +kernel
theorem cl_13_159 : (am_ccal.getD 13 []).lookup 159 = some (1, 270, 1, 12) := by decide +kernel
theorem cl_13_160 : (am_ccal.getD 13 []).lookup 160 = some (1, 19, 1, 11) := by decide +kernel
theorem cl_13_164 : (am_ccal.getD 13 []).lookup 164 = some (1, 313, 1, 12) := by decide +kernel
theorem cl_13_165 : (am_ccal.getD 13 []).lookup 165 = some (0, 170, 3, 0) := by decide +kernel
theorem cl_13_167 : (am_ccal.getD 13 []).lookup 167 = some (1, 314, 1, 12) := by decide +kernel
theorem cl_13_168 : (am_ccal.getD 13 []).lookup 168 = some (0, 172, 3, 0) := by decide +kernel
theorem cl_13_170 : (am_ccal.getD 13 []).lookup 170 = some (1, 315, 1, 12) := by decide +kernel
theorem cl_13_171 : (am_ccal.getD 13 []).lookup 171 = some (0, 188, 4, 0) := by decide +kernel
theorem cl_13_174 : (am_ccal.getD 13 []).lookup 174 = some (1, 328, 2, 12) := by decide +kernel
theorem cl_13_177 : (am_ccal.getD 13 []).lookup 177 = some (0, 196, 3, 0) := by decide +kernel
theorem cl_13_180 : (am_ccal.getD 13 []).lookup 180 = some (1, 332, 1, 12) := by decide +kernel
theorem cl_13_181 : (am_ccal.getD 13 []).lookup 181 = some (0, 198, 2, 0) := by decide +kernel
theorem cl_13_183 : (am_ccal.getD 13 []).lookup 183 = some (1, 341, 0, 12) := by decide +kernel
theorem cl_13_184 : (am_ccal.getD 13 []).lookup 184 = some (0, 200, 5, 0) := by decide +kernel
theorem cl_13_187 : (am_ccal.getD 13 []).lookup 187 = some (1, 342, 3, 12) := by decide +kernel
theorem cl_13_188 : (am_ccal.getD 13 []).lookup 188 = some (0, 202, 3, 0) := by decide +kernel
theorem cl_13_190 : (am_ccal.getD 13 []).lookup 190 = some (1, 347, 1, 12) := by decide +kernel
theorem cl_13_191 : (am_ccal.getD 13 []).lookup 191 = some (0, 204, 5, 0) := by decide +kernel
theorem cl_13_194 : (am_ccal.getD 13 []).lookup 194 = some (1, 356, 3, 12) := by decide +kernel
theorem cl_13_195 : (am_ccal.getD 13 []).lookup 195 = some (0, 206, 3, 0) := by decide +kernel
theorem cl_13_197 : (am_ccal.getD 13 []).lookup 197 = some (1, 350, 1, 12) := by decide +kernel
theorem cl_13_198 : (am_ccal.getD 13 []).lookup 198 = some (0, 209, 4, 0) := by decide +kernel
theorem cl_13_200 : (am_ccal.getD 13 []).lookup 200 = some (1, 351, 2, 12) := by decide +kernel
theorem cl_13_201 : (am_ccal.getD 13 []).lookup 201 = some (0, 212, 5, 0) := by decide +kernel
theorem cl_13_204 : (am_ccal.getD 13 []).lookup 204 = some (1, 353, 3, 12) := by decide +kernel
theorem cl_13_205 : (am_ccal.getD 13 []).lookup 205 = some (0, 216, 6, 0) := by decide +kernel
theorem cl_13_208 : (am_ccal.getD 13 []).lookup 208 = some (1, 355, 4, 12) := by decide +kernel
theorem cl_13_209 : (am_ccal.getD 13 []).lookup 209 = some (0, 218, 3, 0) := by decide +kernel
theorem cl_13_211 : (am_ccal.getD 13 []).lookup 211 = some (1, 417, 1, 12) := by decide +kernel
theorem cl_13_212 : (am_ccal.getD 13 []).lookup 212 = some (0, 220, 4, 0) := by decide +kernel
theorem cl_13_214 : (am_ccal.getD 13 []).lookup 214 = some (1, 418, 2, 12) := by decide +kernel
theorem cl_13_215 : (am_ccal.getD 13 []).lookup 215 = some (0, 223, 4, 0) := by decide +kernel
theorem cl_13_218 : (am_ccal.getD 13 []).lookup 218 = some (1, 419, 2, 12) := by decide +kernel
theorem cl_13_219 : (am_ccal.getD 13 []).lookup 219 = some (0, 225, 4, 0) := by decide +kernel
theorem cl_13_221 : (am_ccal.getD 13 []).lookup 221 = some (1, 420, 2, 12) := by decide +kernel
theorem cl_13_222 : (am_ccal.getD 13 []).lookup 222 = some (0, 227, 4, 0) := by decide +kernel
theorem cl_13_225 : (am_ccal.getD 13 []).lookup 225 = some (1, 421, 2, 12) := by decide +kernel
theorem cl_13_226 : (am_ccal.getD 13 []).lookup 226 = some (0, 229, 4, 0) := by decide +kernel
theorem cl_13_228 : (am_ccal.getD 13 []).lookup 228 = some (1, 425, 2, 12) := by decide +kernel
theorem cl_13_229 : (am_ccal.getD 13 []).lookup 229 = some (0, 231, 4, 0) := by decide +kernel
theorem cl_13_232 : (am_ccal.getD 13 []).lookup 232 = some (1, 426, 2, 12) := by decide +kernel
theorem cl_13_233 : (am_ccal.getD 13 []).lookup 233 = some (0, 234, 2, 0) := by decide +kernel
theorem cl_13_235 : (am_ccal.getD 13 []).lookup 235 = some (1, 427, 0, 12) := by decide +kernel
theorem cl_13_236 : (am_ccal.getD 13 []).lookup 236 = some (0, 236, 6, 0) := by decide +kernel
theorem cl_13_239 : (am_ccal.getD 13 []).lookup 239 = some (1, 428, 4, 12) := by decide +kernel
theorem cl_13_240 : (am_ccal.getD 13 []).lookup 240 = some (0, 247, 2, 0) := by decide +kernel
theorem cl_13_242 : (am_ccal.getD 13 []).lookup 242 = some (1, 439, 0, 12) := by decide +kernel
theorem cl_13_243 : (am_ccal.getD 13 []).lookup 243 = some (0, 249, 2, 0) := by decide +kernel
theorem cl_13_246 : (am_ccal.getD 13 []).lookup 246 = some (1, 440, 1, 12) := by decide +kernel
theorem cl_13_247 : (am_ccal.getD 13 []).lookup 247 = some (0, 251, 3, 0) := by decide +kernel
theorem cl_13_249 : (am_ccal.getD 13 []).lookup 249 = some (1, 441, 1, 12) := by decide +kernel
theorem cl_13_250 : (am_ccal.getD 13 []).lookup 250 = some (0, 253, 4, 0) := by decide +kernel
theorem cl_13_252 : (am_ccal.getD 13 []).lookup 252 = some (1, 442, 2, 12) := by decide +kernel
theorem cl_13_253 : (am_ccal.getD 13 []).lookup 253 = some (0, 255, 1, 0) := by decide +kernel
theorem cl_13_256 : (am_ccal.getD 13 []).lookup 256 = some (1, 443, 0, 12) := by decide +kernel
theorem cl_13_257 : (am_ccal.getD 13 []).lookup 257 = some (1, 20, 0, 11) := by decide +kernel
theorem cl_13_260 : (am_ccal.getD 13 []).lookup 260 = some (1, 444, 0, 12) := by decide +kernel
theorem cl_13_261 : (am_ccal.getD 13 []).lookup 261 = some (0, 257, 3, 0) := by decide +kernel
theorem cl_13_263 : (am_ccal.getD 13 []).lookup 263 = some (1, 451, 1, 12) := by decide +kernel
