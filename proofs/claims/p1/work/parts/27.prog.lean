theorem am_wg0 : ∀ j, j < 32 → am_cwB (0 + j) ∈ tables_1 := fun j hj => match j, hj with
  | 0, _ => am_tk_in (List.mem_of_getElem? am_w0)
  | 1, _ => am_tk_in (List.mem_of_getElem? am_w1)
  | 2, _ => am_tk_in (List.mem_of_getElem? am_w2)
  | 3, _ => am_tk_in (List.mem_of_getElem? am_w3)
  | 4, _ => am_tk_in (List.mem_of_getElem? am_w4)
  | 5, _ => am_tk_in (List.mem_of_getElem? am_w5)
  | 6, _ => am_tk_in (List.mem_of_getElem? am_w6)
  | 7, _ => am_tk_in (List.mem_of_getElem? am_w7)
  | 8, _ => am_tk_in (List.mem_of_getElem? am_w8)
  | 9, _ => am_tk_in (List.mem_of_getElem? am_w9)
  | 10, _ => am_tk_in (List.mem_of_getElem? am_w10)
  | 11, _ => am_tk_in (List.mem_of_getElem? am_w11)
  | 12, _ => am_tk_in (List.mem_of_getElem? am_w12)
  | 13, _ => am_tk_in (List.mem_of_getElem? am_w13)
  | 14, _ => am_tk_in (List.mem_of_getElem? am_w14)
  | 15, _ => am_tk_in (List.mem_of_getElem? am_w15)
  | 16, _ => am_tk_in (List.mem_of_getElem? am_w16)
  | 17, _ => am_tk_in (List.mem_of_getElem? am_w17)
  | 18, _ => am_tk_in (List.mem_of_getElem? am_w18)
  | 19, _ => am_tk_in (List.mem_of_getElem? am_w19)
  | 20, _ => am_tk_in (List.mem_of_getElem? am_w20)
  | 21, _ => am_tk_in (List.mem_of_getElem? am_w21)
  | 22, _ => am_tk_in (List.mem_of_getElem? am_w22)
  | 23, _ => am_tk_in (List.mem_of_getElem? am_w23)
  | 24, _ => am_tk_in (List.mem_of_getElem? am_w24)
  | 25, _ => am_tk_in (List.mem_of_getElem? am_w25)
  | 26, _ => am_tk_in (List.mem_of_getElem? am_w26)
  | 27, _ => am_tk_in (List.mem_of_getElem? am_w27)
  | 28, _ => am_tk_in (List.mem_of_getElem? am_w28)
  | 29, _ => am_tk_in (List.mem_of_getElem? am_w29)
  | 30, _ => am_tk_in (List.mem_of_getElem? am_w30)
  | 31, _ => am_tk_in (List.mem_of_getElem? am_w31)
  | n + 32, h => absurd h (by omega)
theorem am_wg1 : ∀ j, j < 32 → am_cwB (32 + j) ∈ tables_1 := fun j hj => match j, hj with
  | 0, _ => am_tk_in (List.mem_of_getElem? am_w32)
  | 1, _ => am_tk_in (List.mem_of_getElem? am_w33)
  | 2, _ => am_tk_in (List.mem_of_getElem? am_w34)
  | 3, _ => am_tk_in (List.mem_of_getElem? am_w35)
  | 4, _ => am_tk_in (List.mem_of_getElem? am_w36)
  | 5, _ => am_tk_in (List.mem_of_getElem? am_w37)
  | 6, _ => am_tk_in (List.mem_of_getElem? am_w38)
  | 7, _ => am_tk_in (List.mem_of_getElem? am_w39)
  | 8, _ => am_tk_in (List.mem_of_getElem? am_w40)
  | 9, _ => am_tk_in (List.mem_of_getElem? am_w41)
  | 10, _ => am_tk_in (List.mem_of_getElem? am_w42)
  | 11, _ => am_tk_in (List.mem_of_getElem? am_w43)
  | 12, _ => am_tk_in (List.mem_of_getElem? am_w44)
  | 13, _ => am_tk_in (List.mem_of_getElem? am_w45)
  | 14, _ => am_tk_in (List.mem_of_getElem? am_w46)
  | 15, _ => am_tk_in (List.mem_of_getElem? am_w47)
  | 16, _ => am_tk_in (List.mem_of_getElem? am_w48)
  | 17, _ => am_tk_in (List.mem_of_getElem? am_w49)
  | 18, _ => am_tk_in (List.mem_of_getElem? am_w50)
  | 19, _ => am_tk_in (List.mem_of_getElem? am_w51)
  | 20, _ => am_tk_in (List.mem_of_getElem? am_w52)
  | 21, _ => am_tk_in (List.mem_of_getElem? am_w53)
  | 22, _ => am_tk_in (List.mem_of_getElem? am_w54)
  | 23, _ => am_tk_in (List.mem_of_getElem? am_w55)
  | 24, _ => am_tk_in (List.mem_of_getElem? am_w56)
  | 25, _ => am_tk_in (List.mem_of_getElem? am_w57)
  | 26, _ => am_tk_in (List.mem_of_getElem? am_w58)
  | 27, _ => am_tk_in (List.mem_of_getElem? am_w59)
  | 28, _ => am_tk_in (List.mem_of_getElem? am_w60)
  | 29, _ => am_tk_in (List.mem_of_getElem? am_w61)
  | 30, _ => am_tk_in (List.mem_of_getElem? am_w62)
  | 31, _ => am_tk_in (List.mem_of_getElem? am_w63)
  | n + 32, h => absurd h (by omega)
theorem am_wg2 : ∀ j, j < 32 → am_cwB (64 + j) ∈ tables_1 := fun j hj => match j, hj with
  | 0, _ => am_tk_in (List.mem_of_getElem? am_w64)
  | 1, _ => am_tk_in (List.mem_of_getElem? am_w65)
  | 2, _ => am_tk_in (List.mem_of_getElem? am_w66)
  | 3, _ => am_tk_in (List.mem_of_getElem? am_w67)
  | 4, _ => am_tk_in (List.mem_of_getElem? am_w68)
  | 5, _ => am_tk_in (List.mem_of_getElem? am_w69)
  | 6, _ => am_tk_in (List.mem_of_getElem? am_w70)
  | 7, _ => am_tk_in (List.mem_of_getElem? am_w71)
  | 8, _ => am_tk_in (List.mem_of_getElem? am_w72)
  | 9, _ => am_tk_in (List.mem_of_getElem? am_w73)
  | 10, _ => am_tk_in (List.mem_of_getElem? am_w74)
  | 11, _ => am_tk_in (List.mem_of_getElem? am_w75)
  | 12, _ => am_tk_in (List.mem_of_getElem? am_w76)
  | 13, _ => am_tk_in (List.mem_of_getElem? am_w77)
  | 14, _ => am_tk_in (List.mem_of_getElem? am_w78)
  | 15, _ => am_tk_in (List.mem_of_getElem? am_w79)
  | 16, _ => am_tk_in (List.mem_of_getElem? am_w80)
  | 17, _ => am_tk_in (List.mem_of_getElem? am_w81)
  | 18, _ => am_tk_in (List.mem_of_getElem? am_w82)
  | 19, _ => am_tk_in (List.mem_of_getElem? am_w83)
  | 20, _ => am_tk_in (List.mem_of_getElem? am_w84)
  | 21, _ => am_tk_in (List.mem_of_getElem? am_w85)
  | 22, _ => am_tk_in (List.mem_of_getElem? am_w86)
  | 23, _ => am_tk_in (List.mem_of_getElem? am_w87)
  | 24, _ => am_tk_in (List.mem_of_getElem? am_w88)
  | 25, _ => am_tk_in (List.mem_of_getElem? am_w89)
  | 26, _ => am_tk_in (List.mem_of_getElem? am_w90)
  | 27, _ => am_tk_in (List.mem_of_getElem? am_w91)
  | 28, _ => am_tk_in (List.mem_of_getElem? am_w92)
  | 29, _ => am_tk_in (List.mem_of_getElem? am_w93)
  | 30, _ => am_tk_in (List.mem_of_getElem? am_w94)
  | 31, _ => am_tk_in (List.mem_of_getElem? am_w95)
  | n + 32, h => absurd h (by omega)
theorem am_wg3 : ∀ j, j < 32 → am_cwB (96 + j) ∈ tables_1 := fun j hj => match j, hj with
  | 0, _ => am_tk_in (List.mem_of_getElem? am_w96)
  | 1, _ => am_tk_in (List.mem_of_getElem? am_w97)
  | 2, _ => am_tk_in (List.mem_of_getElem? am_w98)
  | 3, _ => am_tk_in (List.mem_of_getElem? am_w99)
  | 4, _ => am_tk_in (List.mem_of_getElem? am_w100)
  | 5, _ => am_tk_in (List.mem_of_getElem? am_w101)
  | 6, _ => am_tk_in (List.mem_of_getElem? am_w102)
  | 7, _ => am_tk_in (List.mem_of_getElem? am_w103)
  | 8, _ => am_tk_in (List.mem_of_getElem? am_w104)
  | 9, _ => am_tk_in (List.mem_of_getElem? am_w105)
  | 10, _ => am_tk_in (List.mem_of_getElem? am_w106)
  | 11, _ => am_tk_in (List.mem_of_getElem? am_w107)
  | 12, _ => am_tk_in (List.mem_of_getElem? am_w108)
  | 13, _ => am_tk_in (List.mem_of_getElem? am_w109)
  | 14, _ => am_tk_in (List.mem_of_getElem? am_w110)
  | 15, _ => am_tk_in (List.mem_of_getElem? am_w111)
  | 16, _ => am_tk_in (List.mem_of_getElem? am_w112)
  | 17, _ => am_tk_in (List.mem_of_getElem? am_w113)
  | 18, _ => am_tk_in (List.mem_of_getElem? am_w114)
  | 19, _ => am_tk_in (List.mem_of_getElem? am_w115)
  | 20, _ => am_tk_in (List.mem_of_getElem? am_w116)
  | 21, _ => am_tk_in (List.mem_of_getElem? am_w117)
  | 22, _ => am_tk_in (List.mem_of_getElem? am_w118)
  | 23, _ => am_tk_in (List.mem_of_getElem? am_w119)
  | 24, _ => am_tk_in (List.mem_of_getElem? am_w120)
  | 25, _ => am_tk_in (List.mem_of_getElem? am_w121)
  | 26, _ => am_tk_in (List.mem_of_getElem? am_w122)
  | 27, _ => am_tk_in (List.mem_of_getElem? am_w123)
  | 28, _ => am_tk_in (List.mem_of_getElem? am_w124)
  | 29, _ => am_tk_in (List.mem_of_getElem? am_w125)
  | 30, _ => am_tk_in (List.mem_of_getElem? am_w126)
  | 31, _ => am_tk_in (List.mem_of_getElem? am_w127)
  | n + 32, h => absurd h (by omega)
theorem am_wg4 : ∀ j, j < 32 → am_cwB (128 + j) ∈ tables_1 := fun j hj => match j, hj with
  | 0, _ => am_tk_in (List.mem_of_getElem? am_w128)
  | 1, _ => am_tk_in (List.mem_of_getElem? am_w129)
  | 2, _ => am_tk_in (List.mem_of_getElem? am_w130)
  | 3, _ => am_tk_in (List.mem_of_getElem? am_w131)
  | 4, _ => am_tk_in (List.mem_of_getElem? am_w132)
  | 5, _ => am_tk_in (List.mem_of_getElem? am_w133)
  | 6, _ => am_tk_in (List.mem_of_getElem? am_w134)
  | 7, _ => am_tk_in (List.mem_of_getElem? am_w135)
  | 8, _ => am_tk_in (List.mem_of_getElem? am_w136)
  | 9, _ => am_tk_in (List.mem_of_getElem? am_w137)
  | 10, _ => am_tk_in (List.mem_of_getElem? am_w138)
  | 11, _ => am_tk_in (List.mem_of_getElem? am_w139)
  | 12, _ => am_tk_in (List.mem_of_getElem? am_w140)
  | 13, _ => am_tk_in (List.mem_of_getElem? am_w141)
  | 14, _ => am_tk_in (List.mem_of_getElem? am_w142)
  | 15, _ => am_tk_in (List.mem_of_getElem? am_w143)
  | 16, _ => am_tk_in (List.mem_of_getElem? am_w144)
  | 17, _ => am_tk_in (List.mem_of_getElem? am_w145)
  | 18, _ => am_tk_in (List.mem_of_getElem? am_w146)
  | 19, _ => am_tk_in (List.mem_of_getElem? am_w147)
  | 20, _ => am_tk_in (List.mem_of_getElem? am_w148)
  | 21, _ => am_tk_in (List.mem_of_getElem? am_w149)
  | 22, _ => am_tk_in (List.mem_of_getElem? am_w150)
  | 23, _ => am_tk_in (List.mem_of_getElem? am_w151)
  | 24, _ => am_tk_in (List.mem_of_getElem? am_w152)
  | 25, _ => am_tk_in (List.mem_of_getElem? am_w153)
  | 26, _ => am_tk_in (List.mem_of_getElem? am_w154)
  | 27, _ => am_tk_in (List.mem_of_getElem? am_w155)
  | 28, _ => am_tk_in (List.mem_of_getElem? am_w156)
  | 29, _ => am_tk_in (List.mem_of_getElem? am_w157)
  | 30, _ => am_tk_in (List.mem_of_getElem? am_w158)
  | 31, _ => am_tk_in (List.mem_of_getElem? am_w159)
  | n + 32, h => absurd h (by omega)
theorem am_wg5 : ∀ j, j < 32 → am_cwB (160 + j) ∈ tables_1 := fun j hj => match j, hj with
  | 0, _ => am_tk_in (List.mem_of_getElem? am_w160)
  | 1, _ => am_tk_in (List.mem_of_getElem? am_w161)
  | 2, _ => am_tk_in (List.mem_of_getElem? am_w162)
  | 3, _ => am_tk_in (List.mem_of_getElem? am_w163)
  | 4, _ => am_tk_in (List.mem_of_getElem? am_w164)
  | 5, _ => am_tk_in (List.mem_of_getElem? am_w165)
  | 6, _ => am_tk_in (List.mem_of_getElem? am_w166)
  | 7, _ => am_tk_in (List.mem_of_getElem? am_w167)
  | 8, _ => am_tk_in (List.mem_of_getElem? am_w168)
  | 9, _ => am_tk_in (List.mem_of_getElem? am_w169)
  | 10, _ => am_tk_in (List.mem_of_getElem? am_w170)
  | 11, _ => am_tk_in (List.mem_of_getElem? am_w171)
  | 12, _ => am_tk_in (List.mem_of_getElem? am_w172)
  | 13, _ => am_tk_in (List.mem_of_getElem? am_w173)
  | 14, _ => am_tk_in (List.mem_of_getElem? am_w174)
  | 15, _ => am_tk_in (List.mem_of_getElem? am_w175)
  | 16, _ => am_tk_in (List.mem_of_getElem? am_w176)
  | 17, _ => am_tk_in (List.mem_of_getElem? am_w177)
  | 18, _ => am_tk_in (List.mem_of_getElem? am_w178)
  | 19, _ => am_tk_in (List.mem_of_getElem? am_w179)
  | 20, _ => am_tk_in (List.mem_of_getElem? am_w180)
  | 21, _ => am_tk_in (List.mem_of_getElem? am_w181)
  | 22, _ => am_tk_in (List.mem_of_getElem? am_w182)
  | 23, _ => am_tk_in (List.mem_of_getElem? am_w183)
  | 24, _ => am_tk_in (List.mem_of_getElem? am_w184)
  | 25, _ => am_tk_in (List.mem_of_getElem? am_w185)
  | 26, _ => am_tk_in (List.mem_of_getElem? am_w186)
  | 27, _ => am_tk_in (List.mem_of_getElem? am_w187)
  | 28, _ => am_tk_in (List.mem_of_getElem? am_w188)
  | 29, _ => am_tk_in (List.mem_of_getElem? am_w189)
  | 30, _ => am_tk_in (List.mem_of_getElem? am_w190)
  | 31, _ => am_tk_in (List.mem_of_getElem? am_w191)
  | n + 32, h => absurd h (by omega)
theorem am_wg6 : ∀ j, j < 32 → am_cwB (192 + j) ∈ tables_1 := fun j hj => match j, hj with
  | 0, _ => am_tk_in (List.mem_of_getElem? am_w192)
  | 1, _ => am_tk_in (List.mem_of_getElem? am_w193)
  | 2, _ => am_tk_in (List.mem_of_getElem? am_w194)
  | 3, _ => am_tk_in (List.mem_of_getElem? am_w195)
  | 4, _ => am_tk_in (List.mem_of_getElem? am_w196)
  | 5, _ => am_tk_in (List.mem_of_getElem? am_w197)
  | 6, _ => am_tk_in (List.mem_of_getElem? am_w198)
  | 7, _ => am_tk_in (List.mem_of_getElem? am_w199)
  | 8, _ => am_tk_in (List.mem_of_getElem? am_w200)
  | 9, _ => am_tk_in (List.mem_of_getElem? am_w201)
  | 10, _ => am_tk_in (List.mem_of_getElem? am_w202)
  | 11, _ => am_tk_in (List.mem_of_getElem? am_w203)
  | 12, _ => am_tk_in (List.mem_of_getElem? am_w204)
  | 13, _ => am_tk_in (List.mem_of_getElem? am_w205)
  | 14, _ => am_tk_in (List.mem_of_getElem? am_w206)
  | 15, _ => am_tk_in (List.mem_of_getElem? am_w207)
  | 16, _ => am_tk_in (List.mem_of_getElem? am_w208)
  | 17, _ => am_tk_in (List.mem_of_getElem? am_w209)
  | 18, _ => am_tk_in (List.mem_of_getElem? am_w210)
  | 19, _ => am_tk_in (List.mem_of_getElem? am_w211)
  | 20, _ => am_tk_in (List.mem_of_getElem? am_w212)
  | 21, _ => am_tk_in (List.mem_of_getElem? am_w213)
  | 22, _ => am_tk_in (List.mem_of_getElem? am_w214)
  | 23, _ => am_tk_in (List.mem_of_getElem? am_w215)
  | 24, _ => am_tk_in (List.mem_of_getElem? am_w216)
  | 25, _ => am_tk_in (List.mem_of_getElem? am_w217)
  | 26, _ => am_tk_in (List.mem_of_getElem? am_w218)
  | 27, _ => am_tk_in (List.mem_of_getElem? am_w219)
  | 28, _ => am_tk_in (List.mem_of_getElem? am_w220)
  | 29, _ => am_tk_in (List.mem_of_getElem? am_w221)
  | 30, _ => am_tk_in (List.mem_of_getElem? am_w222)
  | 31, _ => am_tk_in (List.mem_of_getElem? am_w223)
  | n + 32, h => absurd h (by omega)
theorem am_wg7 : ∀ j, j < 32 → am_cwB (224 + j) ∈ tables_1 := fun j hj => match j, hj with
  | 0, _ => am_tk_in (List.mem_of_getElem? am_w224)
  | 1, _ => am_tk_in (List.mem_of_getElem? am_w225)
  | 2, _ => am_tk_in (List.mem_of_getElem? am_w226)
  | 3, _ => am_tk_in (List.mem_of_getElem? am_w227)
  | 4, _ => am_tk_in (List.mem_of_getElem? am_w228)
  | 5, _ => am_tk_in (List.mem_of_getElem? am_w229)
  | 6, _ => am_tk_in (List.mem_of_getElem? am_w230)
  | 7, _ => am_tk_in (List.mem_of_getElem? am_w231)
  | 8, _ => am_tk_in (List.mem_of_getElem? am_w232)
  | 9, _ => am_tk_in (List.mem_of_getElem? am_w233)
  | 10, _ => am_tk_in (List.mem_of_getElem? am_w234)
  | 11, _ => am_tk_in (List.mem_of_getElem? am_w235)
  | 12, _ => am_tk_in (List.mem_of_getElem? am_w236)
  | 13, _ => am_tk_in (List.mem_of_getElem? am_w237)
  | 14, _ => am_tk_in (List.mem_of_getElem? am_w238)
  | 15, _ => am_tk_in (List.mem_of_getElem? am_w239)
  | 16, _ => am_tk_in (List.mem_of_getElem? am_w240)
  | 17, _ => am_tk_in (List.mem_of_getElem? am_w241)
  | 18, _ => am_tk_in (List.mem_of_getElem? am_w242)
  | 19, _ => am_tk_in (List.mem_of_getElem? am_w243)
  | 20, _ => am_tk_in (List.mem_of_getElem? am_w244)
  | 21, _ => am_tk_in (List.mem_of_getElem? am_w245)
  | 22, _ => am_tk_in (List.mem_of_getElem? am_w246)
  | 23, _ => am_tk_in (List.mem_of_getElem? am_w247)
  | 24, _ => am_tk_in (List.mem_of_getElem? am_w248)
  | 25, _ => am_tk_in (List.mem_of_getElem? am_w249)
  | 26, _ => am_tk_in (List.mem_of_getElem? am_w250)
  | 27, _ => am_tk_in (List.mem_of_getElem? am_w251)
  | 28, _ => am_tk_in (List.mem_of_getElem? am_w252)
  | 29, _ => am_tk_in (List.mem_of_getElem? am_w253)
  | 30, _ => am_tk_in (List.mem_of_getElem? am_w254)
  | 31, _ => am_tk_in (List.mem_of_getElem? am_w255)
  | n + 32, h => absurd h (by omega)
theorem am_wg8 : ∀ j, j < 32 → am_cwB (256 + j) ∈ tables_1 := fun j hj => match j, hj with
  | 0, _ => am_tk_in (List.mem_of_getElem? am_w256)
  | 1, _ => am_tk_in (List.mem_of_getElem? am_w257)
  | 2, _ => am_tk_in (List.mem_of_getElem? am_w258)
  | 3, _ => am_tk_in (List.mem_of_getElem? am_w259)
  | 4, _ => am_tk_in (List.mem_of_getElem? am_w260)
  | 5, _ => am_tk_in (List.mem_of_getElem? am_w261)
  | 6, _ => am_tk_in (List.mem_of_getElem? am_w262)
  | 7, _ => am_tk_in (List.mem_of_getElem? am_w263)
  | 8, _ => am_tk_in (List.mem_of_getElem? am_w264)
  | 9, _ => am_tk_in (List.mem_of_getElem? am_w265)
  | 10, _ => am_tk_in (List.mem_of_getElem? am_w266)
  | 11, _ => am_tk_in (List.mem_of_getElem? am_w267)
  | 12, _ => am_tk_in (List.mem_of_getElem? am_w268)
  | 13, _ => am_tk_in (List.mem_of_getElem? am_w269)
  | 14, _ => am_tk_in (List.mem_of_getElem? am_w270)
  | 15, _ => am_tk_in (List.mem_of_getElem? am_w271)
  | 16, _ => am_tk_in (List.mem_of_getElem? am_w272)
  | 17, _ => am_tk_in (List.mem_of_getElem? am_w273)
  | 18, _ => am_tk_in (List.mem_of_getElem? am_w274)
  | 19, _ => am_tk_in (List.mem_of_getElem? am_w275)
  | 20, _ => am_tk_in (List.mem_of_getElem? am_w276)
  | 21, _ => am_tk_in (List.mem_of_getElem? am_w277)
  | 22, _ => am_tk_in (List.mem_of_getElem? am_w278)
  | 23, _ => am_tk_in (List.mem_of_getElem? am_w279)
  | 24, _ => am_tk_in (List.mem_of_getElem? am_w280)
  | 25, _ => am_tk_in (List.mem_of_getElem? am_w281)
  | 26, _ => am_tk_in (List.mem_of_getElem? am_w282)
  | 27, _ => am_tk_in (List.mem_of_getElem? am_w283)
  | 28, _ => am_tk_in (List.mem_of_getElem? am_w284)
  | 29, _ => am_tk_in (List.mem_of_getElem? am_w285)
  | 30, _ => am_tk_in (List.mem_of_getElem? am_w286)
  | 31, _ => am_tk_in (List.mem_of_getElem? am_w287)
  | n + 32, h => absurd h (by omega)
theorem am_wg9 : ∀ j, j < 32 → am_cwB (288 + j) ∈ tables_1 := fun j hj => match j, hj with
  | 0, _ => am_tk_in (List.mem_of_getElem? am_w288)
  | 1, _ => am_tk_in (List.mem_of_getElem? am_w289)
  | 2, _ => am_tk_in (List.mem_of_getElem? am_w290)
  | 3, _ => am_tk_in (List.mem_of_getElem? am_w291)
  | 4, _ => am_tk_in (List.mem_of_getElem? am_w292)
  | 5, _ => am_tk_in (List.mem_of_getElem? am_w293)
  | 6, _ => am_tk_in (List.mem_of_getElem? am_w294)
  | 7, _ => am_tk_in (List.mem_of_getElem? am_w295)
  | 8, _ => am_tk_in (List.mem_of_getElem? am_w296)
  | 9, _ => am_tk_in (List.mem_of_getElem? am_w297)
  | 10, _ => am_tk_in (List.mem_of_getElem? am_w298)
  | 11, _ => am_tk_in (List.mem_of_getElem? am_w299)
  | 12, _ => am_tk_in (List.mem_of_getElem? am_w300)
  | 13, _ => am_tk_in (List.mem_of_getElem? am_w301)
  | 14, _ => am_tk_in (List.mem_of_getElem? am_w302)
  | 15, _ => am_tk_in (List.mem_of_getElem? am_w303)
  | 16, _ => am_tk_in (List.mem_of_getElem? am_w304)
  | 17, _ => am_tk_in (List.mem_of_getElem? am_w305)
  | 18, _ => am_tk_in (List.mem_of_getElem? am_w306)
  | 19, _ => am_tk_in (List.mem_of_getElem? am_w307)
  | 20, _ => am_tk_in (List.mem_of_getElem? am_w308)
  | 21, _ => am_tk_in (List.mem_of_getElem? am_w309)
  | 22, _ => am_tk_in (List.mem_of_getElem? am_w310)
  | 23, _ => am_tk_in (List.mem_of_getElem? am_w311)
  | 24, _ => am_tk_in (List.mem_of_getElem? am_w312)
  | 25, _ => am_tk_in (List.mem_of_getElem? am_w313)
  | 26, _ => am_tk_in (List.mem_of_getElem? am_w314)
  | 27, _ => am_tk_in (List.mem_of_getElem? am_w315)
  | 28, _ => am_tk_in (List.mem_of_getElem? am_w316)
  | 29, _ => am_tk_in (List.mem_of_getElem? am_w317)
  | 30, _ => am_tk_in (List.mem_of_getElem? am_w318)
  | 31, _ => am_tk_in (List.mem_of_getElem? am_w319)
  | n + 32, h => absurd h (by omega)
theorem am_wg10 : ∀ j, j < 32 → am_cwB (320 + j) ∈ tables_1 := fun j hj => match j, hj with
  | 0, _ => am_tk_in (List.mem_of_getElem? am_w320)
  | 1, _ => am_tk_in (List.mem_of_getElem? am_w321)
  | 2, _ => am_tk_in (List.mem_of_getElem? am_w322)
  | 3, _ => am_tk_in (List.mem_of_getElem? am_w323)
  | 4, _ => am_tk_in (List.mem_of_getElem? am_w324)
  | 5, _ => am_tk_in (List.mem_of_getElem? am_w325)
  | 6, _ => am_tk_in (List.mem_of_getElem? am_w326)
  | 7, _ => am_tk_in (List.mem_of_getElem? am_w327)
  | 8, _ => am_tk_in (List.mem_of_getElem? am_w328)
  | 9, _ => am_tk_in (List.mem_of_getElem? am_w329)
  | 10, _ => am_tk_in (List.mem_of_getElem? am_w330)
  | 11, _ => am_tk_in (List.mem_of_getElem? am_w331)
  | 12, _ => am_tk_in (List.mem_of_getElem? am_w332)
  | 13, _ => am_tk_in (List.mem_of_getElem? am_w333)
  | 14, _ => am_tk_in (List.mem_of_getElem? am_w334)
  | 15, _ => am_tk_in (List.mem_of_getElem? am_w335)
  | 16, _ => am_tk_in (List.mem_of_getElem? am_w336)
  | 17, _ => am_tk_in (List.mem_of_getElem? am_w337)
  | 18, _ => am_tk_in (List.mem_of_getElem? am_w338)
  | 19, _ => am_tk_in (List.mem_of_getElem? am_w339)
  | 20, _ => am_tk_in (List.mem_of_getElem? am_w340)
  | 21, _ => am_tk_in (List.mem_of_getElem? am_w341)
  | 22, _ => am_tk_in (List.mem_of_getElem? am_w342)
  | 23, _ => am_tk_in (List.mem_of_getElem? am_w343)
  | 24, _ => am_tk_in (List.mem_of_getElem? am_w344)
  | 25, _ => am_tk_in (List.mem_of_getElem? am_w345)
  | 26, _ => am_tk_in (List.mem_of_getElem? am_w346)
  | 27, _ => am_tk_in (List.mem_of_getElem? am_w347)
  | 28, _ => am_tk_in (List.mem_of_getElem? am_w348)
  | 29, _ => am_tk_in (List.mem_of_getElem? am_w349)
  | 30, _ => am_tk_in (List.mem_of_getElem? am_w350)
  | 31, _ => am_tk_in (List.mem_of_getElem? am_w351)
  | n + 32, h => absurd h (by omega)
theorem am_wg11 : ∀ j, j < 32 → am_cwB (352 + j) ∈ tables_1 := fun j hj => match j, hj with
  | 0, _ => am_tk_in (List.mem_of_getElem? am_w352)
  | 1, _ => am_tk_in (List.mem_of_getElem? am_w353)
  | 2, _ => am_tk_in (List.mem_of_getElem? am_w354)
  | 3, _ => am_tk_in (List.mem_of_getElem? am_w355)
  | 4, _ => am_tk_in (List.mem_of_getElem? am_w356)
  | 5, _ => am_tk_in (List.mem_of_getElem? am_w357)
  | 6, _ => am_tk_in (List.mem_of_getElem? am_w358)
  | 7, _ => am_tk_in (List.mem_of_getElem? am_w359)
  | 8, _ => am_tk_in (List.mem_of_getElem? am_w360)
  | 9, _ => am_tk_in (List.mem_of_getElem? am_w361)
  | 10, _ => am_tk_in (List.mem_of_getElem? am_w362)
  | 11, _ => am_tk_in (List.mem_of_getElem? am_w363)
  | 12, _ => am_tk_in (List.mem_of_getElem? am_w364)
  | 13, _ => am_tk_in (List.mem_of_getElem? am_w365)
  | 14, _ => am_tk_in (List.mem_of_getElem? am_w366)
  | 15, _ => am_tk_in (List.mem_of_getElem? am_w367)
  | 16, _ => am_tk_in (List.mem_of_getElem? am_w368)
  | 17, _ => am_tk_in (List.mem_of_getElem? am_w369)
  | 18, _ => am_tk_in (List.mem_of_getElem? am_w370)
  | 19, _ => am_tk_in (List.mem_of_getElem? am_w371)
  | 20, _ => am_tk_in (List.mem_of_getElem? am_w372)
  | 21, _ => am_tk_in (List.mem_of_getElem? am_w373)
  | 22, _ => am_tk_in (List.mem_of_getElem? am_w374)
  | 23, _ => am_tk_in (List.mem_of_getElem? am_w375)
  | 24, _ => am_tk_in (List.mem_of_getElem? am_w376)
  | 25, _ => am_tk_in (List.mem_of_getElem? am_w377)
  | 26, _ => am_tk_in (List.mem_of_getElem? am_w378)
  | 27, _ => am_tk_in (List.mem_of_getElem? am_w379)
  | 28, _ => am_tk_in (List.mem_of_getElem? am_w380)
  | 29, _ => am_tk_in (List.mem_of_getElem? am_w381)
  | 30, _ => am_tk_in (List.mem_of_getElem? am_w382)
  | 31, _ => am_tk_in (List.mem_of_getElem? am_w383)
  | n + 32, h => absurd h (by omega)
theorem am_wg12 : ∀ j, j < 32 → am_cwB (384 + j) ∈ tables_1 := fun j hj => match j, hj with
  | 0, _ => am_tk_in (List.mem_of_getElem? am_w384)
  | 1, _ => am_tk_in (List.mem_of_getElem? am_w385)
  | 2, _ => am_tk_in (List.mem_of_getElem? am_w386)
  | 3, _ => am_tk_in (List.mem_of_getElem? am_w387)
  | 4, _ => am_tk_in (List.mem_of_getElem? am_w388)
  | 5, _ => am_tk_in (List.mem_of_getElem? am_w389)
  | 6, _ => am_tk_in (List.mem_of_getElem? am_w390)
  | 7, _ => am_tk_in (List.mem_of_getElem? am_w391)
  | 8, _ => am_tk_in (List.mem_of_getElem? am_w392)
  | 9, _ => am_tk_in (List.mem_of_getElem? am_w393)
  | 10, _ => am_tk_in (List.mem_of_getElem? am_w394)
  | 11, _ => am_tk_in (List.mem_of_getElem? am_w395)
  | 12, _ => am_tk_in (List.mem_of_getElem? am_w396)
  | 13, _ => am_tk_in (List.mem_of_getElem? am_w397)
  | 14, _ => am_tk_in (List.mem_of_getElem? am_w398)
  | 15, _ => am_tk_in (List.mem_of_getElem? am_w399)
  | 16, _ => am_tk_in (List.mem_of_getElem? am_w400)
  | 17, _ => am_tk_in (List.mem_of_getElem? am_w401)
  | 18, _ => am_tk_in (List.mem_of_getElem? am_w402)
  | 19, _ => am_tk_in (List.mem_of_getElem? am_w403)
  | 20, _ => am_tk_in (List.mem_of_getElem? am_w404)
  | 21, _ => am_tk_in (List.mem_of_getElem? am_w405)
  | 22, _ => am_tk_in (List.mem_of_getElem? am_w406)
  | 23, _ => am_tk_in (List.mem_of_getElem? am_w407)
  | 24, _ => am_tk_in (List.mem_of_getElem? am_w408)
  | 25, _ => am_tk_in (List.mem_of_getElem? am_w409)
  | 26, _ => am_tk_in (List.mem_of_getElem? am_w410)
  | 27, _ => am_tk_in (List.mem_of_getElem? am_w411)
  | 28, _ => am_tk_in (List.mem_of_getElem? am_w412)
  | 29, _ => am_tk_in (List.mem_of_getElem? am_w413)
  | 30, _ => am_tk_in (List.mem_of_getElem? am_w414)
  | 31, _ => am_tk_in (List.mem_of_getElem? am_w415)
  | n + 32, h => absurd h (by omega)
theorem am_wg13 : ∀ j, j < 32 → am_cwB (416 + j) ∈ tables_1 := fun j hj => match j, hj with
  | 0, _ => am_tk_in (List.mem_of_getElem? am_w416)
  | 1, _ => am_tk_in (List.mem_of_getElem? am_w417)
  | 2, _ => am_tk_in (List.mem_of_getElem? am_w418)
  | 3, _ => am_tk_in (List.mem_of_getElem? am_w419)
  | 4, _ => am_tk_in (List.mem_of_getElem? am_w420)
  | 5, _ => am_tk_in (List.mem_of_getElem? am_w421)
  | 6, _ => am_tk_in (List.mem_of_getElem? am_w422)
  | 7, _ => am_tk_in (List.mem_of_getElem? am_w423)
  | 8, _ => am_tk_in (List.mem_of_getElem? am_w424)
  | 9, _ => am_tk_in (List.mem_of_getElem? am_w425)
  | 10, _ => am_tk_in (List.mem_of_getElem? am_w426)
  | 11, _ => am_tk_in (List.mem_of_getElem? am_w427)
  | 12, _ => am_tk_in (List.mem_of_getElem? am_w428)
  | 13, _ => am_tk_in (List.mem_of_getElem? am_w429)
  | 14, _ => am_tk_in (List.mem_of_getElem? am_w430)
  | 15, _ => am_tk_in (List.mem_of_getElem? am_w431)
  | 16, _ => am_tk_in (List.mem_of_getElem? am_w432)
  | 17, _ => am_tk_in (List.mem_of_getElem? am_w433)
  | 18, _ => am_tk_in (List.mem_of_getElem? am_w434)
  | 19, _ => am_tk_in (List.mem_of_getElem? am_w435)
  | 20, _ => am_tk_in (List.mem_of_getElem? am_w436)
  | 21, _ => am_tk_in (List.mem_of_getElem? am_w437)
  | 22, _ => am_tk_in (List.mem_of_getElem? am_w438)
  | 23, _ => am_tk_in (List.mem_of_getElem? am_w439)
  | 24, _ => am_tk_in (List.mem_of_getElem? am_w440)
  | 25, _ => am_tk_in (List.mem_of_getElem? am_w441)
  | 26, _ => am_tk_in (List.mem_of_getElem? am_w442)
  | 27, _ => am_tk_in (List.mem_of_getElem? am_w443)
  | 28, _ => am_tk_in (List.mem_of_getElem? am_w444)
  | 29, _ => am_tk_in (List.mem_of_getElem? am_w445)
  | 30, _ => am_tk_in (List.mem_of_getElem? am_w446)
  | 31, _ => am_tk_in (List.mem_of_getElem? am_w447)
  | n + 32, h => absurd h (by omega)
theorem am_wg14 : ∀ j, j < 4 → am_cwB (448 + j) ∈ tables_1 := fun j hj => match j, hj with
  | 0, _ => am_tk_in (List.mem_of_getElem? am_w448)
  | 1, _ => am_tk_in (List.mem_of_getElem? am_w449)
  | 2, _ => am_tk_in (List.mem_of_getElem? am_w450)
  | 3, _ => am_tk_in (List.mem_of_getElem? am_w451)
  | n + 4, h => absurd h (by omega)
theorem am_wall : ∀ M, M < 452 → am_cwB M ∈ tables_1 := by
  intro M hM
  rcases Nat.lt_or_ge M 32 with z | z
  · have := am_wg0 (M - 0) (by omega); rwa [show 0 + (M - 0) = M by omega] at this
  rcases Nat.lt_or_ge M 64 with z | z
  · have := am_wg1 (M - 32) (by omega); rwa [show 32 + (M - 32) = M by omega] at this
  rcases Nat.lt_or_ge M 96 with z | z
  · have := am_wg2 (M - 64) (by omega); rwa [show 64 + (M - 64) = M by omega] at this
  rcases Nat.lt_or_ge M 128 with z | z
  · have := am_wg3 (M - 96) (by omega); rwa [show 96 + (M - 96) = M by omega] at this
  rcases Nat.lt_or_ge M 160 with z | z
  · have := am_wg4 (M - 128) (by omega); rwa [show 128 + (M - 128) = M by omega] at this
  rcases Nat.lt_or_ge M 192 with z | z
  · have := am_wg5 (M - 160) (by omega); rwa [show 160 + (M - 160) = M by omega] at this
  rcases Nat.lt_or_ge M 224 with z | z
  · have := am_wg6 (M - 192) (by omega); rwa [show 192 + (M - 192) = M by omega] at this
  rcases Nat.lt_or_ge M 256 with z | z
  · have := am_wg7 (M - 224) (by omega); rwa [show 224 + (M - 224) = M by omega] at this
  rcases Nat.lt_or_ge M 288 with z | z
  · have := am_wg8 (M - 256) (by omega); rwa [show 256 + (M - 256) = M by omega] at this
  rcases Nat.lt_or_ge M 320 with z | z
  · have := am_wg9 (M - 288) (by omega); rwa [show 288 + (M - 288) = M by omega] at this
  rcases Nat.lt_or_ge M 352 with z | z
  · have := am_wg10 (M - 320) (by omega); rwa [show 320 + (M - 320) = M by omega] at this
  rcases Nat.lt_or_ge M 384 with z | z
  · have := am_wg11 (M - 352) (by omega); rwa [show 352 + (M - 352) = M by omega] at this
  rcases Nat.lt_or_ge M 416 with z | z
  · have := am_wg12 (M - 384) (by omega); rwa [show 384 + (M - 384) = M by omega] at this
  rcases Nat.lt_or_ge M 448 with z | z
  · have := am_wg13 (M - 416) (by omega); rwa [show 416 + (M - 416) = M by omega] at this
  rcases Nat.lt_or_ge M 452 with z | z
  · have := am_wg14 (M - 448) (by omega); rwa [show 448 + (M - 448) = M by omega] at this
  · omega
theorem am_cn99a : ∀ j, j < 27 → am_cn (453 + j) = 99 := by decide +kernel
theorem am_cn99 {M : Nat} (h : 453 ≤ M) : am_cn M = 99 := by
  rcases Nat.lt_or_ge M 480 with z | z
  · have := am_cn99a (M - 453) (by omega)
    rwa [show 453 + (M - 453) = M by omega] at this
  · exact am_2_out (by decide) z
/-- an entry of a table of a method's class, checked -/
theorem am_row {α β : Type} {c : Nat → α → β → Bool} {L : List (List α)} {M : List (List β)} (hL : L.length ≤ 99) (h : am_zip2 c 0 L M = true) {N : Nat} {x : α} (hx : x ∈ L.getD (am_cn N) []) : N < 453 ∧ ∃ y, c (am_cn N) x y = true := by
  have h1 := am_zip2_mem h (am_cn N) x hx
  rw [Nat.zero_add] at h1
  refine ⟨?_, h1⟩
  rcases Nat.lt_or_ge N 453 with z | z
  · exact z
  · rw [am_cn99 z] at hx
    have h2 : L[99]? = none := List.getElem?_eq_none hL
    simp [List.getD, h2] at hx
section AMP
variable (sp : Nat → Nat → List Value → Option (Nat × List Value))
theorem am_P2 : am_H2 (am_P sp) am_nam am_U := by
  refine ⟨fun M i v h => ?_, fun M i v h => ?_⟩
  · obtain ⟨hM, p, hp⟩ := am_row (by decide) am_okI (am_lookup (show (am_ckI.getD (am_cn M) []).lookup i = some v from h))
    have := am_has_U hp
    rwa [(am_cnok M hM).1] at this
  · obtain ⟨hM, p, hp⟩ := am_row (by decide) am_okL (am_lookup (show (am_ckL.getD (am_cn M) []).lookup i = some v from h))
    have := am_has_U hp
    rwa [(am_cnok M hM).1] at this
theorem am_wsC {ci : Nat} {q : vw_C} (h : vwCl[ci]? = some q) : ∀ w ∈ u_ws q.1 q.2.1 q.2.2, w ∈ am_U := by
  intro w hw
  have e1 : (vwCl.map (fun q => u_ws q.1 q.2.1 q.2.2)).getD ci [] = u_ws q.1 q.2.1 q.2.2 := by
    rw [List.getD_eq_getElem?_getD, List.getElem?_map, h]; rfl
  obtain ⟨p, hp⟩ := am_zip2_mem am_okC ci w (by rw [e1]; exact hw)
  exact am_has_U hp
theorem am_P3 : am_hC (am_tyF, am_dfl) vwCl am_U := by
  intro ci q hq
  refine ⟨am_wsC hq, ?_⟩
  have hl : ci < 13 := (List.getElem?_eq_some_iff.mp hq).1
  rcases (show ci = 0 ∨ ci = 1 ∨ ci = 2 ∨ ci = 3 ∨ ci = 4 ∨ ci = 5 ∨ ci = 6 ∨ ci = 7 ∨ ci = 8 ∨ ci = 9 ∨ ci = 10 ∨ ci = 11 ∨ ci = 12 by omega) with rfl | rfl | rfl | rfl | rfl | rfl | rfl | rfl | rfl | rfl | rfl | rfl | rfl
  · cases hq; exact ⟨tyX0_ok, nmX0, by decide +kernel, rfl, by decide +kernel⟩
  · cases hq; exact ⟨tyX1_ok, nmX1, by decide +kernel, rfl, by decide +kernel⟩
  · cases hq; exact ⟨tyX2_ok, nmX2, by decide +kernel, rfl, by decide +kernel⟩
  · cases hq; exact ⟨tyX3_ok, nmX3, by decide +kernel, rfl, by decide +kernel⟩
  · cases hq; exact ⟨tyX4_ok, nmX4, by decide +kernel, rfl, by decide +kernel⟩
  · cases hq; exact ⟨tyX5_ok, nmX5, by decide +kernel, rfl, by decide +kernel⟩
  · cases hq; exact ⟨tyX6_ok, nmX6, by decide +kernel, rfl, by decide +kernel⟩
  · cases hq; exact ⟨tyX7_ok, nmX7, by decide +kernel, rfl, by decide +kernel⟩
  · cases hq; exact ⟨tyX8_ok, nmX8, by decide +kernel, rfl, by decide +kernel⟩
  · cases hq; exact ⟨tyX9_ok, nmX9, by decide +kernel, rfl, by decide +kernel⟩
  · cases hq; exact ⟨tyX10_ok, nmX10, by decide +kernel, rfl, by decide +kernel⟩
  · cases hq; exact ⟨tyX11_ok, nmX11, by decide +kernel, rfl, by decide +kernel⟩
  · cases hq; exact ⟨tyX12_ok, nmX12, by decide +kernel, rfl, by decide +kernel⟩
theorem am_okR : am_has (.arrayClass .byte) (0, 65) = true ∧ am_has (.arrayClass .int) (0, 67) = true ∧ am_has (.arrayClass .long) (0, 66) = true ∧ am_has (.arrayClass .boolean) (9, 159) = true := by decide +kernel
theorem am_P4 {Ev : State → Heap → Prop} {cy : Nat → ClassId} (hV : ∀ s H, Ev s H → ∀ w ∈ am_V, va_Nw w s) : am_H4 (am_P sp) am_nam am_U Ev vwCl cy := by
  intro M args s H hts hE
  have hv := hV s H hE
  refine ⟨⟨fun ix ci k md h => ?_, fun ix ci h => ?_, fun ix t h => ?_⟩, fun ty t h => ?_, ⟨_, rfl, rfl⟩, ⟨_, rfl, rfl⟩⟩
  · obtain ⟨hM, p, hp⟩ := am_row (by decide) am_okF (am_lookup (show (am_cfl.getD (am_cn M) []).lookup ix = some (ci, k, md) from h))
    rw [am_cfl1, (am_cnok M hM).1] at hp
    simp only at hp
    cases hq : vwCl[ci]? with
    | none => rw [hq] at hp; cases hp
    | some q =>
      rw [hq] at hp
      simp only [Bool.and_eq_true, Bool.or_eq_true, decide_eq_true_eq, Bool.not_eq_true', decide_eq_false_iff_not] at hp
      obtain ⟨⟨⟨h1, h2⟩, h3⟩, h4⟩ := hp
      refine ⟨q, rfl, h1, ?_, fun z => ?_, fun z => ?_⟩
      · rcases h2 with h2 | ⟨h2, h5⟩
        · exact Or.inl (hts _ (am_has_U h2))
        · exact Or.inr ⟨h2, _, va_Nw.use rfl (hv _ (am_hasV_V h5))⟩
      · exact h3.resolve_left (fun y => y z)
      · exact h4.resolve_left (fun y => y z)
  · obtain ⟨hM, p, hp⟩ := am_row (by decide) am_okN (am_lookup (show (am_cnw.getD (am_cn M) []).lookup ix = some ci from h))
    rw [am_cnw1, (am_cnok M hM).1] at hp
    simp only at hp
    cases hq : vwCl[ci]? with
    | none => rw [hq] at hp; cases hp
    | some q =>
      rw [hq] at hp
      simp only [Bool.and_eq_true] at hp
      exact ⟨q, rfl, hts _ (am_has_U hp.1.1), hts _ (am_has_U hp.1.2), hts _ (am_has_U hp.2)⟩
  · obtain ⟨hM, p, hp⟩ := am_row (by decide) am_okA (am_lookup (show (am_canw.getD (am_cn M) []).lookup ix = some t from h))
    rw [am_canw1, (am_cnok M hM).1] at hp
    simp only [Bool.and_eq_true, Bool.or_eq_true, decide_eq_true_eq] at hp
    obtain ⟨⟨h1, h2⟩, h3⟩ := hp
    refine ⟨am_tgC t, ?_, hts _ (am_has_U h2), hv _ (am_hasV_V h3)⟩
    rcases h1 with rfl | rfl <;> rfl
  · cases ty <;> simp only [am_tag] at h <;> first | (cases h; done) | skip
    · exact hts _ (am_has_U am_okR.2.2.2)
    all_goals first | exact hts _ (am_has_U am_okR.1) | exact hts _ (am_has_U am_okR.2.1) | exact hts _ (am_has_U am_okR.2.2.1) | exact hts _ (am_has_U am_okR.2.2.2)
theorem am_P8 : am_H8 am_U := fun w hw => (List.mem_filter.mp hw).2
theorem am_nam_out {M : Nat} (h : 453 ≤ M) : am_nam M = am_nm0 := by
  rcases Nat.lt_or_ge M 480 with z | z
  · have h0 : ∀ j, j < 27 → am_nam (453 + j) = am_nm0 := by decide +kernel
    have := h0 (M - 453) (by omega)
    rwa [show 453 + (M - 453) = M by omega] at this
  · exact am_2_out (by decide) z
theorem am_P9 : am_H9 (am_P sp) am_nam := by
  intro M
  refine ⟨?_, fun h => of_decide_eq_true h⟩
  rcases Nat.lt_or_ge M 453 with z | z
  · exact (am_cnok M z).2
  · rw [am_nam_out z]; decide +kernel
theorem am_cwE (M : Nat) : am_cw (am_P sp) am_nam am_cc am_hh M = am_cwB M := by
  unfold am_cw am_cwB
  show (if (!(am_hh M).isEmpty) = true then _ else _) = _
  cases (am_hh M).isEmpty <;> rfl
theorem am_P7 {Ev : State → Heap → Prop} {sa : Nat → Option Nat} (hV : ∀ s H, Ev s H → ∀ w ∈ am_V, va_Nw w s) (hT : ∀ u : Nat, u < 30 → ∀ (s : State) (H : Heap), Ev s H → ∃ (a : Nat) (cell : Cell), sa u = some a ∧ H[a]? = some cell ∧ cell.vm.isStatics = false ∧ s.vm.findClass "java/lang/String" = some cell.cls) : am_H7 (am_P sp) am_nam am_cc am_U am_hh Ev vwCl sa := by
  intro M ix k y n ci h
  obtain ⟨hM, p, hp⟩ := am_row (by decide) am_okM (am_lookup (show (am_ccal.getD (am_cn M) []).lookup ix = some (k, y, n, ci) from h))
  rw [am_ccal1, (am_cnok M hM).1] at hp
  by_cases hk3 : k = 3
  · subst hk3
    rw [if_pos rfl] at hp
    refine ⟨fun _ => ⟨am_has_U hp, am_has_U am_okO.1, am_has_U am_okO.2⟩, fun z => absurd rfl z, fun z => ?_, fun z => ?_, fun z => ?_, fun z => ?_, fun z => ?_, fun z => ?_, fun z => ?_⟩ <;> cases z
  · rw [if_neg hk3] at hp
    simp only [Bool.and_eq_true, Bool.or_eq_true, decide_eq_true_eq, Bool.not_eq_true', decide_eq_false_iff_not] at hp
    obtain ⟨⟨⟨⟨⟨⟨⟨hy, hn⟩, hl⟩, hst⟩, hini⟩, htb⟩, hci⟩, hs9⟩ := hp
    have hm := am_okm y hy
    have hw := am_wall y hy
    unfold am_cm1 at hm
    split at hm
    rename_i p1 p2 p3 k4 p4 hpm
    simp only [Bool.and_eq_true, Bool.or_eq_true, decide_eq_true_eq] at hm
    obtain ⟨⟨⟨⟨⟨⟨⟨m1, m2⟩, m3⟩, m4⟩, m5⟩, m6⟩, m7⟩, m8⟩ := hm
    have hcw : am_cw (am_P sp) am_nam am_cc am_hh y ∈ am_U := by
      rw [am_cwE]
      exact List.mem_filter.mpr ⟨List.mem_append_right _ hw, m1⟩
    have htab : ¬ k = 0 → am_tab (am_P sp) y = false := fun z => by
      show (!(am_hh y).isEmpty) = false
      rw [htb.resolve_left z]; rfl
    have hsel : (am_2 am_npars (0, true) y).2 = false → ¬ (am_nam y).name = "<init>" → Cond.selects (am_nam y).cls (am_nam y) (am_nam y) ∈ am_U := by
      intro z1 z2
      rw [z1] at m8
      by_cases h0 : k4 = 0
      · rw [if_pos h0] at m8; exact am_has_U m8
      · rw [if_neg h0] at m8
        by_cases h1 : k4 = 1
        · rw [if_pos h1] at m8; exact am_hasP_U m8
        · rw [if_neg h1] at m8
          simp [z2] at m8
    have hlk : ¬ (k = 6 ∨ k = 7 ∨ k = 8) → Cond.methodLink (am_nam M).cls ix (am_nam y) ∈ am_U := fun z => by rw [if_neg z] at hl; exact am_has_U hl
    have hln : (k = 6 ∨ k = 7 ∨ k = 8) → ∃ host, ∀ (s : State) (H : Heap), Ev s H → va_Nw (.methodLinkNest (am_nam M).cls ix (am_nam y) host) s := fun z => by
      rw [if_pos z] at hl
      exact ⟨_, fun s H hE => hV s H hE _ (am_hasV_V hl)⟩
    have hsta : (k = 0 ∨ k = 6) → Cond.static (am_nam y) ∈ am_U := fun z => by
      have e1 : (am_2 am_npars (0, true) y).2 = true := by rw [hst]; rcases z with rfl | rfl <;> rfl
      rw [if_pos e1] at m3; exact am_has_U m3
    have hns : ¬ (k = 0 ∨ k = 6) → (am_2 am_npars (0, true) y).2 = false := fun z => by
      rw [hst]
      have a1 : ¬ k = 0 := fun q => z (Or.inl q)
      have a2 : ¬ k = 6 := fun q => z (Or.inr q)
      simp [a1, a2]
    have hins : ¬ (k = 0 ∨ k = 6) → Cond.instanceMethod (am_nam y) ∈ am_U := fun z => by
      rw [if_neg (by rw [hns z]; decide)] at m3; exact am_has_U m3
    have hcls : (k = 1 ∨ k = 7) → ∃ q : vw_C, vwCl[ci]? = some q ∧ Cond.selects q.1 (am_nam y) (am_nam y) ∈ am_U := fun z => by
      rw [if_pos z] at hci
      cases hq : vwCl[ci]? with
      | none => rw [hq] at hci; cases hci
      | some q =>
        rw [hq] at hci
        have e1 : q.1 = (am_nam y).cls := by simpa using hci
        refine ⟨q, rfl, ?_⟩
        rw [e1]
        rw [if_neg (by omega)] at hini
        exact hsel (hns (by omega)) (by simpa using hini)
    refine ⟨fun z => absurd z hk3, fun _ => ⟨hcw, am_has_U m2, m4, m5, m6, by rw [m7, hn]⟩, fun z => ⟨hlk (by omega), hsta (Or.inl z)⟩, fun z => ⟨htab (by omega), hsta (Or.inr z), hln (Or.inl z)⟩, fun z => ⟨htab (by omega), hlk (by omega), hins (by omega), hcls (Or.inl z)⟩, fun z => ⟨htab (by omega), hins (by omega), hcls (Or.inr z), hln (Or.inr (Or.inl z))⟩, fun z => ?_, fun z => ?_, fun z => ?_⟩
    · rw [if_pos (by omega)] at hini
      simp only [Bool.and_eq_true, decide_eq_true_eq] at hini
      exact ⟨htab (by omega), hini.2, hini.1, hlk (by omega), hins (by omega)⟩
    · rw [if_pos (by omega)] at hini
      simp only [Bool.and_eq_true, decide_eq_true_eq] at hini
      exact ⟨htab (by omega), hini.2, hini.1, hins (by omega), hln (Or.inr (Or.inr z))⟩
    · rw [if_neg (by omega)] at hini
      have h8 := hsel (hns (by omega)) (by simpa using hini)
      have e9 : (am_nam y).cls = "java/lang/String" := hs9.resolve_left (fun q => q z)
      rw [e9] at h8
      exact ⟨htab (by omega), hlk (by omega), hins (by omega), h8, hT⟩
end AMP
