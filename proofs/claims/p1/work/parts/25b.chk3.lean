set_option maxRecDepth 20000 in
theorem am_w0 : (am_tk 0)[30]? = some (am_cwB 0) := rfl
set_option maxRecDepth 20000 in
theorem am_w1 : (am_tk 0)[38]? = some (am_cwB 1) := rfl
set_option maxRecDepth 20000 in
theorem am_w2 : (am_tk 0)[44]? = some (am_cwB 2) := rfl
set_option maxRecDepth 20000 in
theorem am_w3 : (am_tk 0)[72]? = some (am_cwB 3) := rfl
set_option maxRecDepth 20000 in
theorem am_w4 : (am_tk 0)[76]? = some (am_cwB 4) := rfl
set_option maxRecDepth 20000 in
theorem am_w5 : (am_tk 0)[82]? = some (am_cwB 5) := rfl
set_option maxRecDepth 20000 in
theorem am_w6 : (am_tk 0)[86]? = some (am_cwB 6) := rfl
set_option maxRecDepth 20000 in
theorem am_w7 : (am_tk 0)[89]? = some (am_cwB 7) := rfl
set_option maxRecDepth 20000 in
theorem am_w8 : (am_tk 0)[92]? = some (am_cwB 8) := rfl
set_option maxRecDepth 20000 in
theorem am_w9 : (am_tk 0)[97]? = some (am_cwB 9) := rfl
set_option maxRecDepth 20000 in
theorem am_w10 : (am_tk 0)[159]? = some (am_cwB 10) := rfl
set_option maxRecDepth 20000 in
theorem am_w11 : (am_tk 0)[191]? = some (am_cwB 11) := rfl
set_option maxRecDepth 20000 in
theorem am_w12 : (am_tk 1)[21]? = some (am_cwB 12) := rfl
set_option maxRecDepth 20000 in
theorem am_w13 : (am_tk 1)[57]? = some (am_cwB 13) := rfl
set_option maxRecDepth 20000 in
theorem am_w14 : (am_tk 1)[91]? = some (am_cwB 14) := rfl
set_option maxRecDepth 20000 in
theorem am_w15 : (am_tk 1)[140]? = some (am_cwB 15) := rfl
set_option maxRecDepth 20000 in
theorem am_w16 : (am_tk 1)[182]? = some (am_cwB 16) := rfl
set_option maxRecDepth 20000 in
theorem am_w17 : (am_tk 2)[5]? = some (am_cwB 17) := rfl
set_option maxRecDepth 20000 in
theorem am_w18 : (am_tk 2)[50]? = some (am_cwB 18) := rfl
set_option maxRecDepth 20000 in
theorem am_w19 : (am_tk 2)[145]? = some (am_cwB 19) := rfl
set_option maxRecDepth 20000 in
theorem am_w20 : (am_tk 2)[149]? = some (am_cwB 20) := rfl
set_option maxRecDepth 20000 in
theorem am_w21 : (am_tk 2)[153]? = some (am_cwB 21) := rfl
set_option maxRecDepth 20000 in
theorem am_w22 : (am_tk 2)[157]? = some (am_cwB 22) := rfl
set_option maxRecDepth 20000 in
theorem am_w23 : (am_tk 2)[161]? = some (am_cwB 23) := rfl
set_option maxRecDepth 20000 in
theorem am_w24 : (am_tk 2)[165]? = some (am_cwB 24) := rfl
set_option maxRecDepth 20000 in
theorem am_w25 : (am_tk 2)[169]? = some (am_cwB 25) := rfl
set_option maxRecDepth 20000 in
theorem am_w26 : (am_tk 2)[173]? = some (am_cwB 26) := rfl
set_option maxRecDepth 20000 in
theorem am_w27 : (am_tk 2)[177]? = some (am_cwB 27) := rfl
set_option maxRecDepth 20000 in
theorem am_w28 : (am_tk 2)[180]? = some (am_cwB 28) := rfl
set_option maxRecDepth 20000 in
theorem am_w29 : (am_tk 2)[185]? = some (am_cwB 29) := rfl
set_option maxRecDepth 20000 in
theorem am_w30 : (am_tk 2)[188]? = some (am_cwB 30) := rfl
set_option maxRecDepth 20000 in
theorem am_w31 : (am_tk 2)[192]? = some (am_cwB 31) := rfl
set_option maxRecDepth 20000 in
theorem am_w32 : (am_tk 2)[197]? = some (am_cwB 32) := rfl
set_option maxRecDepth 20000 in
theorem am_w33 : (am_tk 2)[200]? = some (am_cwB 33) := rfl
set_option maxRecDepth 20000 in
theorem am_w34 : (am_tk 2)[204]? = some (am_cwB 34) := rfl
set_option maxRecDepth 20000 in
theorem am_w35 : (am_tk 2)[208]? = some (am_cwB 35) := rfl
set_option maxRecDepth 20000 in
theorem am_w36 : (am_tk 2)[213]? = some (am_cwB 36) := rfl
set_option maxRecDepth 20000 in
theorem am_w37 : (am_tk 2)[218]? = some (am_cwB 37) := rfl
set_option maxRecDepth 20000 in
theorem am_w38 : (am_tk 2)[222]? = some (am_cwB 38) := rfl
set_option maxRecDepth 20000 in
theorem am_w39 : (am_tk 2)[229]? = some (am_cwB 39) := rfl
set_option maxRecDepth 20000 in
theorem am_w40 : (am_tk 2)[233]? = some (am_cwB 40) := rfl
set_option maxRecDepth 20000 in
theorem am_w41 : (am_tk 2)[236]? = some (am_cwB 41) := rfl
set_option maxRecDepth 20000 in
theorem am_w42 : (am_tk 2)[239]? = some (am_cwB 42) := rfl
set_option maxRecDepth 20000 in
theorem am_w43 : (am_tk 3)[3]? = some (am_cwB 43) := rfl
set_option maxRecDepth 20000 in
theorem am_w44 : (am_tk 3)[6]? = some (am_cwB 44) := rfl
set_option maxRecDepth 20000 in
theorem am_w45 : (am_tk 3)[10]? = some (am_cwB 45) := rfl
set_option maxRecDepth 20000 in
theorem am_w46 : (am_tk 3)[14]? = some (am_cwB 46) := rfl
set_option maxRecDepth 20000 in
theorem am_w47 : (am_tk 3)[21]? = some (am_cwB 47) := rfl
set_option maxRecDepth 20000 in
theorem am_w48 : (am_tk 3)[24]? = some (am_cwB 48) := rfl
set_option maxRecDepth 20000 in
theorem am_w49 : (am_tk 3)[28]? = some (am_cwB 49) := rfl
set_option maxRecDepth 20000 in
theorem am_w50 : (am_tk 3)[32]? = some (am_cwB 50) := rfl
set_option maxRecDepth 20000 in
theorem am_w51 : (am_tk 3)[36]? = some (am_cwB 51) := rfl
set_option maxRecDepth 20000 in
theorem am_w52 : (am_tk 3)[40]? = some (am_cwB 52) := rfl
set_option maxRecDepth 20000 in
theorem am_w53 : (am_tk 3)[44]? = some (am_cwB 53) := rfl
set_option maxRecDepth 20000 in
theorem am_w54 : (am_tk 3)[48]? = some (am_cwB 54) := rfl
set_option maxRecDepth 20000 in
theorem am_w55 : (am_tk 3)[52]? = some (am_cwB 55) := rfl
set_option maxRecDepth 20000 in
theorem am_w56 : (am_tk 3)[56]? = some (am_cwB 56) := rfl
set_option maxRecDepth 20000 in
theorem am_w57 : (am_tk 3)[60]? = some (am_cwB 57) := rfl
set_option maxRecDepth 20000 in
theorem am_w58 : (am_tk 3)[64]? = some (am_cwB 58) := rfl
set_option maxRecDepth 20000 in
theorem am_w59 : (am_tk 3)[68]? = some (am_cwB 59) := rfl
set_option maxRecDepth 20000 in
theorem am_w60 : (am_tk 3)[71]? = some (am_cwB 60) := rfl
set_option maxRecDepth 20000 in
theorem am_w61 : (am_tk 3)[93]? = some (am_cwB 61) := rfl
set_option maxRecDepth 20000 in
theorem am_w62 : (am_tk 3)[97]? = some (am_cwB 62) := rfl
set_option maxRecDepth 20000 in
theorem am_w63 : (am_tk 3)[101]? = some (am_cwB 63) := rfl
set_option maxRecDepth 20000 in
theorem am_w64 : (am_tk 3)[105]? = some (am_cwB 64) := rfl
set_option maxRecDepth 20000 in
theorem am_w65 : (am_tk 3)[113]? = some (am_cwB 65) := rfl
set_option maxRecDepth 20000 in
theorem am_w66 : (am_tk 3)[118]? = some (am_cwB 66) := rfl
set_option maxRecDepth 20000 in
theorem am_w67 : (am_tk 3)[122]? = some (am_cwB 67) := rfl
set_option maxRecDepth 20000 in
theorem am_w68 : (am_tk 3)[126]? = some (am_cwB 68) := rfl
set_option maxRecDepth 20000 in
theorem am_w69 : (am_tk 3)[130]? = some (am_cwB 69) := rfl
set_option maxRecDepth 20000 in
theorem am_w70 : (am_tk 3)[134]? = some (am_cwB 70) := rfl
set_option maxRecDepth 20000 in
theorem am_w71 : (am_tk 3)[138]? = some (am_cwB 71) := rfl
set_option maxRecDepth 20000 in
theorem am_w72 : (am_tk 3)[142]? = some (am_cwB 72) := rfl
set_option maxRecDepth 20000 in
theorem am_w73 : (am_tk 3)[146]? = some (am_cwB 73) := rfl
set_option maxRecDepth 20000 in
theorem am_w74 : (am_tk 3)[150]? = some (am_cwB 74) := rfl
set_option maxRecDepth 20000 in
theorem am_w75 : (am_tk 3)[155]? = some (am_cwB 75) := rfl
set_option maxRecDepth 20000 in
theorem am_w76 : (am_tk 3)[159]? = some (am_cwB 76) := rfl
set_option maxRecDepth 20000 in
theorem am_w77 : (am_tk 3)[163]? = some (am_cwB 77) := rfl
set_option maxRecDepth 20000 in
theorem am_w78 : (am_tk 3)[167]? = some (am_cwB 78) := rfl
set_option maxRecDepth 20000 in
theorem am_w79 : (am_tk 3)[171]? = some (am_cwB 79) := rfl
set_option maxRecDepth 20000 in
theorem am_w80 : (am_tk 3)[175]? = some (am_cwB 80) := rfl
set_option maxRecDepth 20000 in
theorem am_w81 : (am_tk 3)[179]? = some (am_cwB 81) := rfl
set_option maxRecDepth 20000 in
theorem am_w82 : (am_tk 3)[183]? = some (am_cwB 82) := rfl
set_option maxRecDepth 20000 in
theorem am_w83 : (am_tk 3)[187]? = some (am_cwB 83) := rfl
set_option maxRecDepth 20000 in
theorem am_w84 : (am_tk 3)[191]? = some (am_cwB 84) := rfl
set_option maxRecDepth 20000 in
theorem am_w85 : (am_tk 3)[195]? = some (am_cwB 85) := rfl
set_option maxRecDepth 20000 in
theorem am_w86 : (am_tk 3)[200]? = some (am_cwB 86) := rfl
set_option maxRecDepth 20000 in
theorem am_w87 : (am_tk 3)[204]? = some (am_cwB 87) := rfl
set_option maxRecDepth 20000 in
theorem am_w88 : (am_tk 3)[208]? = some (am_cwB 88) := rfl
set_option maxRecDepth 20000 in
theorem am_w89 : (am_tk 3)[212]? = some (am_cwB 89) := rfl
set_option maxRecDepth 20000 in
theorem am_w90 : (am_tk 3)[219]? = some (am_cwB 90) := rfl
set_option maxRecDepth 20000 in
theorem am_w91 : (am_tk 3)[223]? = some (am_cwB 91) := rfl
set_option maxRecDepth 20000 in
theorem am_w92 : (am_tk 3)[229]? = some (am_cwB 92) := rfl
set_option maxRecDepth 20000 in
theorem am_w93 : (am_tk 3)[233]? = some (am_cwB 93) := rfl
set_option maxRecDepth 20000 in
theorem am_w94 : (am_tk 3)[237]? = some (am_cwB 94) := rfl
set_option maxRecDepth 20000 in
theorem am_w95 : (am_tk 4)[1]? = some (am_cwB 95) := rfl
set_option maxRecDepth 20000 in
theorem am_w96 : (am_tk 4)[5]? = some (am_cwB 96) := rfl
set_option maxRecDepth 20000 in
theorem am_w97 : (am_tk 4)[13]? = some (am_cwB 97) := rfl
set_option maxRecDepth 20000 in
theorem am_w98 : (am_tk 4)[18]? = some (am_cwB 98) := rfl
set_option maxRecDepth 20000 in
theorem am_w99 : (am_tk 4)[23]? = some (am_cwB 99) := rfl
set_option maxRecDepth 20000 in
theorem am_w100 : (am_tk 4)[27]? = some (am_cwB 100) := rfl
set_option maxRecDepth 20000 in
theorem am_w101 : (am_tk 4)[31]? = some (am_cwB 101) := rfl
set_option maxRecDepth 20000 in
theorem am_w102 : (am_tk 4)[36]? = some (am_cwB 102) := rfl
set_option maxRecDepth 20000 in
theorem am_w103 : (am_tk 4)[40]? = some (am_cwB 103) := rfl
set_option maxRecDepth 20000 in
theorem am_w104 : (am_tk 4)[45]? = some (am_cwB 104) := rfl
set_option maxRecDepth 20000 in
theorem am_w105 : (am_tk 4)[50]? = some (am_cwB 105) := rfl
set_option maxRecDepth 20000 in
theorem am_w106 : (am_tk 4)[54]? = some (am_cwB 106) := rfl
set_option maxRecDepth 20000 in
theorem am_w107 : (am_tk 4)[60]? = some (am_cwB 107) := rfl
set_option maxRecDepth 20000 in
theorem am_w108 : (am_tk 4)[65]? = some (am_cwB 108) := rfl
set_option maxRecDepth 20000 in
theorem am_w109 : (am_tk 4)[69]? = some (am_cwB 109) := rfl
set_option maxRecDepth 20000 in
theorem am_w110 : (am_tk 4)[77]? = some (am_cwB 110) := rfl
set_option maxRecDepth 20000 in
theorem am_w111 : (am_tk 4)[81]? = some (am_cwB 111) := rfl
set_option maxRecDepth 20000 in
theorem am_w112 : (am_tk 4)[85]? = some (am_cwB 112) := rfl
set_option maxRecDepth 20000 in
theorem am_w113 : (am_tk 4)[89]? = some (am_cwB 113) := rfl
set_option maxRecDepth 20000 in
theorem am_w114 : (am_tk 4)[95]? = some (am_cwB 114) := rfl
set_option maxRecDepth 20000 in
theorem am_w115 : (am_tk 4)[99]? = some (am_cwB 115) := rfl
set_option maxRecDepth 20000 in
theorem am_w116 : (am_tk 4)[103]? = some (am_cwB 116) := rfl
set_option maxRecDepth 20000 in
theorem am_w117 : (am_tk 4)[108]? = some (am_cwB 117) := rfl
set_option maxRecDepth 20000 in
theorem am_w118 : (am_tk 4)[112]? = some (am_cwB 118) := rfl
set_option maxRecDepth 20000 in
theorem am_w119 : (am_tk 4)[118]? = some (am_cwB 119) := rfl
set_option maxRecDepth 20000 in
theorem am_w120 : (am_tk 4)[122]? = some (am_cwB 120) := rfl
set_option maxRecDepth 20000 in
theorem am_w121 : (am_tk 4)[126]? = some (am_cwB 121) := rfl
set_option maxRecDepth 20000 in
theorem am_w122 : (am_tk 4)[131]? = some (am_cwB 122) := rfl
set_option maxRecDepth 20000 in
theorem am_w123 : (am_tk 4)[134]? = some (am_cwB 123) := rfl
set_option maxRecDepth 20000 in
theorem am_w124 : (am_tk 4)[138]? = some (am_cwB 124) := rfl
set_option maxRecDepth 20000 in
theorem am_w125 : (am_tk 4)[142]? = some (am_cwB 125) := rfl
set_option maxRecDepth 20000 in
theorem am_w126 : (am_tk 4)[150]? = some (am_cwB 126) := rfl
set_option maxRecDepth 20000 in
theorem am_w127 : (am_tk 4)[154]? = some (am_cwB 127) := rfl
set_option maxRecDepth 20000 in
theorem am_w128 : (am_tk 4)[160]? = some (am_cwB 128) := rfl
set_option maxRecDepth 20000 in
theorem am_w129 : (am_tk 4)[164]? = some (am_cwB 129) := rfl
set_option maxRecDepth 20000 in
theorem am_w130 : (am_tk 4)[170]? = some (am_cwB 130) := rfl
set_option maxRecDepth 20000 in
theorem am_w131 : (am_tk 4)[175]? = some (am_cwB 131) := rfl
set_option maxRecDepth 20000 in
theorem am_w132 : (am_tk 4)[179]? = some (am_cwB 132) := rfl
set_option maxRecDepth 20000 in
theorem am_w133 : (am_tk 4)[183]? = some (am_cwB 133) := rfl
set_option maxRecDepth 20000 in
theorem am_w134 : (am_tk 4)[187]? = some (am_cwB 134) := rfl
set_option maxRecDepth 20000 in
theorem am_w135 : (am_tk 4)[190]? = some (am_cwB 135) := rfl
set_option maxRecDepth 20000 in
theorem am_w136 : (am_tk 4)[198]? = some (am_cwB 136) := rfl
set_option maxRecDepth 20000 in
theorem am_w137 : (am_tk 4)[202]? = some (am_cwB 137) := rfl
set_option maxRecDepth 20000 in
theorem am_w138 : (am_tk 4)[206]? = some (am_cwB 138) := rfl
set_option maxRecDepth 20000 in
theorem am_w139 : (am_tk 4)[210]? = some (am_cwB 139) := rfl
set_option maxRecDepth 20000 in
theorem am_w140 : (am_tk 4)[215]? = some (am_cwB 140) := rfl
set_option maxRecDepth 20000 in
theorem am_w141 : (am_tk 4)[219]? = some (am_cwB 141) := rfl
set_option maxRecDepth 20000 in
theorem am_w142 : (am_tk 4)[223]? = some (am_cwB 142) := rfl
set_option maxRecDepth 20000 in
theorem am_w143 : (am_tk 4)[228]? = some (am_cwB 143) := rfl
set_option maxRecDepth 20000 in
theorem am_w144 : (am_tk 4)[232]? = some (am_cwB 144) := rfl
set_option maxRecDepth 20000 in
theorem am_w145 : (am_tk 4)[236]? = some (am_cwB 145) := rfl
set_option maxRecDepth 20000 in
theorem am_w146 : (am_tk 5)[0]? = some (am_cwB 146) := rfl
set_option maxRecDepth 20000 in
theorem am_w147 : (am_tk 5)[5]? = some (am_cwB 147) := rfl
set_option maxRecDepth 20000 in
theorem am_w148 : (am_tk 5)[10]? = some (am_cwB 148) := rfl
set_option maxRecDepth 20000 in
theorem am_w149 : (am_tk 5)[15]? = some (am_cwB 149) := rfl
set_option maxRecDepth 20000 in
theorem am_w150 : (am_tk 5)[18]? = some (am_cwB 150) := rfl
set_option maxRecDepth 20000 in
theorem am_w151 : (am_tk 5)[24]? = some (am_cwB 151) := rfl
set_option maxRecDepth 20000 in
theorem am_w152 : (am_tk 5)[28]? = some (am_cwB 152) := rfl
set_option maxRecDepth 20000 in
theorem am_w153 : (am_tk 5)[115]? = some (am_cwB 153) := rfl
set_option maxRecDepth 20000 in
theorem am_w154 : (am_tk 5)[118]? = some (am_cwB 154) := rfl
set_option maxRecDepth 20000 in
theorem am_w155 : (am_tk 5)[122]? = some (am_cwB 155) := rfl
set_option maxRecDepth 20000 in
theorem am_w156 : (am_tk 5)[127]? = some (am_cwB 156) := rfl
set_option maxRecDepth 20000 in
theorem am_w157 : (am_tk 5)[131]? = some (am_cwB 157) := rfl
set_option maxRecDepth 20000 in
theorem am_w158 : (am_tk 5)[134]? = some (am_cwB 158) := rfl
set_option maxRecDepth 20000 in
theorem am_w159 : (am_tk 5)[138]? = some (am_cwB 159) := rfl
set_option maxRecDepth 20000 in
theorem am_w160 : (am_tk 5)[141]? = some (am_cwB 160) := rfl
set_option maxRecDepth 20000 in
theorem am_w161 : (am_tk 5)[145]? = some (am_cwB 161) := rfl
set_option maxRecDepth 20000 in
theorem am_w162 : (am_tk 5)[149]? = some (am_cwB 162) := rfl
set_option maxRecDepth 20000 in
theorem am_w163 : (am_tk 5)[152]? = some (am_cwB 163) := rfl
set_option maxRecDepth 20000 in
theorem am_w164 : (am_tk 5)[157]? = some (am_cwB 164) := rfl
set_option maxRecDepth 20000 in
theorem am_w165 : (am_tk 5)[161]? = some (am_cwB 165) := rfl
set_option maxRecDepth 20000 in
theorem am_w166 : (am_tk 5)[165]? = some (am_cwB 166) := rfl
set_option maxRecDepth 20000 in
theorem am_w167 : (am_tk 5)[168]? = some (am_cwB 167) := rfl
set_option maxRecDepth 20000 in
theorem am_w168 : (am_tk 5)[172]? = some (am_cwB 168) := rfl
set_option maxRecDepth 20000 in
theorem am_w169 : (am_tk 5)[176]? = some (am_cwB 169) := rfl
set_option maxRecDepth 20000 in
theorem am_w170 : (am_tk 5)[195]? = some (am_cwB 170) := rfl
set_option maxRecDepth 20000 in
theorem am_w171 : (am_tk 5)[199]? = some (am_cwB 171) := rfl
set_option maxRecDepth 20000 in
theorem am_w172 : (am_tk 5)[202]? = some (am_cwB 172) := rfl
set_option maxRecDepth 20000 in
theorem am_w173 : (am_tk 5)[206]? = some (am_cwB 173) := rfl
set_option maxRecDepth 20000 in
theorem am_w174 : (am_tk 5)[210]? = some (am_cwB 174) := rfl
set_option maxRecDepth 20000 in
theorem am_w175 : (am_tk 5)[214]? = some (am_cwB 175) := rfl
set_option maxRecDepth 20000 in
theorem am_w176 : (am_tk 5)[218]? = some (am_cwB 176) := rfl
set_option maxRecDepth 20000 in
theorem am_w177 : (am_tk 5)[223]? = some (am_cwB 177) := rfl
set_option maxRecDepth 20000 in
theorem am_w178 : (am_tk 5)[227]? = some (am_cwB 178) := rfl
set_option maxRecDepth 20000 in
theorem am_w179 : (am_tk 5)[233]? = some (am_cwB 179) := rfl
set_option maxRecDepth 20000 in
theorem am_w180 : (am_tk 5)[237]? = some (am_cwB 180) := rfl
set_option maxRecDepth 20000 in
theorem am_w181 : (am_tk 6)[1]? = some (am_cwB 181) := rfl
set_option maxRecDepth 20000 in
theorem am_w182 : (am_tk 6)[5]? = some (am_cwB 182) := rfl
set_option maxRecDepth 20000 in
theorem am_w183 : (am_tk 6)[9]? = some (am_cwB 183) := rfl
set_option maxRecDepth 20000 in
theorem am_w184 : (am_tk 6)[17]? = some (am_cwB 184) := rfl
set_option maxRecDepth 20000 in
theorem am_w185 : (am_tk 6)[21]? = some (am_cwB 185) := rfl
set_option maxRecDepth 20000 in
theorem am_w186 : (am_tk 6)[26]? = some (am_cwB 186) := rfl
set_option maxRecDepth 20000 in
theorem am_w187 : (am_tk 6)[30]? = some (am_cwB 187) := rfl
set_option maxRecDepth 20000 in
theorem am_w188 : (am_tk 6)[34]? = some (am_cwB 188) := rfl
set_option maxRecDepth 20000 in
theorem am_w189 : (am_tk 6)[38]? = some (am_cwB 189) := rfl
set_option maxRecDepth 20000 in
theorem am_w190 : (am_tk 6)[42]? = some (am_cwB 190) := rfl
set_option maxRecDepth 20000 in
theorem am_w191 : (am_tk 6)[47]? = some (am_cwB 191) := rfl
set_option maxRecDepth 20000 in
theorem am_w192 : (am_tk 6)[51]? = some (am_cwB 192) := rfl
set_option maxRecDepth 20000 in
theorem am_w193 : (am_tk 6)[56]? = some (am_cwB 193) := rfl
set_option maxRecDepth 20000 in
theorem am_w194 : (am_tk 6)[60]? = some (am_cwB 194) := rfl
set_option maxRecDepth 20000 in
theorem am_w195 : (am_tk 6)[64]? = some (am_cwB 195) := rfl
set_option maxRecDepth 20000 in
theorem am_w196 : (am_tk 6)[67]? = some (am_cwB 196) := rfl
set_option maxRecDepth 20000 in
theorem am_w197 : (am_tk 6)[71]? = some (am_cwB 197) := rfl
set_option maxRecDepth 20000 in
theorem am_w198 : (am_tk 6)[74]? = some (am_cwB 198) := rfl
set_option maxRecDepth 20000 in
theorem am_w199 : (am_tk 6)[78]? = some (am_cwB 199) := rfl
set_option maxRecDepth 20000 in
theorem am_w200 : (am_tk 6)[81]? = some (am_cwB 200) := rfl
set_option maxRecDepth 20000 in
theorem am_w201 : (am_tk 6)[85]? = some (am_cwB 201) := rfl
set_option maxRecDepth 20000 in
theorem am_w202 : (am_tk 6)[88]? = some (am_cwB 202) := rfl
set_option maxRecDepth 20000 in
theorem am_w203 : (am_tk 6)[92]? = some (am_cwB 203) := rfl
set_option maxRecDepth 20000 in
theorem am_w204 : (am_tk 6)[95]? = some (am_cwB 204) := rfl
set_option maxRecDepth 20000 in
theorem am_w205 : (am_tk 6)[99]? = some (am_cwB 205) := rfl
set_option maxRecDepth 20000 in
theorem am_w206 : (am_tk 6)[102]? = some (am_cwB 206) := rfl
set_option maxRecDepth 20000 in
theorem am_w207 : (am_tk 6)[106]? = some (am_cwB 207) := rfl
set_option maxRecDepth 20000 in
theorem am_w208 : (am_tk 6)[110]? = some (am_cwB 208) := rfl
set_option maxRecDepth 20000 in
theorem am_w209 : (am_tk 6)[113]? = some (am_cwB 209) := rfl
set_option maxRecDepth 20000 in
theorem am_w210 : (am_tk 6)[117]? = some (am_cwB 210) := rfl
set_option maxRecDepth 20000 in
theorem am_w211 : (am_tk 6)[121]? = some (am_cwB 211) := rfl
set_option maxRecDepth 20000 in
theorem am_w212 : (am_tk 6)[124]? = some (am_cwB 212) := rfl
set_option maxRecDepth 20000 in
theorem am_w213 : (am_tk 6)[128]? = some (am_cwB 213) := rfl
set_option maxRecDepth 20000 in
theorem am_w214 : (am_tk 6)[132]? = some (am_cwB 214) := rfl
set_option maxRecDepth 20000 in
theorem am_w215 : (am_tk 6)[136]? = some (am_cwB 215) := rfl
set_option maxRecDepth 20000 in
theorem am_w216 : (am_tk 6)[140]? = some (am_cwB 216) := rfl
set_option maxRecDepth 20000 in
theorem am_w217 : (am_tk 6)[144]? = some (am_cwB 217) := rfl
set_option maxRecDepth 20000 in
theorem am_w218 : (am_tk 6)[147]? = some (am_cwB 218) := rfl
set_option maxRecDepth 20000 in
theorem am_w219 : (am_tk 6)[151]? = some (am_cwB 219) := rfl
set_option maxRecDepth 20000 in
theorem am_w220 : (am_tk 6)[154]? = some (am_cwB 220) := rfl
set_option maxRecDepth 20000 in
theorem am_w221 : (am_tk 6)[158]? = some (am_cwB 221) := rfl
set_option maxRecDepth 20000 in
theorem am_w222 : (am_tk 6)[162]? = some (am_cwB 222) := rfl
set_option maxRecDepth 20000 in
theorem am_w223 : (am_tk 6)[165]? = some (am_cwB 223) := rfl
set_option maxRecDepth 20000 in
theorem am_w224 : (am_tk 6)[169]? = some (am_cwB 224) := rfl
set_option maxRecDepth 20000 in
theorem am_w225 : (am_tk 6)[172]? = some (am_cwB 225) := rfl
set_option maxRecDepth 20000 in
theorem am_w226 : (am_tk 6)[176]? = some (am_cwB 226) := rfl
set_option maxRecDepth 20000 in
theorem am_w227 : (am_tk 6)[179]? = some (am_cwB 227) := rfl
set_option maxRecDepth 20000 in
theorem am_w228 : (am_tk 6)[183]? = some (am_cwB 228) := rfl
set_option maxRecDepth 20000 in
theorem am_w229 : (am_tk 6)[186]? = some (am_cwB 229) := rfl
set_option maxRecDepth 20000 in
theorem am_w230 : (am_tk 6)[190]? = some (am_cwB 230) := rfl
set_option maxRecDepth 20000 in
theorem am_w231 : (am_tk 6)[193]? = some (am_cwB 231) := rfl
set_option maxRecDepth 20000 in
theorem am_w232 : (am_tk 6)[197]? = some (am_cwB 232) := rfl
set_option maxRecDepth 20000 in
theorem am_w233 : (am_tk 6)[202]? = some (am_cwB 233) := rfl
set_option maxRecDepth 20000 in
theorem am_w234 : (am_tk 6)[205]? = some (am_cwB 234) := rfl
set_option maxRecDepth 20000 in
theorem am_w235 : (am_tk 6)[209]? = some (am_cwB 235) := rfl
set_option maxRecDepth 20000 in
theorem am_w236 : (am_tk 6)[212]? = some (am_cwB 236) := rfl
set_option maxRecDepth 20000 in
theorem am_w237 : (am_tk 6)[216]? = some (am_cwB 237) := rfl
set_option maxRecDepth 20000 in
theorem am_w238 : (am_tk 6)[220]? = some (am_cwB 238) := rfl
set_option maxRecDepth 20000 in
theorem am_w239 : (am_tk 6)[224]? = some (am_cwB 239) := rfl
set_option maxRecDepth 20000 in
theorem am_w240 : (am_tk 6)[230]? = some (am_cwB 240) := rfl
set_option maxRecDepth 20000 in
theorem am_w241 : (am_tk 6)[236]? = some (am_cwB 241) := rfl
set_option maxRecDepth 20000 in
theorem am_w242 : (am_tk 7)[3]? = some (am_cwB 242) := rfl
set_option maxRecDepth 20000 in
theorem am_w243 : (am_tk 7)[8]? = some (am_cwB 243) := rfl
set_option maxRecDepth 20000 in
theorem am_w244 : (am_tk 7)[14]? = some (am_cwB 244) := rfl
set_option maxRecDepth 20000 in
theorem am_w245 : (am_tk 7)[22]? = some (am_cwB 245) := rfl
set_option maxRecDepth 20000 in
theorem am_w246 : (am_tk 7)[26]? = some (am_cwB 246) := rfl
set_option maxRecDepth 20000 in
theorem am_w247 : (am_tk 7)[35]? = some (am_cwB 247) := rfl
set_option maxRecDepth 20000 in
theorem am_w248 : (am_tk 7)[39]? = some (am_cwB 248) := rfl
set_option maxRecDepth 20000 in
theorem am_w249 : (am_tk 7)[42]? = some (am_cwB 249) := rfl
set_option maxRecDepth 20000 in
theorem am_w250 : (am_tk 7)[46]? = some (am_cwB 250) := rfl
set_option maxRecDepth 20000 in
theorem am_w251 : (am_tk 7)[49]? = some (am_cwB 251) := rfl
set_option maxRecDepth 20000 in
theorem am_w252 : (am_tk 7)[53]? = some (am_cwB 252) := rfl
set_option maxRecDepth 20000 in
theorem am_w253 : (am_tk 7)[56]? = some (am_cwB 253) := rfl
set_option maxRecDepth 20000 in
theorem am_w254 : (am_tk 7)[60]? = some (am_cwB 254) := rfl
set_option maxRecDepth 20000 in
theorem am_w255 : (am_tk 7)[63]? = some (am_cwB 255) := rfl
set_option maxRecDepth 20000 in
theorem am_w256 : (am_tk 7)[67]? = some (am_cwB 256) := rfl
set_option maxRecDepth 20000 in
theorem am_w257 : (am_tk 7)[70]? = some (am_cwB 257) := rfl
set_option maxRecDepth 20000 in
theorem am_w258 : (am_tk 7)[74]? = some (am_cwB 258) := rfl
set_option maxRecDepth 20000 in
theorem am_w259 : (am_tk 7)[78]? = some (am_cwB 259) := rfl
set_option maxRecDepth 20000 in
theorem am_w260 : (am_tk 7)[82]? = some (am_cwB 260) := rfl
set_option maxRecDepth 20000 in
theorem am_w261 : (am_tk 7)[87]? = some (am_cwB 261) := rfl
set_option maxRecDepth 20000 in
theorem am_w262 : (am_tk 9)[163]? = some (am_cwB 262) := rfl
set_option maxRecDepth 20000 in
theorem am_w263 : (am_tk 9)[167]? = some (am_cwB 263) := rfl
set_option maxRecDepth 20000 in
theorem am_w264 : (am_tk 9)[171]? = some (am_cwB 264) := rfl
set_option maxRecDepth 20000 in
theorem am_w265 : (am_tk 9)[175]? = some (am_cwB 265) := rfl
set_option maxRecDepth 20000 in
theorem am_w266 : (am_tk 9)[179]? = some (am_cwB 266) := rfl
set_option maxRecDepth 20000 in
theorem am_w267 : (am_tk 9)[183]? = some (am_cwB 267) := rfl
set_option maxRecDepth 20000 in
theorem am_w268 : (am_tk 9)[187]? = some (am_cwB 268) := rfl
set_option maxRecDepth 20000 in
theorem am_w269 : (am_tk 9)[191]? = some (am_cwB 269) := rfl
set_option maxRecDepth 20000 in
theorem am_w270 : (am_tk 9)[195]? = some (am_cwB 270) := rfl
set_option maxRecDepth 20000 in
theorem am_w271 : (am_tk 9)[199]? = some (am_cwB 271) := rfl
set_option maxRecDepth 20000 in
theorem am_w272 : (am_tk 9)[204]? = some (am_cwB 272) := rfl
set_option maxRecDepth 20000 in
theorem am_w273 : (am_tk 9)[208]? = some (am_cwB 273) := rfl
set_option maxRecDepth 20000 in
theorem am_w274 : (am_tk 9)[212]? = some (am_cwB 274) := rfl
set_option maxRecDepth 20000 in
theorem am_w275 : (am_tk 9)[216]? = some (am_cwB 275) := rfl
set_option maxRecDepth 20000 in
theorem am_w276 : (am_tk 9)[220]? = some (am_cwB 276) := rfl
set_option maxRecDepth 20000 in
theorem am_w277 : (am_tk 9)[224]? = some (am_cwB 277) := rfl
set_option maxRecDepth 20000 in
theorem am_w278 : (am_tk 9)[227]? = some (am_cwB 278) := rfl
set_option maxRecDepth 20000 in
theorem am_w279 : (am_tk 9)[231]? = some (am_cwB 279) := rfl
set_option maxRecDepth 20000 in
theorem am_w280 : (am_tk 9)[237]? = some (am_cwB 280) := rfl
set_option maxRecDepth 20000 in
theorem am_w281 : (am_tk 10)[2]? = some (am_cwB 281) := rfl
set_option maxRecDepth 20000 in
theorem am_w282 : (am_tk 10)[40]? = some (am_cwB 282) := rfl
set_option maxRecDepth 20000 in
theorem am_w283 : (am_tk 10)[44]? = some (am_cwB 283) := rfl
set_option maxRecDepth 20000 in
theorem am_w284 : (am_tk 10)[47]? = some (am_cwB 284) := rfl
set_option maxRecDepth 20000 in
theorem am_w285 : (am_tk 10)[51]? = some (am_cwB 285) := rfl
set_option maxRecDepth 20000 in
theorem am_w286 : (am_tk 10)[55]? = some (am_cwB 286) := rfl
set_option maxRecDepth 20000 in
theorem am_w287 : (am_tk 10)[59]? = some (am_cwB 287) := rfl
set_option maxRecDepth 20000 in
theorem am_w288 : (am_tk 10)[63]? = some (am_cwB 288) := rfl
set_option maxRecDepth 20000 in
theorem am_w289 : (am_tk 10)[67]? = some (am_cwB 289) := rfl
set_option maxRecDepth 20000 in
theorem am_w290 : (am_tk 10)[70]? = some (am_cwB 290) := rfl
set_option maxRecDepth 20000 in
theorem am_w291 : (am_tk 10)[74]? = some (am_cwB 291) := rfl
set_option maxRecDepth 20000 in
theorem am_w292 : (am_tk 10)[78]? = some (am_cwB 292) := rfl
set_option maxRecDepth 20000 in
theorem am_w293 : (am_tk 10)[82]? = some (am_cwB 293) := rfl
set_option maxRecDepth 20000 in
theorem am_w294 : (am_tk 10)[85]? = some (am_cwB 294) := rfl
set_option maxRecDepth 20000 in
theorem am_w295 : (am_tk 10)[89]? = some (am_cwB 295) := rfl
set_option maxRecDepth 20000 in
theorem am_w296 : (am_tk 10)[93]? = some (am_cwB 296) := rfl
set_option maxRecDepth 20000 in
theorem am_w297 : (am_tk 10)[97]? = some (am_cwB 297) := rfl
set_option maxRecDepth 20000 in
theorem am_w298 : (am_tk 10)[101]? = some (am_cwB 298) := rfl
set_option maxRecDepth 20000 in
theorem am_w299 : (am_tk 10)[109]? = some (am_cwB 299) := rfl
set_option maxRecDepth 20000 in
theorem am_w300 : (am_tk 10)[113]? = some (am_cwB 300) := rfl
set_option maxRecDepth 20000 in
theorem am_w301 : (am_tk 10)[117]? = some (am_cwB 301) := rfl
set_option maxRecDepth 20000 in
theorem am_w302 : (am_tk 10)[121]? = some (am_cwB 302) := rfl
set_option maxRecDepth 20000 in
theorem am_w303 : (am_tk 10)[125]? = some (am_cwB 303) := rfl
set_option maxRecDepth 20000 in
theorem am_w304 : (am_tk 10)[129]? = some (am_cwB 304) := rfl
set_option maxRecDepth 20000 in
theorem am_w305 : (am_tk 10)[133]? = some (am_cwB 305) := rfl
set_option maxRecDepth 20000 in
theorem am_w306 : (am_tk 10)[137]? = some (am_cwB 306) := rfl
set_option maxRecDepth 20000 in
theorem am_w307 : (am_tk 10)[141]? = some (am_cwB 307) := rfl
set_option maxRecDepth 20000 in
theorem am_w308 : (am_tk 10)[146]? = some (am_cwB 308) := rfl
set_option maxRecDepth 20000 in
theorem am_w309 : (am_tk 10)[151]? = some (am_cwB 309) := rfl
set_option maxRecDepth 20000 in
theorem am_w310 : (am_tk 10)[156]? = some (am_cwB 310) := rfl
set_option maxRecDepth 20000 in
theorem am_w311 : (am_tk 10)[160]? = some (am_cwB 311) := rfl
set_option maxRecDepth 20000 in
theorem am_w312 : (am_tk 10)[164]? = some (am_cwB 312) := rfl
set_option maxRecDepth 20000 in
theorem am_w313 : (am_tk 10)[168]? = some (am_cwB 313) := rfl
set_option maxRecDepth 20000 in
theorem am_w314 : (am_tk 10)[172]? = some (am_cwB 314) := rfl
set_option maxRecDepth 20000 in
theorem am_w315 : (am_tk 10)[176]? = some (am_cwB 315) := rfl
set_option maxRecDepth 20000 in
theorem am_w316 : (am_tk 10)[180]? = some (am_cwB 316) := rfl
set_option maxRecDepth 20000 in
theorem am_w317 : (am_tk 10)[184]? = some (am_cwB 317) := rfl
set_option maxRecDepth 20000 in
theorem am_w318 : (am_tk 10)[188]? = some (am_cwB 318) := rfl
set_option maxRecDepth 20000 in
theorem am_w319 : (am_tk 10)[193]? = some (am_cwB 319) := rfl
set_option maxRecDepth 20000 in
theorem am_w320 : (am_tk 10)[197]? = some (am_cwB 320) := rfl
set_option maxRecDepth 20000 in
theorem am_w321 : (am_tk 10)[201]? = some (am_cwB 321) := rfl
set_option maxRecDepth 20000 in
theorem am_w322 : (am_tk 10)[205]? = some (am_cwB 322) := rfl
set_option maxRecDepth 20000 in
theorem am_w323 : (am_tk 10)[209]? = some (am_cwB 323) := rfl
set_option maxRecDepth 20000 in
theorem am_w324 : (am_tk 10)[213]? = some (am_cwB 324) := rfl
set_option maxRecDepth 20000 in
theorem am_w325 : (am_tk 10)[217]? = some (am_cwB 325) := rfl
set_option maxRecDepth 20000 in
theorem am_w326 : (am_tk 10)[220]? = some (am_cwB 326) := rfl
set_option maxRecDepth 20000 in
theorem am_w327 : (am_tk 10)[224]? = some (am_cwB 327) := rfl
set_option maxRecDepth 20000 in
theorem am_w328 : (am_tk 10)[229]? = some (am_cwB 328) := rfl
set_option maxRecDepth 20000 in
theorem am_w329 : (am_tk 10)[234]? = some (am_cwB 329) := rfl
set_option maxRecDepth 20000 in
theorem am_w330 : (am_tk 10)[238]? = some (am_cwB 330) := rfl
set_option maxRecDepth 20000 in
theorem am_w331 : (am_tk 11)[2]? = some (am_cwB 331) := rfl
set_option maxRecDepth 20000 in
theorem am_w332 : (am_tk 11)[6]? = some (am_cwB 332) := rfl
set_option maxRecDepth 20000 in
theorem am_w333 : (am_tk 11)[9]? = some (am_cwB 333) := rfl
set_option maxRecDepth 20000 in
theorem am_w334 : (am_tk 11)[13]? = some (am_cwB 334) := rfl
set_option maxRecDepth 20000 in
theorem am_w335 : (am_tk 11)[17]? = some (am_cwB 335) := rfl
set_option maxRecDepth 20000 in
theorem am_w336 : (am_tk 11)[21]? = some (am_cwB 336) := rfl
set_option maxRecDepth 20000 in
theorem am_w337 : (am_tk 11)[25]? = some (am_cwB 337) := rfl
set_option maxRecDepth 20000 in
theorem am_w338 : (am_tk 11)[29]? = some (am_cwB 338) := rfl
set_option maxRecDepth 20000 in
theorem am_w339 : (am_tk 11)[32]? = some (am_cwB 339) := rfl
set_option maxRecDepth 20000 in
theorem am_w340 : (am_tk 11)[36]? = some (am_cwB 340) := rfl
set_option maxRecDepth 20000 in
theorem am_w341 : (am_tk 11)[40]? = some (am_cwB 341) := rfl
set_option maxRecDepth 20000 in
theorem am_w342 : (am_tk 11)[44]? = some (am_cwB 342) := rfl
set_option maxRecDepth 20000 in
theorem am_w343 : (am_tk 11)[48]? = some (am_cwB 343) := rfl
set_option maxRecDepth 20000 in
theorem am_w344 : (am_tk 11)[52]? = some (am_cwB 344) := rfl
set_option maxRecDepth 20000 in
theorem am_w345 : (am_tk 11)[56]? = some (am_cwB 345) := rfl
set_option maxRecDepth 20000 in
theorem am_w346 : (am_tk 11)[60]? = some (am_cwB 346) := rfl
set_option maxRecDepth 20000 in
theorem am_w347 : (am_tk 11)[64]? = some (am_cwB 347) := rfl
set_option maxRecDepth 20000 in
theorem am_w348 : (am_tk 11)[68]? = some (am_cwB 348) := rfl
set_option maxRecDepth 20000 in
theorem am_w349 : (am_tk 11)[72]? = some (am_cwB 349) := rfl
set_option maxRecDepth 20000 in
theorem am_w350 : (am_tk 11)[76]? = some (am_cwB 350) := rfl
set_option maxRecDepth 20000 in
theorem am_w351 : (am_tk 11)[80]? = some (am_cwB 351) := rfl
set_option maxRecDepth 20000 in
theorem am_w352 : (am_tk 11)[85]? = some (am_cwB 352) := rfl
set_option maxRecDepth 20000 in
theorem am_w353 : (am_tk 11)[89]? = some (am_cwB 353) := rfl
set_option maxRecDepth 20000 in
theorem am_w354 : (am_tk 11)[93]? = some (am_cwB 354) := rfl
set_option maxRecDepth 20000 in
theorem am_w355 : (am_tk 11)[97]? = some (am_cwB 355) := rfl
set_option maxRecDepth 20000 in
theorem am_w356 : (am_tk 11)[101]? = some (am_cwB 356) := rfl
set_option maxRecDepth 20000 in
theorem am_w357 : (am_tk 11)[105]? = some (am_cwB 357) := rfl
set_option maxRecDepth 20000 in
theorem am_w358 : (am_tk 11)[109]? = some (am_cwB 358) := rfl
set_option maxRecDepth 20000 in
theorem am_w359 : (am_tk 11)[113]? = some (am_cwB 359) := rfl
set_option maxRecDepth 20000 in
theorem am_w360 : (am_tk 11)[117]? = some (am_cwB 360) := rfl
set_option maxRecDepth 20000 in
theorem am_w361 : (am_tk 11)[121]? = some (am_cwB 361) := rfl
set_option maxRecDepth 20000 in
theorem am_w362 : (am_tk 11)[125]? = some (am_cwB 362) := rfl
set_option maxRecDepth 20000 in
theorem am_w363 : (am_tk 11)[129]? = some (am_cwB 363) := rfl
set_option maxRecDepth 20000 in
theorem am_w364 : (am_tk 11)[133]? = some (am_cwB 364) := rfl
set_option maxRecDepth 20000 in
theorem am_w365 : (am_tk 11)[137]? = some (am_cwB 365) := rfl
set_option maxRecDepth 20000 in
theorem am_w366 : (am_tk 11)[141]? = some (am_cwB 366) := rfl
set_option maxRecDepth 20000 in
theorem am_w367 : (am_tk 11)[145]? = some (am_cwB 367) := rfl
set_option maxRecDepth 20000 in
theorem am_w368 : (am_tk 11)[149]? = some (am_cwB 368) := rfl
set_option maxRecDepth 20000 in
theorem am_w369 : (am_tk 11)[153]? = some (am_cwB 369) := rfl
set_option maxRecDepth 20000 in
theorem am_w370 : (am_tk 11)[157]? = some (am_cwB 370) := rfl
set_option maxRecDepth 20000 in
theorem am_w371 : (am_tk 11)[161]? = some (am_cwB 371) := rfl
set_option maxRecDepth 20000 in
theorem am_w372 : (am_tk 11)[165]? = some (am_cwB 372) := rfl
set_option maxRecDepth 20000 in
theorem am_w373 : (am_tk 11)[169]? = some (am_cwB 373) := rfl
set_option maxRecDepth 20000 in
theorem am_w374 : (am_tk 11)[173]? = some (am_cwB 374) := rfl
set_option maxRecDepth 20000 in
theorem am_w375 : (am_tk 11)[177]? = some (am_cwB 375) := rfl
set_option maxRecDepth 20000 in
theorem am_w376 : (am_tk 11)[181]? = some (am_cwB 376) := rfl
set_option maxRecDepth 20000 in
theorem am_w377 : (am_tk 11)[185]? = some (am_cwB 377) := rfl
set_option maxRecDepth 20000 in
theorem am_w378 : (am_tk 11)[189]? = some (am_cwB 378) := rfl
set_option maxRecDepth 20000 in
theorem am_w379 : (am_tk 11)[193]? = some (am_cwB 379) := rfl
set_option maxRecDepth 20000 in
theorem am_w380 : (am_tk 11)[197]? = some (am_cwB 380) := rfl
set_option maxRecDepth 20000 in
theorem am_w381 : (am_tk 11)[201]? = some (am_cwB 381) := rfl
set_option maxRecDepth 20000 in
theorem am_w382 : (am_tk 11)[205]? = some (am_cwB 382) := rfl
set_option maxRecDepth 20000 in
theorem am_w383 : (am_tk 11)[208]? = some (am_cwB 383) := rfl
set_option maxRecDepth 20000 in
theorem am_w384 : (am_tk 11)[212]? = some (am_cwB 384) := rfl
set_option maxRecDepth 20000 in
theorem am_w385 : (am_tk 11)[216]? = some (am_cwB 385) := rfl
set_option maxRecDepth 20000 in
theorem am_w386 : (am_tk 11)[220]? = some (am_cwB 386) := rfl
set_option maxRecDepth 20000 in
theorem am_w387 : (am_tk 11)[224]? = some (am_cwB 387) := rfl
set_option maxRecDepth 20000 in
theorem am_w388 : (am_tk 11)[228]? = some (am_cwB 388) := rfl
set_option maxRecDepth 20000 in
theorem am_w389 : (am_tk 11)[232]? = some (am_cwB 389) := rfl
set_option maxRecDepth 20000 in
theorem am_w390 : (am_tk 11)[236]? = some (am_cwB 390) := rfl
set_option maxRecDepth 20000 in
theorem am_w391 : (am_tk 12)[0]? = some (am_cwB 391) := rfl
set_option maxRecDepth 20000 in
theorem am_w392 : (am_tk 12)[4]? = some (am_cwB 392) := rfl
set_option maxRecDepth 20000 in
theorem am_w393 : (am_tk 12)[8]? = some (am_cwB 393) := rfl
set_option maxRecDepth 20000 in
theorem am_w394 : (am_tk 12)[12]? = some (am_cwB 394) := rfl
set_option maxRecDepth 20000 in
theorem am_w395 : (am_tk 12)[16]? = some (am_cwB 395) := rfl
set_option maxRecDepth 20000 in
theorem am_w396 : (am_tk 12)[20]? = some (am_cwB 396) := rfl
set_option maxRecDepth 20000 in
theorem am_w397 : (am_tk 12)[25]? = some (am_cwB 397) := rfl
set_option maxRecDepth 20000 in
theorem am_w398 : (am_tk 12)[29]? = some (am_cwB 398) := rfl
set_option maxRecDepth 20000 in
theorem am_w399 : (am_tk 12)[32]? = some (am_cwB 399) := rfl
set_option maxRecDepth 20000 in
theorem am_w400 : (am_tk 12)[36]? = some (am_cwB 400) := rfl
set_option maxRecDepth 20000 in
theorem am_w401 : (am_tk 12)[40]? = some (am_cwB 401) := rfl
set_option maxRecDepth 20000 in
theorem am_w402 : (am_tk 12)[45]? = some (am_cwB 402) := rfl
set_option maxRecDepth 20000 in
theorem am_w403 : (am_tk 12)[49]? = some (am_cwB 403) := rfl
set_option maxRecDepth 20000 in
theorem am_w404 : (am_tk 12)[53]? = some (am_cwB 404) := rfl
set_option maxRecDepth 20000 in
theorem am_w405 : (am_tk 12)[57]? = some (am_cwB 405) := rfl
set_option maxRecDepth 20000 in
theorem am_w406 : (am_tk 12)[61]? = some (am_cwB 406) := rfl
set_option maxRecDepth 20000 in
theorem am_w407 : (am_tk 12)[65]? = some (am_cwB 407) := rfl
set_option maxRecDepth 20000 in
theorem am_w408 : (am_tk 12)[69]? = some (am_cwB 408) := rfl
set_option maxRecDepth 20000 in
theorem am_w409 : (am_tk 12)[73]? = some (am_cwB 409) := rfl
set_option maxRecDepth 20000 in
theorem am_w410 : (am_tk 12)[77]? = some (am_cwB 410) := rfl
set_option maxRecDepth 20000 in
theorem am_w411 : (am_tk 12)[81]? = some (am_cwB 411) := rfl
set_option maxRecDepth 20000 in
theorem am_w412 : (am_tk 12)[85]? = some (am_cwB 412) := rfl
set_option maxRecDepth 20000 in
theorem am_w413 : (am_tk 12)[89]? = some (am_cwB 413) := rfl
set_option maxRecDepth 20000 in
theorem am_w414 : (am_tk 12)[93]? = some (am_cwB 414) := rfl
set_option maxRecDepth 20000 in
theorem am_w415 : (am_tk 12)[97]? = some (am_cwB 415) := rfl
set_option maxRecDepth 20000 in
theorem am_w416 : (am_tk 12)[101]? = some (am_cwB 416) := rfl
set_option maxRecDepth 20000 in
theorem am_w417 : (am_tk 12)[105]? = some (am_cwB 417) := rfl
set_option maxRecDepth 20000 in
theorem am_w418 : (am_tk 12)[109]? = some (am_cwB 418) := rfl
set_option maxRecDepth 20000 in
theorem am_w419 : (am_tk 12)[114]? = some (am_cwB 419) := rfl
set_option maxRecDepth 20000 in
theorem am_w420 : (am_tk 12)[118]? = some (am_cwB 420) := rfl
set_option maxRecDepth 20000 in
theorem am_w421 : (am_tk 12)[122]? = some (am_cwB 421) := rfl
set_option maxRecDepth 20000 in
theorem am_w422 : (am_tk 12)[126]? = some (am_cwB 422) := rfl
set_option maxRecDepth 20000 in
theorem am_w423 : (am_tk 12)[130]? = some (am_cwB 423) := rfl
set_option maxRecDepth 20000 in
theorem am_w424 : (am_tk 12)[134]? = some (am_cwB 424) := rfl
set_option maxRecDepth 20000 in
theorem am_w425 : (am_tk 12)[138]? = some (am_cwB 425) := rfl
set_option maxRecDepth 20000 in
theorem am_w426 : (am_tk 12)[142]? = some (am_cwB 426) := rfl
set_option maxRecDepth 20000 in
theorem am_w427 : (am_tk 12)[146]? = some (am_cwB 427) := rfl
set_option maxRecDepth 20000 in
theorem am_w428 : (am_tk 12)[150]? = some (am_cwB 428) := rfl
set_option maxRecDepth 20000 in
theorem am_w429 : (am_tk 12)[156]? = some (am_cwB 429) := rfl
set_option maxRecDepth 20000 in
theorem am_w430 : (am_tk 12)[160]? = some (am_cwB 430) := rfl
set_option maxRecDepth 20000 in
theorem am_w431 : (am_tk 12)[164]? = some (am_cwB 431) := rfl
set_option maxRecDepth 20000 in
theorem am_w432 : (am_tk 12)[168]? = some (am_cwB 432) := rfl
set_option maxRecDepth 20000 in
theorem am_w433 : (am_tk 12)[172]? = some (am_cwB 433) := rfl
set_option maxRecDepth 20000 in
theorem am_w434 : (am_tk 12)[176]? = some (am_cwB 434) := rfl
set_option maxRecDepth 20000 in
theorem am_w435 : (am_tk 12)[180]? = some (am_cwB 435) := rfl
set_option maxRecDepth 20000 in
theorem am_w436 : (am_tk 12)[184]? = some (am_cwB 436) := rfl
set_option maxRecDepth 20000 in
theorem am_w437 : (am_tk 12)[188]? = some (am_cwB 437) := rfl
set_option maxRecDepth 20000 in
theorem am_w438 : (am_tk 12)[192]? = some (am_cwB 438) := rfl
set_option maxRecDepth 20000 in
theorem am_w439 : (am_tk 12)[198]? = some (am_cwB 439) := rfl
set_option maxRecDepth 20000 in
theorem am_w440 : (am_tk 12)[202]? = some (am_cwB 440) := rfl
set_option maxRecDepth 20000 in
theorem am_w441 : (am_tk 12)[206]? = some (am_cwB 441) := rfl
set_option maxRecDepth 20000 in
theorem am_w442 : (am_tk 12)[211]? = some (am_cwB 442) := rfl
set_option maxRecDepth 20000 in
theorem am_w443 : (am_tk 12)[215]? = some (am_cwB 443) := rfl
set_option maxRecDepth 20000 in
theorem am_w444 : (am_tk 12)[219]? = some (am_cwB 444) := rfl
set_option maxRecDepth 20000 in
theorem am_w445 : (am_tk 12)[223]? = some (am_cwB 445) := rfl
set_option maxRecDepth 20000 in
theorem am_w446 : (am_tk 12)[227]? = some (am_cwB 446) := rfl
set_option maxRecDepth 20000 in
theorem am_w447 : (am_tk 12)[230]? = some (am_cwB 447) := rfl
set_option maxRecDepth 20000 in
theorem am_w448 : (am_tk 12)[234]? = some (am_cwB 448) := rfl
set_option maxRecDepth 20000 in
theorem am_w449 : (am_tk 12)[238]? = some (am_cwB 449) := rfl
set_option maxRecDepth 20000 in
theorem am_w450 : (am_tk 13)[1]? = some (am_cwB 450) := rfl
set_option maxRecDepth 20000 in
theorem am_w451 : (am_tk 13)[5]? = some (am_cwB 451) := rfl
theorem am_okm0 : ∀ j, j < 32 → am_cm1 (0 + j) = true := by decide +kernel
theorem am_okm1 : ∀ j, j < 32 → am_cm1 (32 + j) = true := by decide +kernel
theorem am_okm2 : ∀ j, j < 32 → am_cm1 (64 + j) = true := by decide +kernel
theorem am_okm3 : ∀ j, j < 32 → am_cm1 (96 + j) = true := by decide +kernel
theorem am_okm4 : ∀ j, j < 32 → am_cm1 (128 + j) = true := by decide +kernel
theorem am_okm5 : ∀ j, j < 32 → am_cm1 (160 + j) = true := by decide +kernel
theorem am_okm6 : ∀ j, j < 32 → am_cm1 (192 + j) = true := by decide +kernel
theorem am_okm7 : ∀ j, j < 32 → am_cm1 (224 + j) = true := by decide +kernel
theorem am_okm8 : ∀ j, j < 32 → am_cm1 (256 + j) = true := by decide +kernel
theorem am_okm9 : ∀ j, j < 32 → am_cm1 (288 + j) = true := by decide +kernel
theorem am_okm10 : ∀ j, j < 32 → am_cm1 (320 + j) = true := by decide +kernel
theorem am_okm11 : ∀ j, j < 32 → am_cm1 (352 + j) = true := by decide +kernel
theorem am_okm12 : ∀ j, j < 32 → am_cm1 (384 + j) = true := by decide +kernel
theorem am_okm13 : ∀ j, j < 32 → am_cm1 (416 + j) = true := by decide +kernel
theorem am_okm14 : ∀ j, j < 4 → am_cm1 (448 + j) = true := by decide +kernel
theorem am_okm : ∀ M, M < 452 → am_cm1 M = true := by
  intro M hM
  rcases Nat.lt_or_ge M 32 with z | z
  · have := am_okm0 (M - 0) (by omega); rwa [show 0 + (M - 0) = M by omega] at this
  rcases Nat.lt_or_ge M 64 with z | z
  · have := am_okm1 (M - 32) (by omega); rwa [show 32 + (M - 32) = M by omega] at this
  rcases Nat.lt_or_ge M 96 with z | z
  · have := am_okm2 (M - 64) (by omega); rwa [show 64 + (M - 64) = M by omega] at this
  rcases Nat.lt_or_ge M 128 with z | z
  · have := am_okm3 (M - 96) (by omega); rwa [show 96 + (M - 96) = M by omega] at this
  rcases Nat.lt_or_ge M 160 with z | z
  · have := am_okm4 (M - 128) (by omega); rwa [show 128 + (M - 128) = M by omega] at this
  rcases Nat.lt_or_ge M 192 with z | z
  · have := am_okm5 (M - 160) (by omega); rwa [show 160 + (M - 160) = M by omega] at this
  rcases Nat.lt_or_ge M 224 with z | z
  · have := am_okm6 (M - 192) (by omega); rwa [show 192 + (M - 192) = M by omega] at this
  rcases Nat.lt_or_ge M 256 with z | z
  · have := am_okm7 (M - 224) (by omega); rwa [show 224 + (M - 224) = M by omega] at this
  rcases Nat.lt_or_ge M 288 with z | z
  · have := am_okm8 (M - 256) (by omega); rwa [show 256 + (M - 256) = M by omega] at this
  rcases Nat.lt_or_ge M 320 with z | z
  · have := am_okm9 (M - 288) (by omega); rwa [show 288 + (M - 288) = M by omega] at this
  rcases Nat.lt_or_ge M 352 with z | z
  · have := am_okm10 (M - 320) (by omega); rwa [show 320 + (M - 320) = M by omega] at this
  rcases Nat.lt_or_ge M 384 with z | z
  · have := am_okm11 (M - 352) (by omega); rwa [show 352 + (M - 352) = M by omega] at this
  rcases Nat.lt_or_ge M 416 with z | z
  · have := am_okm12 (M - 384) (by omega); rwa [show 384 + (M - 384) = M by omega] at this
  rcases Nat.lt_or_ge M 448 with z | z
  · have := am_okm13 (M - 416) (by omega); rwa [show 416 + (M - 416) = M by omega] at this
  rcases Nat.lt_or_ge M 452 with z | z
  · have := am_okm14 (M - 448) (by omega); rwa [show 448 + (M - 448) = M by omega] at this
  · omega
set_option maxRecDepth 20000 in
theorem am_cnok : ∀ M, M < 453 → am_cs (am_cn M) = (am_nam M).cls ∧ plainName (am_nam M).cls = true := by decide +kernel
