theorem flL_141 : Cond.methodLink RL 141 yX11_honest ∈ jm_tbl := jm_in (tb5 (List.mem_of_getElem? (i := 162) rfl)) rfl
theorem flL_145 : Cond.methodLink RL 145 yX12_honest ∈ jm_tbl := jm_in (tb9 (List.mem_of_getElem? (i := 4) rfl)) rfl
theorem flL_146 : Cond.methodLink RL 146 yX11_mended ∈ jm_tbl := jm_in (tb5 (List.mem_of_getElem? (i := 173) rfl)) rfl
theorem flL_150 : Cond.methodLink RL 150 yX12_mended ∈ jm_tbl := jm_in (tb9 (List.mem_of_getElem? (i := 8) rfl)) rfl
theorem flL_151 : Cond.methodLink RL 151 yX11_mark ∈ jm_tbl := jm_in (tb5 (List.mem_of_getElem? (i := 209) rfl)) rfl
theorem flL_154 : Cond.methodLink RL 154 yX12_mark ∈ jm_tbl := jm_in (tb9 (List.mem_of_getElem? (i := 20) rfl)) rfl
theorem flL_155 : Cond.methodLink RL 155 yX11_count ∈ jm_tbl := jm_in (tb6 (List.mem_of_getElem? (i := 19) rfl)) rfl
theorem flL_158 : Cond.methodLink RL 158 yX12_count ∈ jm_tbl := jm_in (tb9 (List.mem_of_getElem? (i := 32) rfl)) rfl
theorem flX12_1 : Cond.methodLink RX12 1 Lib.objectInit ∈ jm_tbl := jm_in (tb6 (List.mem_of_getElem? (i := 105) rfl)) rfl
theorem flX12_7 : Cond.fieldLink RX12 7 (TX12 1).1 (TX12 1).2.1 (TX12 1).2.2.1 ∈ jm_tbl := jm_in (tb6 (List.mem_of_getElem? (i := 107) rfl)) rfl
theorem flX12_13 : Cond.fieldLink RX12 13 (TX12 2).1 (TX12 2).2.1 (TX12 2).2.2.1 ∈ jm_tbl := jm_in (tb6 (List.mem_of_getElem? (i := 108) rfl)) rfl
theorem flX12_17 : Cond.fieldLink RX12 17 (TX12 3).1 (TX12 3).2.1 (TX12 3).2.2.1 ∈ jm_tbl := jm_in (tb6 (List.mem_of_getElem? (i := 109) rfl)) rfl
theorem flX12_20 : Cond.fieldLink RX12 20 (TX12 4).1 (TX12 4).2.1 (TX12 4).2.2.1 ∈ jm_tbl := jm_in (tb6 (List.mem_of_getElem? (i := 110) rfl)) rfl
theorem flX12_23 : Cond.fieldLink RX12 23 (TX12 5).1 (TX12 5).2.1 (TX12 5).2.2.1 ∈ jm_tbl := jm_in (tb6 (List.mem_of_getElem? (i := 111) rfl)) rfl
theorem flX12_26 : Cond.fieldLink RX12 26 (TX12 6).1 (TX12 6).2.1 (TX12 6).2.2.1 ∈ jm_tbl := jm_in (tb6 (List.mem_of_getElem? (i := 112) rfl)) rfl
theorem flX12_29 : Cond.fieldLink RX12 29 (TX12 7).1 (TX12 7).2.1 (TX12 7).2.2.1 ∈ jm_tbl := jm_in (tb6 (List.mem_of_getElem? (i := 113) rfl)) rfl
theorem flX12_32 : Cond.fieldLink RX12 32 (TX12 10).1 (TX12 10).2.1 (TX12 10).2.2.1 ∈ jm_tbl := jm_in (tb6 (List.mem_of_getElem? (i := 116) rfl)) rfl
theorem flX12_35 : Cond.fieldLink RX12 35 (TX12 19).1 (TX12 19).2.1 (TX12 19).2.2.1 ∈ jm_tbl := jm_in (tb6 (List.mem_of_getElem? (i := 125) rfl)) rfl
theorem flX12_38 : Cond.fieldLink RX12 38 (TX12 20).1 (TX12 20).2.1 (TX12 20).2.2.1 ∈ jm_tbl := jm_in (tb6 (List.mem_of_getElem? (i := 126) rfl)) rfl
theorem flX12_41 : Cond.fieldLink RX12 41 (TX12 21).1 (TX12 21).2.1 (TX12 21).2.2.1 ∈ jm_tbl := jm_in (tb6 (List.mem_of_getElem? (i := 127) rfl)) rfl
theorem flX12_44 : Cond.fieldLink RX12 44 (TX12 22).1 (TX12 22).2.1 (TX12 22).2.2.1 ∈ jm_tbl := jm_in (tb6 (List.mem_of_getElem? (i := 128) rfl)) rfl
theorem flX12_47 : Cond.fieldLink RX12 47 (TX12 23).1 (TX12 23).2.1 (TX12 23).2.2.1 ∈ jm_tbl := jm_in (tb6 (List.mem_of_getElem? (i := 129) rfl)) rfl
theorem flX12_50 : Cond.fieldLink RX12 50 (TX12 24).1 (TX12 24).2.1 (TX12 24).2.2.1 ∈ jm_tbl := jm_in (tb6 (List.mem_of_getElem? (i := 130) rfl)) rfl
theorem flX12_53 : Cond.fieldLink RX12 53 (TX12 25).1 (TX12 25).2.1 (TX12 25).2.2.1 ∈ jm_tbl := jm_in (tb6 (List.mem_of_getElem? (i := 131) rfl)) rfl
theorem flX12_56 : Cond.fieldLink RX12 56 (TX12 26).1 (TX12 26).2.1 (TX12 26).2.2.1 ∈ jm_tbl := jm_in (tb6 (List.mem_of_getElem? (i := 132) rfl)) rfl
theorem flX12_59 : Cond.fieldLink RX12 59 (TX12 27).1 (TX12 27).2.1 (TX12 27).2.2.1 ∈ jm_tbl := jm_in (tb6 (List.mem_of_getElem? (i := 133) rfl)) rfl
theorem flX12_62 : Cond.fieldLink RX12 62 (TX12 31).1 (TX12 31).2.1 (TX12 31).2.2.1 ∈ jm_tbl := jm_in (tb6 (List.mem_of_getElem? (i := 137) rfl)) rfl
theorem flX12_65 : Cond.fieldLink RX12 65 (TX12 32).1 (TX12 32).2.1 (TX12 32).2.2.1 ∈ jm_tbl := jm_in (tb6 (List.mem_of_getElem? (i := 138) rfl)) rfl
theorem flX12_68 : Cond.fieldLink RX12 68 (TX12 36).1 (TX12 36).2.1 (TX12 36).2.2.1 ∈ jm_tbl := jm_in (tb6 (List.mem_of_getElem? (i := 142) rfl)) rfl
theorem flX12_71 : Cond.fieldLink RX12 71 (TX12 37).1 (TX12 37).2.1 (TX12 37).2.2.1 ∈ jm_tbl := jm_in (tb6 (List.mem_of_getElem? (i := 143) rfl)) rfl
theorem flX12_74 : Cond.fieldLink RX12 74 (TX12 38).1 (TX12 38).2.1 (TX12 38).2.2.1 ∈ jm_tbl := jm_in (tb6 (List.mem_of_getElem? (i := 144) rfl)) rfl
theorem flX12_77 : Cond.fieldLink RX12 77 (TX12 39).1 (TX12 39).2.1 (TX12 39).2.2.1 ∈ jm_tbl := jm_in (tb6 (List.mem_of_getElem? (i := 145) rfl)) rfl
theorem flX12_80 : Cond.fieldLink RX12 80 (TX12 40).1 (TX12 40).2.1 (TX12 40).2.2.1 ∈ jm_tbl := jm_in (tb6 (List.mem_of_getElem? (i := 146) rfl)) rfl
theorem flX12_83 : Cond.fieldLink RX12 83 (TX12 41).1 (TX12 41).2.1 (TX12 41).2.2.1 ∈ jm_tbl := jm_in (tb6 (List.mem_of_getElem? (i := 147) rfl)) rfl
theorem flX12_86 : Cond.fieldLink RX12 86 (TX12 42).1 (TX12 42).2.1 (TX12 42).2.2.1 ∈ jm_tbl := jm_in (tb6 (List.mem_of_getElem? (i := 148) rfl)) rfl
theorem flX12_89 : Cond.fieldLink RX12 89 (TX12 43).1 (TX12 43).2.1 (TX12 43).2.2.1 ∈ jm_tbl := jm_in (tb6 (List.mem_of_getElem? (i := 149) rfl)) rfl
theorem flX12_92 : Cond.fieldLink RX12 92 (TX12 44).1 (TX12 44).2.1 (TX12 44).2.2.1 ∈ jm_tbl := jm_in (tb6 (List.mem_of_getElem? (i := 150) rfl)) rfl
theorem flX12_95 : Cond.fieldLink RX12 95 (TX12 45).1 (TX12 45).2.1 (TX12 45).2.2.1 ∈ jm_tbl := jm_in (tb6 (List.mem_of_getElem? (i := 151) rfl)) rfl
theorem flX12_98 : Cond.fieldLink RX12 98 (TX12 53).1 (TX12 53).2.1 (TX12 53).2.2.1 ∈ jm_tbl := jm_in (tb6 (List.mem_of_getElem? (i := 159) rfl)) rfl
theorem flX12_101 : Cond.fieldLink RX12 101 (TX12 54).1 (TX12 54).2.1 (TX12 54).2.2.1 ∈ jm_tbl := jm_in (tb6 (List.mem_of_getElem? (i := 160) rfl)) rfl
theorem flX12_104 : Cond.fieldLink RX12 104 (TX12 55).1 (TX12 55).2.1 (TX12 55).2.2.1 ∈ jm_tbl := jm_in (tb6 (List.mem_of_getElem? (i := 161) rfl)) rfl
theorem flX12_107 : Cond.fieldLink RX12 107 (TX12 56).1 (TX12 56).2.1 (TX12 56).2.2.1 ∈ jm_tbl := jm_in (tb6 (List.mem_of_getElem? (i := 162) rfl)) rfl
theorem flX12_110 : Cond.fieldLink RX12 110 (TX12 57).1 (TX12 57).2.1 (TX12 57).2.2.1 ∈ jm_tbl := jm_in (tb6 (List.mem_of_getElem? (i := 163) rfl)) rfl
theorem flX12_113 : Cond.fieldLink RX12 113 (TX12 58).1 (TX12 58).2.1 (TX12 58).2.2.1 ∈ jm_tbl := jm_in (tb6 (List.mem_of_getElem? (i := 164) rfl)) rfl
theorem flX12_116 : Cond.fieldLink RX12 116 (TX12 59).1 (TX12 59).2.1 (TX12 59).2.2.1 ∈ jm_tbl := jm_in (tb6 (List.mem_of_getElem? (i := 165) rfl)) rfl
theorem flX12_119 : Cond.fieldLink RX12 119 (TX12 60).1 (TX12 60).2.1 (TX12 60).2.2.1 ∈ jm_tbl := jm_in (tb6 (List.mem_of_getElem? (i := 166) rfl)) rfl
theorem flX12_122 : Cond.fieldLink RX12 122 (TX12 61).1 (TX12 61).2.1 (TX12 61).2.2.1 ∈ jm_tbl := jm_in (tb6 (List.mem_of_getElem? (i := 167) rfl)) rfl
theorem flX12_125 : Cond.fieldLink RX12 125 (TX12 62).1 (TX12 62).2.1 (TX12 62).2.2.1 ∈ jm_tbl := jm_in (tb6 (List.mem_of_getElem? (i := 168) rfl)) rfl
theorem flX12_128 : Cond.fieldLink RX12 128 (TX12 63).1 (TX12 63).2.1 (TX12 63).2.2.1 ∈ jm_tbl := jm_in (tb6 (List.mem_of_getElem? (i := 169) rfl)) rfl
theorem flX12_131 : Cond.fieldLink RX12 131 (TX12 64).1 (TX12 64).2.1 (TX12 64).2.2.1 ∈ jm_tbl := jm_in (tb6 (List.mem_of_getElem? (i := 170) rfl)) rfl
theorem flX12_134 : Cond.fieldLink RX12 134 (TX12 65).1 (TX12 65).2.1 (TX12 65).2.2.1 ∈ jm_tbl := jm_in (tb6 (List.mem_of_getElem? (i := 171) rfl)) rfl
theorem flX12_137 : Cond.fieldLink RX12 137 (TX12 66).1 (TX12 66).2.1 (TX12 66).2.2.1 ∈ jm_tbl := jm_in (tb6 (List.mem_of_getElem? (i := 172) rfl)) rfl
theorem flX12_140 : Cond.fieldLink RX12 140 (TX12 67).1 (TX12 67).2.1 (TX12 67).2.2.1 ∈ jm_tbl := jm_in (tb6 (List.mem_of_getElem? (i := 173) rfl)) rfl
theorem flX12_143 : Cond.fieldLink RX12 143 (TX12 68).1 (TX12 68).2.1 (TX12 68).2.2.1 ∈ jm_tbl := jm_in (tb6 (List.mem_of_getElem? (i := 174) rfl)) rfl
theorem flX12_146 : Cond.fieldLink RX12 146 (TX12 69).1 (TX12 69).2.1 (TX12 69).2.2.1 ∈ jm_tbl := jm_in (tb6 (List.mem_of_getElem? (i := 175) rfl)) rfl
theorem flX12_149 : Cond.fieldLink RX12 149 (TX12 70).1 (TX12 70).2.1 (TX12 70).2.2.1 ∈ jm_tbl := jm_in (tb6 (List.mem_of_getElem? (i := 176) rfl)) rfl
theorem flX12_152 : Cond.fieldLink RX12 152 (TX12 71).1 (TX12 71).2.1 (TX12 71).2.2.1 ∈ jm_tbl := jm_in (tb6 (List.mem_of_getElem? (i := 177) rfl)) rfl
theorem flX12_155 : Cond.fieldLink RX12 155 (TX12 72).1 (TX12 72).2.1 (TX12 72).2.2.1 ∈ jm_tbl := jm_in (tb6 (List.mem_of_getElem? (i := 178) rfl)) rfl
theorem flX12_158 : Cond.fieldLink RX12 158 (TX12 73).1 (TX12 73).2.1 (TX12 73).2.2.1 ∈ jm_tbl := jm_in (tb6 (List.mem_of_getElem? (i := 179) rfl)) rfl
theorem flX12_161 : Cond.fieldLink RX12 161 (TX12 74).1 (TX12 74).2.1 (TX12 74).2.2.1 ∈ jm_tbl := jm_in (tb6 (List.mem_of_getElem? (i := 180) rfl)) rfl
theorem flX12_164 : Cond.fieldLink RX12 164 (TX12 75).1 (TX12 75).2.1 (TX12 75).2.2.1 ∈ jm_tbl := jm_in (tb6 (List.mem_of_getElem? (i := 181) rfl)) rfl
theorem flX12_167 : Cond.fieldLink RX12 167 (TX12 79).1 (TX12 79).2.1 (TX12 79).2.2.1 ∈ jm_tbl := jm_in (tb6 (List.mem_of_getElem? (i := 185) rfl)) rfl
theorem flX12_170 : Cond.fieldLink RX12 170 (TX12 80).1 (TX12 80).2.1 (TX12 80).2.2.1 ∈ jm_tbl := jm_in (tb6 (List.mem_of_getElem? (i := 186) rfl)) rfl
theorem flX12_173 : Cond.fieldLink RX12 173 (TX12 82).1 (TX12 82).2.1 (TX12 82).2.2.1 ∈ jm_tbl := jm_in (tb6 (List.mem_of_getElem? (i := 188) rfl)) rfl
theorem flX12_176 : Cond.fieldLink RX12 176 (TX12 83).1 (TX12 83).2.1 (TX12 83).2.2.1 ∈ jm_tbl := jm_in (tb6 (List.mem_of_getElem? (i := 189) rfl)) rfl
theorem flX12_179 : Cond.fieldLink RX12 179 (TX12 84).1 (TX12 84).2.1 (TX12 84).2.2.1 ∈ jm_tbl := jm_in (tb6 (List.mem_of_getElem? (i := 190) rfl)) rfl
theorem flX12_182 : Cond.fieldLink RX12 182 (TX12 85).1 (TX12 85).2.1 (TX12 85).2.2.1 ∈ jm_tbl := jm_in (tb6 (List.mem_of_getElem? (i := 191) rfl)) rfl
theorem flX12_185 : Cond.fieldLink RX12 185 (TX12 86).1 (TX12 86).2.1 (TX12 86).2.2.1 ∈ jm_tbl := jm_in (tb6 (List.mem_of_getElem? (i := 192) rfl)) rfl
theorem flX12_188 : Cond.fieldLink RX12 188 (TX12 87).1 (TX12 87).2.1 (TX12 87).2.2.1 ∈ jm_tbl := jm_in (tb6 (List.mem_of_getElem? (i := 193) rfl)) rfl
theorem flX12_191 : Cond.fieldLink RX12 191 (TX12 89).1 (TX12 89).2.1 (TX12 89).2.2.1 ∈ jm_tbl := jm_in (tb6 (List.mem_of_getElem? (i := 195) rfl)) rfl
theorem flX12_194 : Cond.fieldLink RX12 194 (TX12 90).1 (TX12 90).2.1 (TX12 90).2.2.1 ∈ jm_tbl := jm_in (tb6 (List.mem_of_getElem? (i := 196) rfl)) rfl
theorem flX12_197 : Cond.fieldLink RX12 197 (TX12 91).1 (TX12 91).2.1 (TX12 91).2.2.1 ∈ jm_tbl := jm_in (tb6 (List.mem_of_getElem? (i := 197) rfl)) rfl
theorem flX12_200 : Cond.fieldLink RX12 200 (TX12 92).1 (TX12 92).2.1 (TX12 92).2.2.1 ∈ jm_tbl := jm_in (tb6 (List.mem_of_getElem? (i := 198) rfl)) rfl
theorem flX12_203 : Cond.fieldLink RX12 203 (TX12 93).1 (TX12 93).2.1 (TX12 93).2.2.1 ∈ jm_tbl := jm_in (tb6 (List.mem_of_getElem? (i := 199) rfl)) rfl
theorem flX12_206 : Cond.fieldLink RX12 206 (TX12 94).1 (TX12 94).2.1 (TX12 94).2.2.1 ∈ jm_tbl := jm_in (tb6 (List.mem_of_getElem? (i := 200) rfl)) rfl
theorem flX12_209 : Cond.fieldLink RX12 209 (TX12 95).1 (TX12 95).2.1 (TX12 95).2.2.1 ∈ jm_tbl := jm_in (tb6 (List.mem_of_getElem? (i := 201) rfl)) rfl
theorem flX12_212 : Cond.fieldLink RX12 212 (TX12 96).1 (TX12 96).2.1 (TX12 96).2.2.1 ∈ jm_tbl := jm_in (tb6 (List.mem_of_getElem? (i := 202) rfl)) rfl
theorem flX12_215 : Cond.fieldLink RX12 215 (TX12 97).1 (TX12 97).2.1 (TX12 97).2.2.1 ∈ jm_tbl := jm_in (tb6 (List.mem_of_getElem? (i := 203) rfl)) rfl
theorem flX12_218 : Cond.fieldLink RX12 218 (TX12 0).1 (TX12 0).2.1 (TX12 0).2.2.1 ∈ jm_tbl := jm_in (tb6 (List.mem_of_getElem? (i := 106) rfl)) rfl
theorem flX12_222 : Cond.methodLink RX12 222 yX12_within ∈ jm_tbl := jm_in (tb7 (List.mem_of_getElem? (i := 169) rfl)) rfl
theorem flX12_226 : Cond.methodLink RX12 226 yX12_isPerson ∈ jm_tbl := jm_in (tb7 (List.mem_of_getElem? (i := 172) rfl)) rfl
theorem flX12_230 : Cond.methodLink RX12 230 yX12_isParcel ∈ jm_tbl := jm_in (tb7 (List.mem_of_getElem? (i := 179) rfl)) rfl
theorem flX12_233 : Cond.methodLink RX12 233 yX12_moves ∈ jm_tbl := jm_in (tb7 (List.mem_of_getElem? (i := 183) rfl)) rfl
theorem flX12_237 : Cond.fieldLink RX12 237 (TX12 8).1 (TX12 8).2.1 (TX12 8).2.2.1 ∈ jm_tbl := jm_in (tb6 (List.mem_of_getElem? (i := 114) rfl)) rfl
theorem flX12_240 : Cond.methodLink RX12 240 yX12_joins ∈ jm_tbl := jm_in (tb7 (List.mem_of_getElem? (i := 223) rfl)) rfl
theorem flX12_243 : Cond.methodLink RX12 243 yX12_weight ∈ jm_tbl := jm_in (tb7 (List.mem_of_getElem? (i := 219) rfl)) rfl
theorem flX12_249 : Cond.fieldLink RX12 249 (TX12 9).1 (TX12 9).2.1 (TX12 9).2.2.1 ∈ jm_tbl := jm_in (tb6 (List.mem_of_getElem? (i := 115) rfl)) rfl
theorem flX12_252 : Cond.fieldLink RX12 252 (TX12 11).1 (TX12 11).2.1 (TX12 11).2.2.1 ∈ jm_tbl := jm_in (tb6 (List.mem_of_getElem? (i := 117) rfl)) rfl
theorem flX12_255 : Cond.fieldLink RX12 255 (TX12 12).1 (TX12 12).2.1 (TX12 12).2.2.1 ∈ jm_tbl := jm_in (tb6 (List.mem_of_getElem? (i := 118) rfl)) rfl
theorem flX12_258 : Cond.fieldLink RX12 258 (TX12 13).1 (TX12 13).2.1 (TX12 13).2.2.1 ∈ jm_tbl := jm_in (tb6 (List.mem_of_getElem? (i := 119) rfl)) rfl
theorem flX12_261 : Cond.fieldLink RX12 261 (TX12 15).1 (TX12 15).2.1 (TX12 15).2.2.1 ∈ jm_tbl := jm_in (tb6 (List.mem_of_getElem? (i := 121) rfl)) rfl
theorem flX12_265 : Cond.fieldLink RX12 265 (TX12 16).1 (TX12 16).2.1 (TX12 16).2.2.1 ∈ jm_tbl := jm_in (tb6 (List.mem_of_getElem? (i := 122) rfl)) rfl
theorem flX12_268 : Cond.fieldLink RX12 268 (TX12 14).1 (TX12 14).2.1 (TX12 14).2.2.1 ∈ jm_tbl := jm_in (tb6 (List.mem_of_getElem? (i := 120) rfl)) rfl
theorem flX12_271 : Cond.methodLink RX12 271 yX12_signAt ∈ jm_tbl := jm_in (tb8 (List.mem_of_getElem? (i := 4) rfl)) rfl
theorem flX12_279 : Cond.fieldLink RX12 279 (TX12 17).1 (TX12 17).2.1 (TX12 17).2.2.1 ∈ jm_tbl := jm_in (tb6 (List.mem_of_getElem? (i := 123) rfl)) rfl
theorem flX12_282 : Cond.fieldLink RX12 282 (TX12 28).1 (TX12 28).2.1 (TX12 28).2.2.1 ∈ jm_tbl := jm_in (tb6 (List.mem_of_getElem? (i := 134) rfl)) rfl
theorem flX12_307 : Cond.methodLink RX12 307 yX12_form ∈ jm_tbl := jm_in (tb8 (List.mem_of_getElem? (i := 44) rfl)) rfl
theorem flX12_313 : Cond.methodLink RX12 313 yX12_isWord ∈ jm_tbl := jm_in (tb8 (List.mem_of_getElem? (i := 11) rfl)) rfl
theorem flX12_321 : Cond.methodLink RX12 321 yX12_fact ∈ jm_tbl := jm_in (tb8 (List.mem_of_getElem? (i := 61) rfl)) rfl
theorem flX12_326 : Cond.methodLink RX12 326 yX12_isSign ∈ jm_tbl := jm_in (tb8 (List.mem_of_getElem? (i := 28) rfl)) rfl
theorem flX12_329 : Cond.methodLink RX12 329 yX12_fails ∈ jm_tbl := jm_in (tb8 (List.mem_of_getElem? (i := 16) rfl)) rfl
theorem flX12_332 : Cond.methodLink RX12 332 yX12_puts ∈ jm_tbl := jm_in (tb8 (List.mem_of_getElem? (i := 75) rfl)) rfl
theorem flX12_336 : Cond.methodLink RX12 336 yX12_nextToken ∈ jm_tbl := jm_in (tb8 (List.mem_of_getElem? (i := 0) rfl)) rfl
theorem flX12_345 : Cond.methodLink RX12 345 yX12_reads ∈ jm_tbl := jm_in (tb8 (List.mem_of_getElem? (i := 57) rfl)) rfl
theorem flX12_361 : Cond.methodLink RX12 361 yX12_readsWhen ∈ jm_tbl := jm_in (tb8 (List.mem_of_getElem? (i := 52) rfl)) rfl
theorem flX12_370 : Cond.fieldLink RX12 370 (TX12 33).1 (TX12 33).2.1 (TX12 33).2.2.1 ∈ jm_tbl := jm_in (tb6 (List.mem_of_getElem? (i := 139) rfl)) rfl
theorem flX12_374 : Cond.fieldLink RX12 374 (TX12 34).1 (TX12 34).2.1 (TX12 34).2.2.1 ∈ jm_tbl := jm_in (tb6 (List.mem_of_getElem? (i := 140) rfl)) rfl
theorem flX12_379 : Cond.methodLink RX12 379 yX12_readsWay ∈ jm_tbl := jm_in (tb8 (List.mem_of_getElem? (i := 20) rfl)) rfl
theorem flX12_389 : Cond.methodLink RX12 389 yX12_readsFirst ∈ jm_tbl := jm_in (tb8 (List.mem_of_getElem? (i := 35) rfl)) rfl
theorem flX12_392 : Cond.fieldLink RX12 392 (TX12 35).1 (TX12 35).2.1 (TX12 35).2.2.1 ∈ jm_tbl := jm_in (tb6 (List.mem_of_getElem? (i := 141) rfl)) rfl
theorem flX12_395 : Cond.methodLink RX12 395 yX12_readsAll ∈ jm_tbl := jm_in (tb7 (List.mem_of_getElem? (i := 236) rfl)) rfl
theorem flX12_398 : Cond.fieldLink RX12 398 (TX12 18).1 (TX12 18).2.1 (TX12 18).2.2.1 ∈ jm_tbl := jm_in (tb6 (List.mem_of_getElem? (i := 124) rfl)) rfl
theorem flX12_401 : Cond.fieldLink RX12 401 (TX12 29).1 (TX12 29).2.1 (TX12 29).2.2.1 ∈ jm_tbl := jm_in (tb6 (List.mem_of_getElem? (i := 135) rfl)) rfl
theorem flX12_404 : Cond.fieldLink RX12 404 (TX12 30).1 (TX12 30).2.1 (TX12 30).2.2.1 ∈ jm_tbl := jm_in (tb6 (List.mem_of_getElem? (i := 136) rfl)) rfl
theorem flX12_407 : Cond.methodLink RX12 407 yX12_sums ∈ jm_tbl := jm_in (tb8 (List.mem_of_getElem? (i := 117) rfl)) rfl
theorem flX12_410 : Cond.methodLink RX12 410 yX12_opens ∈ jm_tbl := jm_in (tb8 (List.mem_of_getElem? (i := 113) rfl)) rfl
theorem flX12_413 : Cond.methodLink RX12 413 yX12_tests ∈ jm_tbl := jm_in (tb8 (List.mem_of_getElem? (i := 121) rfl)) rfl
theorem flX12_416 : Cond.fieldLink RX12 416 (TX12 46).1 (TX12 46).2.1 (TX12 46).2.2.1 ∈ jm_tbl := jm_in (tb6 (List.mem_of_getElem? (i := 152) rfl)) rfl
theorem flX12_419 : Cond.fieldLink RX12 419 (TX12 47).1 (TX12 47).2.1 (TX12 47).2.2.1 ∈ jm_tbl := jm_in (tb6 (List.mem_of_getElem? (i := 153) rfl)) rfl
theorem flX12_422 : Cond.fieldLink RX12 422 (TX12 48).1 (TX12 48).2.1 (TX12 48).2.2.1 ∈ jm_tbl := jm_in (tb6 (List.mem_of_getElem? (i := 154) rfl)) rfl
theorem flX12_425 : Cond.fieldLink RX12 425 (TX12 49).1 (TX12 49).2.1 (TX12 49).2.2.1 ∈ jm_tbl := jm_in (tb6 (List.mem_of_getElem? (i := 155) rfl)) rfl
theorem flX12_428 : Cond.methodLink RX12 428 yX12_ownsOf ∈ jm_tbl := jm_in (tb8 (List.mem_of_getElem? (i := 93) rfl)) rfl
theorem flX12_431 : Cond.methodLink RX12 431 yX12_worth ∈ jm_tbl := jm_in (tb8 (List.mem_of_getElem? (i := 109) rfl)) rfl
theorem flX12_434 : Cond.fieldLink RX12 434 (TX12 50).1 (TX12 50).2.1 (TX12 50).2.2.1 ∈ jm_tbl := jm_in (tb6 (List.mem_of_getElem? (i := 156) rfl)) rfl
theorem flX12_437 : Cond.methodLink RX12 437 yX12_isForced ∈ jm_tbl := jm_in (tb8 (List.mem_of_getElem? (i := 101) rfl)) rfl
theorem flX12_440 : Cond.methodLink RX12 440 yX12_isSo ∈ jm_tbl := jm_in (tb8 (List.mem_of_getElem? (i := 105) rfl)) rfl
theorem flX12_444 : Cond.fieldLink RX12 444 (TX12 51).1 (TX12 51).2.1 (TX12 51).2.2.1 ∈ jm_tbl := jm_in (tb6 (List.mem_of_getElem? (i := 157) rfl)) rfl
theorem flX12_447 : Cond.methodLink RX12 447 yX12_isFree ∈ jm_tbl := jm_in (tb8 (List.mem_of_getElem? (i := 97) rfl)) rfl
theorem flX12_450 : Cond.methodLink RX12 450 yX12_rankOf ∈ jm_tbl := jm_in (tb8 (List.mem_of_getElem? (i := 125) rfl)) rfl
theorem flX12_453 : Cond.methodLink RX12 453 yX12_comesFirst ∈ jm_tbl := jm_in (tb8 (List.mem_of_getElem? (i := 129) rfl)) rfl
theorem flX12_456 : Cond.methodLink RX12 456 yX12_isPassing ∈ jm_tbl := jm_in (tb8 (List.mem_of_getElem? (i := 85) rfl)) rfl
theorem flX12_460 : Cond.fieldLink RX12 460 (TX12 52).1 (TX12 52).2.1 (TX12 52).2.2.1 ∈ jm_tbl := jm_in (tb6 (List.mem_of_getElem? (i := 158) rfl)) rfl
theorem flX12_463 : Cond.methodLink RX12 463 yX12_lays ∈ jm_tbl := jm_in (tb8 (List.mem_of_getElem? (i := 89) rfl)) rfl
theorem flX12_467 : Cond.methodLink RX12 467 yX12_comers ∈ jm_tbl := jm_in (tb8 (List.mem_of_getElem? (i := 137) rfl)) rfl
theorem flX12_470 : Cond.methodLink RX12 470 yX12_isPassed ∈ jm_tbl := jm_in (tb8 (List.mem_of_getElem? (i := 145) rfl)) rfl
theorem flX12_473 : Cond.methodLink RX12 473 yX12_askedPrice ∈ jm_tbl := jm_in (tb8 (List.mem_of_getElem? (i := 149) rfl)) rfl
theorem flX12_476 : Cond.methodLink RX12 476 yX12_mays ∈ jm_tbl := jm_in (tb8 (List.mem_of_getElem? (i := 157) rfl)) rfl
theorem flX12_479 : Cond.methodLink RX12 479 yX12_isLate ∈ jm_tbl := jm_in (tb8 (List.mem_of_getElem? (i := 185) rfl)) rfl
theorem flX12_482 : Cond.fieldLink RX12 482 (TX12 77).1 (TX12 77).2.1 (TX12 77).2.2.1 ∈ jm_tbl := jm_in (tb6 (List.mem_of_getElem? (i := 183) rfl)) rfl
theorem flX12_485 : Cond.methodLink RX12 485 yX12_isUnseen ∈ jm_tbl := jm_in (tb8 (List.mem_of_getElem? (i := 213) rfl)) rfl
theorem flX12_489 : Cond.fieldLink RX12 489 (TX12 78).1 (TX12 78).2.1 (TX12 78).2.2.1 ∈ jm_tbl := jm_in (tb6 (List.mem_of_getElem? (i := 184) rfl)) rfl
theorem flX12_492 : Cond.fieldLink RX12 492 (TX12 76).1 (TX12 76).2.1 (TX12 76).2.2.1 ∈ jm_tbl := jm_in (tb6 (List.mem_of_getElem? (i := 182) rfl)) rfl
theorem flX12_495 : Cond.methodLink RX12 495 yX12_lies ∈ jm_tbl := jm_in (tb8 (List.mem_of_getElem? (i := 205) rfl)) rfl
theorem flX12_498 : Cond.methodLink RX12 498 yX12_steps ∈ jm_tbl := jm_in (tb8 (List.mem_of_getElem? (i := 209) rfl)) rfl
theorem flX12_502 : Cond.methodLink RX12 502 yX12_isSly ∈ jm_tbl := jm_in (tb8 (List.mem_of_getElem? (i := 197) rfl)) rfl
theorem flX12_506 : Cond.methodLink RX12 506 yX12_seeks ∈ jm_tbl := jm_in (tb8 (List.mem_of_getElem? (i := 201) rfl)) rfl
theorem flX12_509 : Cond.methodLink RX12 509 yX12_whoCares ∈ jm_tbl := jm_in (tb8 (List.mem_of_getElem? (i := 229) rfl)) rfl
theorem flX12_512 : Cond.methodLink RX12 512 yX12_holderOf ∈ jm_tbl := jm_in (tb8 (List.mem_of_getElem? (i := 233) rfl)) rfl
theorem flX12_515 : Cond.methodLink RX12 515 yX12_bits ∈ jm_tbl := jm_in (tb8 (List.mem_of_getElem? (i := 237) rfl)) rfl
theorem flX12_518 : Cond.methodLink RX12 518 yX12_isGot ∈ jm_tbl := jm_in (tb9 (List.mem_of_getElem? (i := 0) rfl)) rfl
theorem flX12_521 : Cond.methodLink RX12 521 yX12_goesFar ∈ jm_tbl := jm_in (tb8 (List.mem_of_getElem? (i := 225) rfl)) rfl
theorem flX12_525 : Cond.fieldLink RX12 525 (TX12 81).1 (TX12 81).2.1 (TX12 81).2.2.1 ∈ jm_tbl := jm_in (tb6 (List.mem_of_getElem? (i := 187) rfl)) rfl
theorem flX12_528 : Cond.methodLink RX12 528 yX12_maybes ∈ jm_tbl := jm_in (tb9 (List.mem_of_getElem? (i := 12) rfl)) rfl
theorem flX12_531 : Cond.methodLink RX12 531 yX12_does ∈ jm_tbl := jm_in (tb9 (List.mem_of_getElem? (i := 16) rfl)) rfl
theorem flX12_535 : Cond.fieldLink RX12 535 (TX12 88).1 (TX12 88).2.1 (TX12 88).2.2.1 ∈ jm_tbl := jm_in (tb6 (List.mem_of_getElem? (i := 194) rfl)) rfl
theorem flX12_538 : Cond.methodLink RX12 538 yX12_takesBack ∈ jm_tbl := jm_in (tb9 (List.mem_of_getElem? (i := 24) rfl)) rfl
theorem flX12_541 : Cond.methodLink RX12 541 yX12_keeps ∈ jm_tbl := jm_in (tb9 (List.mem_of_getElem? (i := 28) rfl)) rfl
