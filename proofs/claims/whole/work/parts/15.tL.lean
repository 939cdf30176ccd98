theorem k_2_146 : Cond.methodLink RL 13 yX6_write ∈ q_tw := q_w2 (i := 146) rfl rfl
theorem k_2_147 : Cond.instanceMethod yX6_write ∈ q_tw := q_w2 (i := 147) rfl rfl
theorem k_2_148 : Cond.selects RX6 yX6_write yX6_write ∈ q_tw := q_w2 (i := 148) rfl rfl
theorem k_2_149 : Cond.code yX6_write cX6_write 2 (some .int) ∈ q_tw := q_w2 (i := 149) rfl rfl
theorem k_2_150 : Cond.methodLink RL 18 yX6_wipe ∈ q_tw := q_w2 (i := 150) rfl rfl
theorem k_2_151 : Cond.instanceMethod yX6_wipe ∈ q_tw := q_w2 (i := 151) rfl rfl
theorem k_2_152 : Cond.selects RX6 yX6_wipe yX6_wipe ∈ q_tw := q_w2 (i := 152) rfl rfl
theorem k_2_153 : Cond.code yX6_wipe cX6_wipe 2 (some .int) ∈ q_tw := q_w2 (i := 153) rfl rfl
theorem k_2_154 : Cond.methodLink RL 23 yX6_fault ∈ q_tw := q_w2 (i := 154) rfl rfl
theorem k_2_155 : Cond.instanceMethod yX6_fault ∈ q_tw := q_w2 (i := 155) rfl rfl
theorem k_2_156 : Cond.selects RX6 yX6_fault yX6_fault ∈ q_tw := q_w2 (i := 156) rfl rfl
theorem k_2_157 : Cond.code yX6_fault cX6_fault 1 (some .int) ∈ q_tw := q_w2 (i := 157) rfl rfl
theorem k_2_158 : Cond.methodLink RL 27 yX6_lay ∈ q_tw := q_w2 (i := 158) rfl rfl
theorem k_2_159 : Cond.instanceMethod yX6_lay ∈ q_tw := q_w2 (i := 159) rfl rfl
theorem k_2_160 : Cond.selects RX6 yX6_lay yX6_lay ∈ q_tw := q_w2 (i := 160) rfl rfl
theorem k_2_161 : Cond.code yX6_lay cX6_lay 1 (some .int) ∈ q_tw := q_w2 (i := 161) rfl rfl
theorem k_2_166 : Cond.methodLink RL 31 yX6_block ∈ q_tw := q_w2 (i := 166) rfl rfl
theorem k_2_167 : Cond.instanceMethod yX6_block ∈ q_tw := q_w2 (i := 167) rfl rfl
theorem k_2_168 : Cond.selects RX6 yX6_block yX6_block ∈ q_tw := q_w2 (i := 168) rfl rfl
theorem k_2_169 : Cond.code yX6_block cX6_block 3 (some .int) ∈ q_tw := q_w2 (i := 169) rfl rfl
theorem k_2_175 : Cond.methodLink RL 36 yX6_word ∈ q_tw := q_w2 (i := 175) rfl rfl
theorem k_2_176 : Cond.instanceMethod yX6_word ∈ q_tw := q_w2 (i := 176) rfl rfl
theorem k_2_177 : Cond.selects RX6 yX6_word yX6_word ∈ q_tw := q_w2 (i := 177) rfl rfl
theorem k_2_178 : Cond.code yX6_word cX6_word 2 (some .int) ∈ q_tw := q_w2 (i := 178) rfl rfl
theorem k_2_183 : Cond.methodLink RL 40 yX6_speaker ∈ q_tw := q_w2 (i := 183) rfl rfl
theorem k_2_184 : Cond.instanceMethod yX6_speaker ∈ q_tw := q_w2 (i := 184) rfl rfl
theorem k_2_185 : Cond.selects RX6 yX6_speaker yX6_speaker ∈ q_tw := q_w2 (i := 185) rfl rfl
theorem k_2_186 : Cond.code yX6_speaker cX6_speaker 3 (some .int) ∈ q_tw := q_w2 (i := 186) rfl rfl
theorem k_2_191 : Cond.methodLink RL 44 yX6_heard ∈ q_tw := q_w2 (i := 191) rfl rfl
theorem k_2_192 : Cond.instanceMethod yX6_heard ∈ q_tw := q_w2 (i := 192) rfl rfl
theorem k_2_193 : Cond.selects RX6 yX6_heard yX6_heard ∈ q_tw := q_w2 (i := 193) rfl rfl
theorem k_2_194 : Cond.code yX6_heard cX6_heard 3 (some .int) ∈ q_tw := q_w2 (i := 194) rfl rfl
theorem k_2_201 : Cond.methodLink RL 48 yX6_promised ∈ q_tw := q_w2 (i := 201) rfl rfl
theorem k_2_202 : Cond.instanceMethod yX6_promised ∈ q_tw := q_w2 (i := 202) rfl rfl
theorem k_2_203 : Cond.selects RX6 yX6_promised yX6_promised ∈ q_tw := q_w2 (i := 203) rfl rfl
theorem k_2_204 : Cond.code yX6_promised cX6_promised 3 (some .int) ∈ q_tw := q_w2 (i := 204) rfl rfl
theorem k_2_210 : Cond.methodLink RL 52 yX6_worth ∈ q_tw := q_w2 (i := 210) rfl rfl
theorem k_2_211 : Cond.instanceMethod yX6_worth ∈ q_tw := q_w2 (i := 211) rfl rfl
theorem k_2_212 : Cond.selects RX6 yX6_worth yX6_worth ∈ q_tw := q_w2 (i := 212) rfl rfl
theorem k_2_213 : Cond.code yX6_worth cX6_worth 4 (some .int) ∈ q_tw := q_w2 (i := 213) rfl rfl
theorem k_2_226 : Cond.methodLink RL 57 yX6_say ∈ q_tw := q_w2 (i := 226) rfl rfl
theorem k_2_227 : Cond.instanceMethod yX6_say ∈ q_tw := q_w2 (i := 227) rfl rfl
theorem k_2_228 : Cond.selects RX6 yX6_say yX6_say ∈ q_tw := q_w2 (i := 228) rfl rfl
theorem k_2_229 : Cond.code yX6_say cX6_say 4 (some .int) ∈ q_tw := q_w2 (i := 229) rfl rfl
theorem k_3_23 : Cond.methodLink RL 61 yX6_promise ∈ q_tw := q_w3 (i := 23) rfl rfl
theorem k_3_24 : Cond.instanceMethod yX6_promise ∈ q_tw := q_w3 (i := 24) rfl rfl
theorem k_3_25 : Cond.selects RX6 yX6_promise yX6_promise ∈ q_tw := q_w3 (i := 25) rfl rfl
theorem k_3_26 : Cond.code yX6_promise cX6_promise 5 (some .int) ∈ q_tw := q_w3 (i := 26) rfl rfl
theorem k_3_36 : Cond.methodLink RL 65 yX6_take ∈ q_tw := q_w3 (i := 36) rfl rfl
theorem k_3_37 : Cond.instanceMethod yX6_take ∈ q_tw := q_w3 (i := 37) rfl rfl
theorem k_3_38 : Cond.selects RX6 yX6_take yX6_take ∈ q_tw := q_w3 (i := 38) rfl rfl
theorem k_3_39 : Cond.code yX6_take cX6_take 3 (some .int) ∈ q_tw := q_w3 (i := 39) rfl rfl
theorem k_3_53 : Cond.methodLink RL 69 yX6_pass ∈ q_tw := q_w3 (i := 53) rfl rfl
theorem k_3_54 : Cond.instanceMethod yX6_pass ∈ q_tw := q_w3 (i := 54) rfl rfl
theorem k_3_55 : Cond.selects RX6 yX6_pass yX6_pass ∈ q_tw := q_w3 (i := 55) rfl rfl
theorem k_3_56 : Cond.code yX6_pass cX6_pass 3 (some .int) ∈ q_tw := q_w3 (i := 56) rfl rfl
theorem k_3_65 : Cond.methodLink RL 73 yX6_undo ∈ q_tw := q_w3 (i := 65) rfl rfl
theorem k_3_66 : Cond.instanceMethod yX6_undo ∈ q_tw := q_w3 (i := 66) rfl rfl
theorem k_3_67 : Cond.selects RX6 yX6_undo yX6_undo ∈ q_tw := q_w3 (i := 67) rfl rfl
theorem k_3_68 : Cond.code yX6_undo cX6_undo 1 (some .int) ∈ q_tw := q_w3 (i := 68) rfl rfl
theorem k_3_73 : Cond.methodLink RL 77 yX6_least ∈ q_tw := q_w3 (i := 73) rfl rfl
theorem k_3_74 : Cond.instanceMethod yX6_least ∈ q_tw := q_w3 (i := 74) rfl rfl
theorem k_3_75 : Cond.selects RX6 yX6_least yX6_least ∈ q_tw := q_w3 (i := 75) rfl rfl
theorem k_3_76 : Cond.code yX6_least cX6_least 4 (some .int) ∈ q_tw := q_w3 (i := 76) rfl rfl
theorem k_3_105 : Cond.methodLink RL 81 yX6_best ∈ q_tw := q_w3 (i := 105) rfl rfl
theorem k_3_106 : Cond.instanceMethod yX6_best ∈ q_tw := q_w3 (i := 106) rfl rfl
theorem k_3_107 : Cond.selects RX6 yX6_best yX6_best ∈ q_tw := q_w3 (i := 107) rfl rfl
theorem k_3_108 : Cond.code yX6_best cX6_best 2 (some .int) ∈ q_tw := q_w3 (i := 108) rfl rfl
theorem k_3_110 : Cond.methodLink RL 85 yX6_order ∈ q_tw := q_w3 (i := 110) rfl rfl
theorem k_3_111 : Cond.instanceMethod yX6_order ∈ q_tw := q_w3 (i := 111) rfl rfl
theorem k_3_112 : Cond.selects RX6 yX6_order yX6_order ∈ q_tw := q_w3 (i := 112) rfl rfl
theorem k_3_113 : Cond.code yX6_order cX6_order 2 (some .int) ∈ q_tw := q_w3 (i := 113) rfl rfl
theorem k_3_140 : Cond.methodLink RL 89 yX6_days ∈ q_tw := q_w3 (i := 140) rfl rfl
theorem k_3_141 : Cond.instanceMethod yX6_days ∈ q_tw := q_w3 (i := 141) rfl rfl
theorem k_3_142 : Cond.selects RX6 yX6_days yX6_days ∈ q_tw := q_w3 (i := 142) rfl rfl
theorem k_3_143 : Cond.code yX6_days cX6_days 4 (some .int) ∈ q_tw := q_w3 (i := 143) rfl rfl
theorem k_3_152 : Cond.methodLink RL 93 yX6_frost ∈ q_tw := q_w3 (i := 152) rfl rfl
theorem k_3_153 : Cond.instanceMethod yX6_frost ∈ q_tw := q_w3 (i := 153) rfl rfl
theorem k_3_154 : Cond.selects RX6 yX6_frost yX6_frost ∈ q_tw := q_w3 (i := 154) rfl rfl
theorem k_3_155 : Cond.code yX6_frost cX6_frost 4 (some .int) ∈ q_tw := q_w3 (i := 155) rfl rfl
theorem k_3_158 : Cond.methodLink RL 97 yX6_uses ∈ q_tw := q_w3 (i := 158) rfl rfl
theorem k_3_159 : Cond.instanceMethod yX6_uses ∈ q_tw := q_w3 (i := 159) rfl rfl
theorem k_3_160 : Cond.selects RX6 yX6_uses yX6_uses ∈ q_tw := q_w3 (i := 160) rfl rfl
theorem k_3_161 : Cond.code yX6_uses cX6_uses 4 (some .int) ∈ q_tw := q_w3 (i := 161) rfl rfl
theorem k_3_163 : Cond.methodLink RL 101 yX6_harm ∈ q_tw := q_w3 (i := 163) rfl rfl
theorem k_3_164 : Cond.instanceMethod yX6_harm ∈ q_tw := q_w3 (i := 164) rfl rfl
theorem k_3_165 : Cond.selects RX6 yX6_harm yX6_harm ∈ q_tw := q_w3 (i := 165) rfl rfl
theorem k_3_166 : Cond.code yX6_harm cX6_harm 2 (some .int) ∈ q_tw := q_w3 (i := 166) rfl rfl
theorem k_3_176 : Cond.methodLink RL 105 yX6_liars ∈ q_tw := q_w3 (i := 176) rfl rfl
theorem k_3_177 : Cond.instanceMethod yX6_liars ∈ q_tw := q_w3 (i := 177) rfl rfl
theorem k_3_178 : Cond.selects RX6 yX6_liars yX6_liars ∈ q_tw := q_w3 (i := 178) rfl rfl
theorem k_3_179 : Cond.code yX6_liars cX6_liars 4 (some .int) ∈ q_tw := q_w3 (i := 179) rfl rfl
theorem k_3_194 : Cond.methodLink RL 109 yX6_said ∈ q_tw := q_w3 (i := 194) rfl rfl
theorem k_3_195 : Cond.instanceMethod yX6_said ∈ q_tw := q_w3 (i := 195) rfl rfl
theorem k_3_196 : Cond.selects RX6 yX6_said yX6_said ∈ q_tw := q_w3 (i := 196) rfl rfl
theorem k_3_197 : Cond.code yX6_said cX6_said 8 (some .int) ∈ q_tw := q_w3 (i := 197) rfl rfl
theorem k_3_202 : Cond.methodLink RL 113 yX6_deaf ∈ q_tw := q_w3 (i := 202) rfl rfl
theorem k_3_203 : Cond.instanceMethod yX6_deaf ∈ q_tw := q_w3 (i := 203) rfl rfl
theorem k_3_204 : Cond.selects RX6 yX6_deaf yX6_deaf ∈ q_tw := q_w3 (i := 204) rfl rfl
theorem k_3_205 : Cond.code yX6_deaf cX6_deaf 10 (some .int) ∈ q_tw := q_w3 (i := 205) rfl rfl
theorem k_3_216 : Cond.methodLink RL 118 yX6_year ∈ q_tw := q_w3 (i := 216) rfl rfl
theorem k_3_217 : Cond.instanceMethod yX6_year ∈ q_tw := q_w3 (i := 217) rfl rfl
theorem k_3_218 : Cond.selects RX6 yX6_year yX6_year ∈ q_tw := q_w3 (i := 218) rfl rfl
theorem k_3_219 : Cond.code yX6_year cX6_year 5 (some .int) ∈ q_tw := q_w3 (i := 219) rfl rfl
theorem k_3_230 : Cond.methodLink RL 122 yX6_keep ∈ q_tw := q_w3 (i := 230) rfl rfl
theorem k_3_231 : Cond.instanceMethod yX6_keep ∈ q_tw := q_w3 (i := 231) rfl rfl
theorem k_3_232 : Cond.selects RX6 yX6_keep yX6_keep ∈ q_tw := q_w3 (i := 232) rfl rfl
theorem k_3_233 : Cond.code yX6_keep cX6_keep 1 (some .int) ∈ q_tw := q_w3 (i := 233) rfl rfl
theorem k_3_234 : Cond.methodLink RL 126 yX6_back ∈ q_tw := q_w3 (i := 234) rfl rfl
theorem k_3_235 : Cond.instanceMethod yX6_back ∈ q_tw := q_w3 (i := 235) rfl rfl
theorem k_3_236 : Cond.selects RX6 yX6_back yX6_back ∈ q_tw := q_w3 (i := 236) rfl rfl
theorem k_3_237 : Cond.code yX6_back cX6_back 1 (some .int) ∈ q_tw := q_w3 (i := 237) rfl rfl
theorem k_3_238 : Cond.methodLink RL 130 yX6_count ∈ q_tw := q_w3 (i := 238) rfl rfl
theorem k_3_239 : Cond.instanceMethod yX6_count ∈ q_tw := q_w3 (i := 239) rfl rfl
theorem k_4_0 : Cond.selects RX6 yX6_count yX6_count ∈ q_tw := q_w4 (i := 0) rfl rfl
theorem k_4_1 : Cond.code yX6_count cX6_count 2 (some .int) ∈ q_tw := q_w4 (i := 1) rfl rfl
theorem k_4_120 : Cond.methodLink RL 17 yX7_write ∈ q_tw := q_w4 (i := 120) rfl rfl
theorem k_4_121 : Cond.instanceMethod yX7_write ∈ q_tw := q_w4 (i := 121) rfl rfl
theorem k_4_122 : Cond.selects RX7 yX7_write yX7_write ∈ q_tw := q_w4 (i := 122) rfl rfl
theorem k_4_123 : Cond.code yX7_write cX7_write 2 (some .int) ∈ q_tw := q_w4 (i := 123) rfl rfl
theorem k_4_129 : Cond.methodLink RL 22 yX7_wipe ∈ q_tw := q_w4 (i := 129) rfl rfl
theorem k_4_130 : Cond.instanceMethod yX7_wipe ∈ q_tw := q_w4 (i := 130) rfl rfl
theorem k_4_131 : Cond.selects RX7 yX7_wipe yX7_wipe ∈ q_tw := q_w4 (i := 131) rfl rfl
theorem k_4_132 : Cond.code yX7_wipe cX7_wipe 2 (some .int) ∈ q_tw := q_w4 (i := 132) rfl rfl
theorem k_4_133 : Cond.methodLink RL 26 yX7_fault ∈ q_tw := q_w4 (i := 133) rfl rfl
theorem k_4_134 : Cond.instanceMethod yX7_fault ∈ q_tw := q_w4 (i := 134) rfl rfl
theorem k_4_135 : Cond.selects RX7 yX7_fault yX7_fault ∈ q_tw := q_w4 (i := 135) rfl rfl
theorem k_4_136 : Cond.code yX7_fault cX7_fault 1 (some .int) ∈ q_tw := q_w4 (i := 136) rfl rfl
theorem k_4_175 : Cond.methodLink RL 30 yX7_lay ∈ q_tw := q_w4 (i := 175) rfl rfl
theorem k_4_176 : Cond.instanceMethod yX7_lay ∈ q_tw := q_w4 (i := 176) rfl rfl
theorem k_4_177 : Cond.selects RX7 yX7_lay yX7_lay ∈ q_tw := q_w4 (i := 177) rfl rfl
theorem k_4_178 : Cond.code yX7_lay cX7_lay 1 (some .int) ∈ q_tw := q_w4 (i := 178) rfl rfl
theorem k_4_179 : Cond.methodLink RL 35 yX7_block ∈ q_tw := q_w4 (i := 179) rfl rfl
theorem k_4_180 : Cond.instanceMethod yX7_block ∈ q_tw := q_w4 (i := 180) rfl rfl
theorem k_4_181 : Cond.selects RX7 yX7_block yX7_block ∈ q_tw := q_w4 (i := 181) rfl rfl
theorem k_4_182 : Cond.code yX7_block cX7_block 3 (some .int) ∈ q_tw := q_w4 (i := 182) rfl rfl
theorem k_4_187 : Cond.methodLink RL 39 yX7_word ∈ q_tw := q_w4 (i := 187) rfl rfl
theorem k_4_188 : Cond.instanceMethod yX7_word ∈ q_tw := q_w4 (i := 188) rfl rfl
theorem k_4_189 : Cond.selects RX7 yX7_word yX7_word ∈ q_tw := q_w4 (i := 189) rfl rfl
theorem k_4_190 : Cond.code yX7_word cX7_word 2 (some .int) ∈ q_tw := q_w4 (i := 190) rfl rfl
theorem k_4_195 : Cond.methodLink RL 43 yX7_speaker ∈ q_tw := q_w4 (i := 195) rfl rfl
theorem k_4_196 : Cond.instanceMethod yX7_speaker ∈ q_tw := q_w4 (i := 196) rfl rfl
theorem k_4_197 : Cond.selects RX7 yX7_speaker yX7_speaker ∈ q_tw := q_w4 (i := 197) rfl rfl
theorem k_4_198 : Cond.code yX7_speaker cX7_speaker 3 (some .int) ∈ q_tw := q_w4 (i := 198) rfl rfl
theorem k_4_203 : Cond.methodLink RL 47 yX7_heard ∈ q_tw := q_w4 (i := 203) rfl rfl
theorem k_4_204 : Cond.instanceMethod yX7_heard ∈ q_tw := q_w4 (i := 204) rfl rfl
theorem k_4_205 : Cond.selects RX7 yX7_heard yX7_heard ∈ q_tw := q_w4 (i := 205) rfl rfl
theorem k_4_206 : Cond.code yX7_heard cX7_heard 3 (some .int) ∈ q_tw := q_w4 (i := 206) rfl rfl
theorem k_4_207 : Cond.methodLink RL 51 yX7_promised ∈ q_tw := q_w4 (i := 207) rfl rfl
theorem k_4_208 : Cond.instanceMethod yX7_promised ∈ q_tw := q_w4 (i := 208) rfl rfl
theorem k_4_209 : Cond.selects RX7 yX7_promised yX7_promised ∈ q_tw := q_w4 (i := 209) rfl rfl
theorem k_4_210 : Cond.code yX7_promised cX7_promised 3 (some .int) ∈ q_tw := q_w4 (i := 210) rfl rfl
theorem k_4_211 : Cond.methodLink RL 56 yX7_worth ∈ q_tw := q_w4 (i := 211) rfl rfl
theorem k_4_212 : Cond.instanceMethod yX7_worth ∈ q_tw := q_w4 (i := 212) rfl rfl
theorem k_4_213 : Cond.selects RX7 yX7_worth yX7_worth ∈ q_tw := q_w4 (i := 213) rfl rfl
theorem k_4_214 : Cond.code yX7_worth cX7_worth 4 (some .int) ∈ q_tw := q_w4 (i := 214) rfl rfl
theorem k_4_234 : Cond.methodLink RL 60 yX7_say ∈ q_tw := q_w4 (i := 234) rfl rfl
theorem k_4_235 : Cond.instanceMethod yX7_say ∈ q_tw := q_w4 (i := 235) rfl rfl
theorem k_4_236 : Cond.selects RX7 yX7_say yX7_say ∈ q_tw := q_w4 (i := 236) rfl rfl
theorem k_4_237 : Cond.code yX7_say cX7_say 4 (some .int) ∈ q_tw := q_w4 (i := 237) rfl rfl
theorem k_5_26 : Cond.methodLink RL 64 yX7_promise ∈ q_tw := q_w5 (i := 26) rfl rfl
theorem k_5_27 : Cond.instanceMethod yX7_promise ∈ q_tw := q_w5 (i := 27) rfl rfl
theorem k_5_28 : Cond.selects RX7 yX7_promise yX7_promise ∈ q_tw := q_w5 (i := 28) rfl rfl
theorem k_5_29 : Cond.code yX7_promise cX7_promise 5 (some .int) ∈ q_tw := q_w5 (i := 29) rfl rfl
theorem k_5_31 : Cond.methodLink RL 68 yX7_take ∈ q_tw := q_w5 (i := 31) rfl rfl
theorem k_5_32 : Cond.instanceMethod yX7_take ∈ q_tw := q_w5 (i := 32) rfl rfl
theorem k_5_33 : Cond.selects RX7 yX7_take yX7_take ∈ q_tw := q_w5 (i := 33) rfl rfl
theorem k_5_34 : Cond.code yX7_take cX7_take 3 (some .int) ∈ q_tw := q_w5 (i := 34) rfl rfl
theorem k_5_43 : Cond.methodLink RL 72 yX7_pass ∈ q_tw := q_w5 (i := 43) rfl rfl
theorem k_5_44 : Cond.instanceMethod yX7_pass ∈ q_tw := q_w5 (i := 44) rfl rfl
theorem k_5_45 : Cond.selects RX7 yX7_pass yX7_pass ∈ q_tw := q_w5 (i := 45) rfl rfl
theorem k_5_46 : Cond.code yX7_pass cX7_pass 3 (some .int) ∈ q_tw := q_w5 (i := 46) rfl rfl
theorem k_5_52 : Cond.methodLink RL 76 yX7_undo ∈ q_tw := q_w5 (i := 52) rfl rfl
theorem k_5_53 : Cond.instanceMethod yX7_undo ∈ q_tw := q_w5 (i := 53) rfl rfl
theorem k_5_54 : Cond.selects RX7 yX7_undo yX7_undo ∈ q_tw := q_w5 (i := 54) rfl rfl
theorem k_5_55 : Cond.code yX7_undo cX7_undo 1 (some .int) ∈ q_tw := q_w5 (i := 55) rfl rfl
theorem k_5_56 : Cond.methodLink RL 80 yX7_least ∈ q_tw := q_w5 (i := 56) rfl rfl
theorem k_5_57 : Cond.instanceMethod yX7_least ∈ q_tw := q_w5 (i := 57) rfl rfl
theorem k_5_58 : Cond.selects RX7 yX7_least yX7_least ∈ q_tw := q_w5 (i := 58) rfl rfl
theorem k_5_59 : Cond.code yX7_least cX7_least 4 (some .int) ∈ q_tw := q_w5 (i := 59) rfl rfl
theorem k_5_64 : Cond.methodLink RL 84 yX7_best ∈ q_tw := q_w5 (i := 64) rfl rfl
theorem k_5_65 : Cond.instanceMethod yX7_best ∈ q_tw := q_w5 (i := 65) rfl rfl
theorem k_5_66 : Cond.selects RX7 yX7_best yX7_best ∈ q_tw := q_w5 (i := 66) rfl rfl
theorem k_5_67 : Cond.code yX7_best cX7_best 2 (some .int) ∈ q_tw := q_w5 (i := 67) rfl rfl
theorem k_5_72 : Cond.methodLink RL 88 yX7_order ∈ q_tw := q_w5 (i := 72) rfl rfl
theorem k_5_73 : Cond.instanceMethod yX7_order ∈ q_tw := q_w5 (i := 73) rfl rfl
theorem k_5_74 : Cond.selects RX7 yX7_order yX7_order ∈ q_tw := q_w5 (i := 74) rfl rfl
theorem k_5_75 : Cond.code yX7_order cX7_order 3 (some .int) ∈ q_tw := q_w5 (i := 75) rfl rfl
theorem k_5_94 : Cond.methodLink RL 92 yX7_days ∈ q_tw := q_w5 (i := 94) rfl rfl
theorem k_5_95 : Cond.instanceMethod yX7_days ∈ q_tw := q_w5 (i := 95) rfl rfl
theorem k_5_96 : Cond.selects RX7 yX7_days yX7_days ∈ q_tw := q_w5 (i := 96) rfl rfl
theorem k_5_97 : Cond.code yX7_days cX7_days 5 (some .int) ∈ q_tw := q_w5 (i := 97) rfl rfl
theorem k_5_106 : Cond.methodLink RL 96 yX7_frost ∈ q_tw := q_w5 (i := 106) rfl rfl
theorem k_5_107 : Cond.instanceMethod yX7_frost ∈ q_tw := q_w5 (i := 107) rfl rfl
theorem k_5_108 : Cond.selects RX7 yX7_frost yX7_frost ∈ q_tw := q_w5 (i := 108) rfl rfl
theorem k_5_109 : Cond.code yX7_frost cX7_frost 3 (some .int) ∈ q_tw := q_w5 (i := 109) rfl rfl
theorem k_5_110 : Cond.methodLink RL 100 yX7_uses ∈ q_tw := q_w5 (i := 110) rfl rfl
theorem k_5_111 : Cond.instanceMethod yX7_uses ∈ q_tw := q_w5 (i := 111) rfl rfl
theorem k_5_112 : Cond.selects RX7 yX7_uses yX7_uses ∈ q_tw := q_w5 (i := 112) rfl rfl
theorem k_5_113 : Cond.code yX7_uses cX7_uses 4 (some .int) ∈ q_tw := q_w5 (i := 113) rfl rfl
theorem k_5_114 : Cond.methodLink RL 104 yX7_harm ∈ q_tw := q_w5 (i := 114) rfl rfl
theorem k_5_115 : Cond.instanceMethod yX7_harm ∈ q_tw := q_w5 (i := 115) rfl rfl
theorem k_5_116 : Cond.selects RX7 yX7_harm yX7_harm ∈ q_tw := q_w5 (i := 116) rfl rfl
theorem k_5_117 : Cond.code yX7_harm cX7_harm 10 (some .int) ∈ q_tw := q_w5 (i := 117) rfl rfl
theorem k_5_123 : Cond.methodLink RL 108 yX7_liars ∈ q_tw := q_w5 (i := 123) rfl rfl
theorem k_5_124 : Cond.instanceMethod yX7_liars ∈ q_tw := q_w5 (i := 124) rfl rfl
theorem k_5_125 : Cond.selects RX7 yX7_liars yX7_liars ∈ q_tw := q_w5 (i := 125) rfl rfl
theorem k_5_126 : Cond.code yX7_liars cX7_liars 5 (some .int) ∈ q_tw := q_w5 (i := 126) rfl rfl
theorem k_5_131 : Cond.methodLink RL 112 yX7_said ∈ q_tw := q_w5 (i := 131) rfl rfl
theorem k_5_132 : Cond.instanceMethod yX7_said ∈ q_tw := q_w5 (i := 132) rfl rfl
theorem k_5_133 : Cond.selects RX7 yX7_said yX7_said ∈ q_tw := q_w5 (i := 133) rfl rfl
theorem k_5_134 : Cond.code yX7_said cX7_said 9 (some .int) ∈ q_tw := q_w5 (i := 134) rfl rfl
theorem k_5_136 : Cond.methodLink RL 117 yX7_deaf ∈ q_tw := q_w5 (i := 136) rfl rfl
theorem k_5_137 : Cond.instanceMethod yX7_deaf ∈ q_tw := q_w5 (i := 137) rfl rfl
theorem k_5_138 : Cond.selects RX7 yX7_deaf yX7_deaf ∈ q_tw := q_w5 (i := 138) rfl rfl
theorem k_5_139 : Cond.code yX7_deaf cX7_deaf 13 (some .int) ∈ q_tw := q_w5 (i := 139) rfl rfl
theorem k_5_142 : Cond.methodLink RL 121 yX7_year ∈ q_tw := q_w5 (i := 142) rfl rfl
theorem k_5_143 : Cond.instanceMethod yX7_year ∈ q_tw := q_w5 (i := 143) rfl rfl
theorem k_5_144 : Cond.selects RX7 yX7_year yX7_year ∈ q_tw := q_w5 (i := 144) rfl rfl
theorem k_5_145 : Cond.code yX7_year cX7_year 7 (some .int) ∈ q_tw := q_w5 (i := 145) rfl rfl
theorem k_5_159 : Cond.methodLink RL 125 yX7_keep ∈ q_tw := q_w5 (i := 159) rfl rfl
theorem k_5_160 : Cond.instanceMethod yX7_keep ∈ q_tw := q_w5 (i := 160) rfl rfl
theorem k_5_161 : Cond.selects RX7 yX7_keep yX7_keep ∈ q_tw := q_w5 (i := 161) rfl rfl
theorem k_5_162 : Cond.code yX7_keep cX7_keep 1 (some .int) ∈ q_tw := q_w5 (i := 162) rfl rfl
theorem k_5_163 : Cond.methodLink RL 129 yX7_back ∈ q_tw := q_w5 (i := 163) rfl rfl
theorem k_5_164 : Cond.instanceMethod yX7_back ∈ q_tw := q_w5 (i := 164) rfl rfl
theorem k_5_165 : Cond.selects RX7 yX7_back yX7_back ∈ q_tw := q_w5 (i := 165) rfl rfl
theorem k_5_166 : Cond.code yX7_back cX7_back 1 (some .int) ∈ q_tw := q_w5 (i := 166) rfl rfl
theorem k_5_167 : Cond.methodLink RL 133 yX7_count ∈ q_tw := q_w5 (i := 167) rfl rfl
theorem k_5_168 : Cond.instanceMethod yX7_count ∈ q_tw := q_w5 (i := 168) rfl rfl
theorem k_5_169 : Cond.selects RX7 yX7_count yX7_count ∈ q_tw := q_w5 (i := 169) rfl rfl
theorem k_5_170 : Cond.code yX7_count cX7_count 2 (some .int) ∈ q_tw := q_w5 (i := 170) rfl rfl
theorem d_L_law_18 : decode cL_law 18 = .ok (.iload_n 3, 1) := by decide +kernel
theorem d_L_law_19 : decode cL_law 19 = .ok (.aload_n 0, 1) := by decide +kernel
theorem d_L_law_20 : decode cL_law 20 = .ok (.arraylength, 1) := by decide +kernel
theorem d_L_law_21 : decode cL_law 21 = .ok (.bipush 7, 2) := by decide +kernel
theorem d_L_law_23 : decode cL_law 23 = .ok (.isub, 1) := by decide +kernel
theorem d_L_law_24 : decode cL_law 24 = .ok (.if_icmp .gt 965, 3) := by decide +kernel
theorem d_L_law_27 : decode cL_law 27 = .ok (.aload_n 0, 1) := by decide +kernel
theorem d_L_law_28 : decode cL_law 28 = .ok (.iload_n 3, 1) := by decide +kernel
theorem d_L_law_29 : decode cL_law 29 = .ok (.iaload, 1) := by decide +kernel
theorem d_L_law_30 : decode cL_law 30 = .ok (.bipush 31, 2) := by decide +kernel
theorem d_L_law_32 : decode cL_law 32 = .ok (.iand, 1) := by decide +kernel
theorem d_L_law_33 : decode cL_law 33 = .ok (.tableswitch 950 0 28 #[131, 154, 167, 180, 193, 226, 249, 282, 315, 348, 391, 434, 477, 510, 533, 546, 579, 602, 625, 658, 681, 704, 727, 740, 783, 858, 901, 914, 927], 131) := by decide +kernel
theorem d_L_law_164 : decode cL_law 164 = .ok (.aload_n 1, 1) := by decide +kernel
theorem d_L_law_165 : decode cL_law 165 = .ok (.aload_n 0, 1) := by decide +kernel
theorem d_L_law_166 : decode cL_law 166 = .ok (.iload_n 3, 1) := by decide +kernel
theorem d_L_law_167 : decode cL_law 167 = .ok (.iconst 1, 1) := by decide +kernel
theorem d_L_law_168 : decode cL_law 168 = .ok (.iadd, 1) := by decide +kernel
theorem d_L_law_169 : decode cL_law 169 = .ok (.iaload, 1) := by decide +kernel
theorem d_L_law_170 : decode cL_law 170 = .ok (.invokevirtual 13, 3) := by decide +kernel
theorem d_L_law_173 : decode cL_law 173 = .ok (.aload_n 2, 1) := by decide +kernel
theorem d_L_law_174 : decode cL_law 174 = .ok (.aload_n 0, 1) := by decide +kernel
theorem d_L_law_175 : decode cL_law 175 = .ok (.iload_n 3, 1) := by decide +kernel
theorem d_L_law_176 : decode cL_law 176 = .ok (.iconst 1, 1) := by decide +kernel
theorem d_L_law_177 : decode cL_law 177 = .ok (.iadd, 1) := by decide +kernel
theorem d_L_law_178 : decode cL_law 178 = .ok (.iaload, 1) := by decide +kernel
theorem d_L_law_179 : decode cL_law 179 = .ok (.invokevirtual 17, 3) := by decide +kernel
theorem d_L_law_182 : decode cL_law 182 = .ok (.if_icmp .eq 801, 3) := by decide +kernel
theorem d_L_law_185 : decode cL_law 185 = .ok (.iconst 0, 1) := by decide +kernel
theorem d_L_law_186 : decode cL_law 186 = .ok (.ireturn, 1) := by decide +kernel
theorem d_L_law_187 : decode cL_law 187 = .ok (.aload_n 1, 1) := by decide +kernel
theorem d_L_law_188 : decode cL_law 188 = .ok (.invokevirtual 18, 3) := by decide +kernel
theorem d_L_law_191 : decode cL_law 191 = .ok (.aload_n 2, 1) := by decide +kernel
theorem d_L_law_192 : decode cL_law 192 = .ok (.invokevirtual 22, 3) := by decide +kernel
theorem d_L_law_195 : decode cL_law 195 = .ok (.if_icmp .eq 788, 3) := by decide +kernel
theorem d_L_law_198 : decode cL_law 198 = .ok (.iconst 0, 1) := by decide +kernel
theorem d_L_law_199 : decode cL_law 199 = .ok (.ireturn, 1) := by decide +kernel
theorem d_L_law_200 : decode cL_law 200 = .ok (.aload_n 1, 1) := by decide +kernel
theorem d_L_law_201 : decode cL_law 201 = .ok (.invokevirtual 23, 3) := by decide +kernel
theorem d_L_law_204 : decode cL_law 204 = .ok (.aload_n 2, 1) := by decide +kernel
theorem d_L_law_205 : decode cL_law 205 = .ok (.invokevirtual 26, 3) := by decide +kernel
theorem d_L_law_208 : decode cL_law 208 = .ok (.if_icmp .eq 775, 3) := by decide +kernel
theorem d_L_law_211 : decode cL_law 211 = .ok (.iconst 0, 1) := by decide +kernel
theorem d_L_law_212 : decode cL_law 212 = .ok (.ireturn, 1) := by decide +kernel
theorem d_L_law_213 : decode cL_law 213 = .ok (.aload_n 1, 1) := by decide +kernel
theorem d_L_law_214 : decode cL_law 214 = .ok (.invokevirtual 27, 3) := by decide +kernel
theorem d_L_law_217 : decode cL_law 217 = .ok (.aload_n 2, 1) := by decide +kernel
theorem d_L_law_218 : decode cL_law 218 = .ok (.invokevirtual 30, 3) := by decide +kernel
theorem d_L_law_221 : decode cL_law 221 = .ok (.if_icmp .eq 762, 3) := by decide +kernel
theorem d_L_law_224 : decode cL_law 224 = .ok (.iconst 0, 1) := by decide +kernel
theorem d_L_law_225 : decode cL_law 225 = .ok (.ireturn, 1) := by decide +kernel
theorem d_L_law_226 : decode cL_law 226 = .ok (.aload_n 1, 1) := by decide +kernel
theorem d_L_law_227 : decode cL_law 227 = .ok (.aload_n 0, 1) := by decide +kernel
theorem d_L_law_228 : decode cL_law 228 = .ok (.iload_n 3, 1) := by decide +kernel
theorem d_L_law_229 : decode cL_law 229 = .ok (.iconst 1, 1) := by decide +kernel
theorem d_L_law_230 : decode cL_law 230 = .ok (.iadd, 1) := by decide +kernel
theorem d_L_law_231 : decode cL_law 231 = .ok (.iaload, 1) := by decide +kernel
theorem d_L_law_232 : decode cL_law 232 = .ok (.aload_n 0, 1) := by decide +kernel
theorem d_L_law_233 : decode cL_law 233 = .ok (.iload_n 3, 1) := by decide +kernel
theorem d_L_law_234 : decode cL_law 234 = .ok (.iconst 2, 1) := by decide +kernel
theorem d_L_law_235 : decode cL_law 235 = .ok (.iadd, 1) := by decide +kernel
theorem d_L_law_236 : decode cL_law 236 = .ok (.iaload, 1) := by decide +kernel
theorem d_L_law_237 : decode cL_law 237 = .ok (.invokevirtual 31, 3) := by decide +kernel
theorem d_L_law_240 : decode cL_law 240 = .ok (.aload_n 2, 1) := by decide +kernel
theorem d_L_law_241 : decode cL_law 241 = .ok (.aload_n 0, 1) := by decide +kernel
theorem d_L_law_242 : decode cL_law 242 = .ok (.iload_n 3, 1) := by decide +kernel
theorem d_L_law_243 : decode cL_law 243 = .ok (.iconst 1, 1) := by decide +kernel
theorem d_L_law_244 : decode cL_law 244 = .ok (.iadd, 1) := by decide +kernel
theorem d_L_law_245 : decode cL_law 245 = .ok (.iaload, 1) := by decide +kernel
theorem d_L_law_246 : decode cL_law 246 = .ok (.aload_n 0, 1) := by decide +kernel
theorem d_L_law_247 : decode cL_law 247 = .ok (.iload_n 3, 1) := by decide +kernel
theorem d_L_law_248 : decode cL_law 248 = .ok (.iconst 2, 1) := by decide +kernel
theorem d_L_law_249 : decode cL_law 249 = .ok (.iadd, 1) := by decide +kernel
theorem d_L_law_250 : decode cL_law 250 = .ok (.iaload, 1) := by decide +kernel
theorem d_L_law_251 : decode cL_law 251 = .ok (.invokevirtual 35, 3) := by decide +kernel
theorem d_L_law_254 : decode cL_law 254 = .ok (.if_icmp .eq 729, 3) := by decide +kernel
theorem d_L_law_257 : decode cL_law 257 = .ok (.iconst 0, 1) := by decide +kernel
theorem d_L_law_258 : decode cL_law 258 = .ok (.ireturn, 1) := by decide +kernel
theorem d_L_law_259 : decode cL_law 259 = .ok (.aload_n 1, 1) := by decide +kernel
theorem d_L_law_260 : decode cL_law 260 = .ok (.aload_n 0, 1) := by decide +kernel
theorem d_L_law_261 : decode cL_law 261 = .ok (.iload_n 3, 1) := by decide +kernel
theorem d_L_law_262 : decode cL_law 262 = .ok (.iconst 1, 1) := by decide +kernel
theorem d_L_law_263 : decode cL_law 263 = .ok (.iadd, 1) := by decide +kernel
theorem d_L_law_264 : decode cL_law 264 = .ok (.iaload, 1) := by decide +kernel
theorem d_L_law_265 : decode cL_law 265 = .ok (.invokevirtual 36, 3) := by decide +kernel
theorem d_L_law_268 : decode cL_law 268 = .ok (.aload_n 2, 1) := by decide +kernel
theorem d_L_law_269 : decode cL_law 269 = .ok (.aload_n 0, 1) := by decide +kernel
theorem d_L_law_270 : decode cL_law 270 = .ok (.iload_n 3, 1) := by decide +kernel
theorem d_L_law_271 : decode cL_law 271 = .ok (.iconst 1, 1) := by decide +kernel
theorem d_L_law_272 : decode cL_law 272 = .ok (.iadd, 1) := by decide +kernel
theorem d_L_law_273 : decode cL_law 273 = .ok (.iaload, 1) := by decide +kernel
theorem d_L_law_274 : decode cL_law 274 = .ok (.invokevirtual 39, 3) := by decide +kernel
theorem d_L_law_277 : decode cL_law 277 = .ok (.if_icmp .eq 706, 3) := by decide +kernel
theorem d_L_law_280 : decode cL_law 280 = .ok (.iconst 0, 1) := by decide +kernel
theorem d_L_law_281 : decode cL_law 281 = .ok (.ireturn, 1) := by decide +kernel
theorem d_L_law_282 : decode cL_law 282 = .ok (.aload_n 1, 1) := by decide +kernel
theorem d_L_law_283 : decode cL_law 283 = .ok (.aload_n 0, 1) := by decide +kernel
theorem d_L_law_284 : decode cL_law 284 = .ok (.iload_n 3, 1) := by decide +kernel
theorem d_L_law_285 : decode cL_law 285 = .ok (.iconst 1, 1) := by decide +kernel
theorem d_L_law_286 : decode cL_law 286 = .ok (.iadd, 1) := by decide +kernel
theorem d_L_law_287 : decode cL_law 287 = .ok (.iaload, 1) := by decide +kernel
theorem d_L_law_288 : decode cL_law 288 = .ok (.aload_n 0, 1) := by decide +kernel
theorem d_L_law_289 : decode cL_law 289 = .ok (.iload_n 3, 1) := by decide +kernel
theorem d_L_law_290 : decode cL_law 290 = .ok (.iconst 2, 1) := by decide +kernel
theorem d_L_law_291 : decode cL_law 291 = .ok (.iadd, 1) := by decide +kernel
theorem d_L_law_292 : decode cL_law 292 = .ok (.iaload, 1) := by decide +kernel
theorem d_L_law_293 : decode cL_law 293 = .ok (.invokevirtual 40, 3) := by decide +kernel
theorem d_L_law_296 : decode cL_law 296 = .ok (.aload_n 2, 1) := by decide +kernel
theorem d_L_law_297 : decode cL_law 297 = .ok (.aload_n 0, 1) := by decide +kernel
theorem d_L_law_298 : decode cL_law 298 = .ok (.iload_n 3, 1) := by decide +kernel
theorem d_L_law_299 : decode cL_law 299 = .ok (.iconst 1, 1) := by decide +kernel
theorem d_L_law_300 : decode cL_law 300 = .ok (.iadd, 1) := by decide +kernel
theorem d_L_law_301 : decode cL_law 301 = .ok (.iaload, 1) := by decide +kernel
theorem d_L_law_302 : decode cL_law 302 = .ok (.aload_n 0, 1) := by decide +kernel
theorem d_L_law_303 : decode cL_law 303 = .ok (.iload_n 3, 1) := by decide +kernel
theorem d_L_law_304 : decode cL_law 304 = .ok (.iconst 2, 1) := by decide +kernel
theorem d_L_law_305 : decode cL_law 305 = .ok (.iadd, 1) := by decide +kernel
theorem d_L_law_306 : decode cL_law 306 = .ok (.iaload, 1) := by decide +kernel
theorem d_L_law_307 : decode cL_law 307 = .ok (.invokevirtual 43, 3) := by decide +kernel
theorem d_L_law_310 : decode cL_law 310 = .ok (.if_icmp .eq 673, 3) := by decide +kernel
theorem d_L_law_313 : decode cL_law 313 = .ok (.iconst 0, 1) := by decide +kernel
theorem d_L_law_314 : decode cL_law 314 = .ok (.ireturn, 1) := by decide +kernel
theorem d_L_law_315 : decode cL_law 315 = .ok (.aload_n 1, 1) := by decide +kernel
theorem d_L_law_316 : decode cL_law 316 = .ok (.aload_n 0, 1) := by decide +kernel
theorem d_L_law_317 : decode cL_law 317 = .ok (.iload_n 3, 1) := by decide +kernel
theorem d_L_law_318 : decode cL_law 318 = .ok (.iconst 1, 1) := by decide +kernel
theorem d_L_law_319 : decode cL_law 319 = .ok (.iadd, 1) := by decide +kernel
theorem d_L_law_320 : decode cL_law 320 = .ok (.iaload, 1) := by decide +kernel
theorem d_L_law_321 : decode cL_law 321 = .ok (.aload_n 0, 1) := by decide +kernel
theorem d_L_law_322 : decode cL_law 322 = .ok (.iload_n 3, 1) := by decide +kernel
theorem d_L_law_323 : decode cL_law 323 = .ok (.iconst 2, 1) := by decide +kernel
theorem d_L_law_324 : decode cL_law 324 = .ok (.iadd, 1) := by decide +kernel
theorem d_L_law_325 : decode cL_law 325 = .ok (.iaload, 1) := by decide +kernel
theorem d_L_law_326 : decode cL_law 326 = .ok (.invokevirtual 44, 3) := by decide +kernel
theorem d_L_law_329 : decode cL_law 329 = .ok (.aload_n 2, 1) := by decide +kernel
theorem d_L_law_330 : decode cL_law 330 = .ok (.aload_n 0, 1) := by decide +kernel
theorem d_L_law_331 : decode cL_law 331 = .ok (.iload_n 3, 1) := by decide +kernel
theorem d_L_law_332 : decode cL_law 332 = .ok (.iconst 1, 1) := by decide +kernel
theorem d_L_law_333 : decode cL_law 333 = .ok (.iadd, 1) := by decide +kernel
theorem d_L_law_334 : decode cL_law 334 = .ok (.iaload, 1) := by decide +kernel
theorem d_L_law_335 : decode cL_law 335 = .ok (.aload_n 0, 1) := by decide +kernel
theorem d_L_law_336 : decode cL_law 336 = .ok (.iload_n 3, 1) := by decide +kernel
theorem d_L_law_337 : decode cL_law 337 = .ok (.iconst 2, 1) := by decide +kernel
theorem d_L_law_338 : decode cL_law 338 = .ok (.iadd, 1) := by decide +kernel
theorem d_L_law_339 : decode cL_law 339 = .ok (.iaload, 1) := by decide +kernel
theorem d_L_law_340 : decode cL_law 340 = .ok (.invokevirtual 47, 3) := by decide +kernel
theorem d_L_law_343 : decode cL_law 343 = .ok (.if_icmp .eq 640, 3) := by decide +kernel
theorem d_L_law_346 : decode cL_law 346 = .ok (.iconst 0, 1) := by decide +kernel
theorem d_L_law_347 : decode cL_law 347 = .ok (.ireturn, 1) := by decide +kernel
theorem d_L_law_348 : decode cL_law 348 = .ok (.aload_n 1, 1) := by decide +kernel
theorem d_L_law_349 : decode cL_law 349 = .ok (.aload_n 0, 1) := by decide +kernel
theorem d_L_law_350 : decode cL_law 350 = .ok (.iload_n 3, 1) := by decide +kernel
theorem d_L_law_351 : decode cL_law 351 = .ok (.iconst 1, 1) := by decide +kernel
theorem d_L_law_352 : decode cL_law 352 = .ok (.iadd, 1) := by decide +kernel
theorem d_L_law_353 : decode cL_law 353 = .ok (.iaload, 1) := by decide +kernel
theorem d_L_law_354 : decode cL_law 354 = .ok (.aload_n 0, 1) := by decide +kernel
theorem d_L_law_355 : decode cL_law 355 = .ok (.iload_n 3, 1) := by decide +kernel
theorem d_L_law_356 : decode cL_law 356 = .ok (.iconst 2, 1) := by decide +kernel
theorem d_L_law_357 : decode cL_law 357 = .ok (.iadd, 1) := by decide +kernel
theorem d_L_law_358 : decode cL_law 358 = .ok (.iaload, 1) := by decide +kernel
theorem d_L_law_359 : decode cL_law 359 = .ok (.invokevirtual 48, 3) := by decide +kernel
theorem d_L_law_362 : decode cL_law 362 = .ok (.aload_n 2, 1) := by decide +kernel
theorem d_L_law_363 : decode cL_law 363 = .ok (.aload_n 0, 1) := by decide +kernel
theorem d_L_law_364 : decode cL_law 364 = .ok (.iload_n 3, 1) := by decide +kernel
theorem d_L_law_365 : decode cL_law 365 = .ok (.iconst 1, 1) := by decide +kernel
theorem d_L_law_366 : decode cL_law 366 = .ok (.iadd, 1) := by decide +kernel
theorem d_L_law_367 : decode cL_law 367 = .ok (.iaload, 1) := by decide +kernel
theorem d_L_law_368 : decode cL_law 368 = .ok (.aload_n 0, 1) := by decide +kernel
theorem d_L_law_369 : decode cL_law 369 = .ok (.iload_n 3, 1) := by decide +kernel
theorem d_L_law_370 : decode cL_law 370 = .ok (.iconst 2, 1) := by decide +kernel
theorem d_L_law_371 : decode cL_law 371 = .ok (.iadd, 1) := by decide +kernel
theorem d_L_law_372 : decode cL_law 372 = .ok (.iaload, 1) := by decide +kernel
theorem d_L_law_373 : decode cL_law 373 = .ok (.invokevirtual 51, 3) := by decide +kernel
theorem d_L_law_376 : decode cL_law 376 = .ok (.if_icmp .eq 607, 3) := by decide +kernel
theorem d_L_law_379 : decode cL_law 379 = .ok (.iconst 0, 1) := by decide +kernel
theorem d_L_law_380 : decode cL_law 380 = .ok (.ireturn, 1) := by decide +kernel
theorem d_L_law_381 : decode cL_law 381 = .ok (.aload_n 1, 1) := by decide +kernel
theorem d_L_law_382 : decode cL_law 382 = .ok (.aload_n 0, 1) := by decide +kernel
theorem d_L_law_383 : decode cL_law 383 = .ok (.iload_n 3, 1) := by decide +kernel
theorem d_L_law_384 : decode cL_law 384 = .ok (.iconst 1, 1) := by decide +kernel
theorem d_L_law_385 : decode cL_law 385 = .ok (.iadd, 1) := by decide +kernel
theorem d_L_law_386 : decode cL_law 386 = .ok (.iaload, 1) := by decide +kernel
theorem d_L_law_387 : decode cL_law 387 = .ok (.aload_n 0, 1) := by decide +kernel
theorem d_L_law_388 : decode cL_law 388 = .ok (.iload_n 3, 1) := by decide +kernel
theorem d_L_law_389 : decode cL_law 389 = .ok (.iconst 2, 1) := by decide +kernel
theorem d_L_law_390 : decode cL_law 390 = .ok (.iadd, 1) := by decide +kernel
theorem d_L_law_391 : decode cL_law 391 = .ok (.iaload, 1) := by decide +kernel
theorem d_L_law_392 : decode cL_law 392 = .ok (.aload_n 0, 1) := by decide +kernel
theorem d_L_law_393 : decode cL_law 393 = .ok (.iload_n 3, 1) := by decide +kernel
theorem d_L_law_394 : decode cL_law 394 = .ok (.iconst 3, 1) := by decide +kernel
theorem d_L_law_395 : decode cL_law 395 = .ok (.iadd, 1) := by decide +kernel
theorem d_L_law_396 : decode cL_law 396 = .ok (.iaload, 1) := by decide +kernel
theorem d_L_law_397 : decode cL_law 397 = .ok (.invokevirtual 52, 3) := by decide +kernel
theorem d_L_law_400 : decode cL_law 400 = .ok (.aload_n 2, 1) := by decide +kernel
theorem d_L_law_401 : decode cL_law 401 = .ok (.aload_n 0, 1) := by decide +kernel
theorem d_L_law_402 : decode cL_law 402 = .ok (.iload_n 3, 1) := by decide +kernel
theorem d_L_law_403 : decode cL_law 403 = .ok (.iconst 1, 1) := by decide +kernel
theorem d_L_law_404 : decode cL_law 404 = .ok (.iadd, 1) := by decide +kernel
theorem d_L_law_405 : decode cL_law 405 = .ok (.iaload, 1) := by decide +kernel
theorem d_L_law_406 : decode cL_law 406 = .ok (.aload_n 0, 1) := by decide +kernel
theorem d_L_law_407 : decode cL_law 407 = .ok (.iload_n 3, 1) := by decide +kernel
theorem d_L_law_408 : decode cL_law 408 = .ok (.iconst 2, 1) := by decide +kernel
theorem d_L_law_409 : decode cL_law 409 = .ok (.iadd, 1) := by decide +kernel
theorem d_L_law_410 : decode cL_law 410 = .ok (.iaload, 1) := by decide +kernel
theorem d_L_law_411 : decode cL_law 411 = .ok (.aload_n 0, 1) := by decide +kernel
theorem d_L_law_412 : decode cL_law 412 = .ok (.iload_n 3, 1) := by decide +kernel
theorem d_L_law_413 : decode cL_law 413 = .ok (.iconst 3, 1) := by decide +kernel
theorem d_L_law_414 : decode cL_law 414 = .ok (.iadd, 1) := by decide +kernel
theorem d_L_law_415 : decode cL_law 415 = .ok (.iaload, 1) := by decide +kernel
theorem d_L_law_416 : decode cL_law 416 = .ok (.invokevirtual 56, 3) := by decide +kernel
theorem d_L_law_419 : decode cL_law 419 = .ok (.if_icmp .eq 564, 3) := by decide +kernel
theorem d_L_law_422 : decode cL_law 422 = .ok (.iconst 0, 1) := by decide +kernel
theorem d_L_law_423 : decode cL_law 423 = .ok (.ireturn, 1) := by decide +kernel
theorem d_L_law_424 : decode cL_law 424 = .ok (.aload_n 1, 1) := by decide +kernel
theorem d_L_law_425 : decode cL_law 425 = .ok (.aload_n 0, 1) := by decide +kernel
theorem d_L_law_426 : decode cL_law 426 = .ok (.iload_n 3, 1) := by decide +kernel
theorem d_L_law_427 : decode cL_law 427 = .ok (.iconst 1, 1) := by decide +kernel
theorem d_L_law_428 : decode cL_law 428 = .ok (.iadd, 1) := by decide +kernel
theorem d_L_law_429 : decode cL_law 429 = .ok (.iaload, 1) := by decide +kernel
theorem d_L_law_430 : decode cL_law 430 = .ok (.aload_n 0, 1) := by decide +kernel
theorem d_L_law_431 : decode cL_law 431 = .ok (.iload_n 3, 1) := by decide +kernel
theorem d_L_law_432 : decode cL_law 432 = .ok (.iconst 2, 1) := by decide +kernel
theorem d_L_law_433 : decode cL_law 433 = .ok (.iadd, 1) := by decide +kernel
theorem d_L_law_434 : decode cL_law 434 = .ok (.iaload, 1) := by decide +kernel
theorem d_L_law_435 : decode cL_law 435 = .ok (.aload_n 0, 1) := by decide +kernel
theorem d_L_law_436 : decode cL_law 436 = .ok (.iload_n 3, 1) := by decide +kernel
theorem d_L_law_437 : decode cL_law 437 = .ok (.iconst 3, 1) := by decide +kernel
theorem d_L_law_438 : decode cL_law 438 = .ok (.iadd, 1) := by decide +kernel
theorem d_L_law_439 : decode cL_law 439 = .ok (.iaload, 1) := by decide +kernel
theorem d_L_law_440 : decode cL_law 440 = .ok (.invokevirtual 57, 3) := by decide +kernel
theorem d_L_law_443 : decode cL_law 443 = .ok (.aload_n 2, 1) := by decide +kernel
theorem d_L_law_444 : decode cL_law 444 = .ok (.aload_n 0, 1) := by decide +kernel
theorem d_L_law_445 : decode cL_law 445 = .ok (.iload_n 3, 1) := by decide +kernel
theorem d_L_law_446 : decode cL_law 446 = .ok (.iconst 1, 1) := by decide +kernel
theorem d_L_law_447 : decode cL_law 447 = .ok (.iadd, 1) := by decide +kernel
theorem d_L_law_448 : decode cL_law 448 = .ok (.iaload, 1) := by decide +kernel
theorem d_L_law_449 : decode cL_law 449 = .ok (.aload_n 0, 1) := by decide +kernel
theorem d_L_law_450 : decode cL_law 450 = .ok (.iload_n 3, 1) := by decide +kernel
theorem d_L_law_451 : decode cL_law 451 = .ok (.iconst 2, 1) := by decide +kernel
theorem d_L_law_452 : decode cL_law 452 = .ok (.iadd, 1) := by decide +kernel
theorem d_L_law_453 : decode cL_law 453 = .ok (.iaload, 1) := by decide +kernel
theorem d_L_law_454 : decode cL_law 454 = .ok (.aload_n 0, 1) := by decide +kernel
theorem d_L_law_455 : decode cL_law 455 = .ok (.iload_n 3, 1) := by decide +kernel
theorem d_L_law_456 : decode cL_law 456 = .ok (.iconst 3, 1) := by decide +kernel
theorem d_L_law_457 : decode cL_law 457 = .ok (.iadd, 1) := by decide +kernel
theorem d_L_law_458 : decode cL_law 458 = .ok (.iaload, 1) := by decide +kernel
theorem d_L_law_459 : decode cL_law 459 = .ok (.invokevirtual 60, 3) := by decide +kernel
theorem d_L_law_462 : decode cL_law 462 = .ok (.if_icmp .eq 521, 3) := by decide +kernel
theorem d_L_law_465 : decode cL_law 465 = .ok (.iconst 0, 1) := by decide +kernel
theorem d_L_law_466 : decode cL_law 466 = .ok (.ireturn, 1) := by decide +kernel
theorem d_L_law_467 : decode cL_law 467 = .ok (.aload_n 1, 1) := by decide +kernel
theorem d_L_law_468 : decode cL_law 468 = .ok (.aload_n 0, 1) := by decide +kernel
theorem d_L_law_469 : decode cL_law 469 = .ok (.iload_n 3, 1) := by decide +kernel
theorem d_L_law_470 : decode cL_law 470 = .ok (.iconst 1, 1) := by decide +kernel
theorem d_L_law_471 : decode cL_law 471 = .ok (.iadd, 1) := by decide +kernel
theorem d_L_law_472 : decode cL_law 472 = .ok (.iaload, 1) := by decide +kernel
theorem d_L_law_473 : decode cL_law 473 = .ok (.aload_n 0, 1) := by decide +kernel
theorem d_L_law_474 : decode cL_law 474 = .ok (.iload_n 3, 1) := by decide +kernel
theorem d_L_law_475 : decode cL_law 475 = .ok (.iconst 2, 1) := by decide +kernel
theorem d_L_law_476 : decode cL_law 476 = .ok (.iadd, 1) := by decide +kernel
theorem d_L_law_477 : decode cL_law 477 = .ok (.iaload, 1) := by decide +kernel
theorem d_L_law_478 : decode cL_law 478 = .ok (.aload_n 0, 1) := by decide +kernel
theorem d_L_law_479 : decode cL_law 479 = .ok (.iload_n 3, 1) := by decide +kernel
theorem d_L_law_480 : decode cL_law 480 = .ok (.iconst 3, 1) := by decide +kernel
theorem d_L_law_481 : decode cL_law 481 = .ok (.iadd, 1) := by decide +kernel
theorem d_L_law_482 : decode cL_law 482 = .ok (.iaload, 1) := by decide +kernel
theorem d_L_law_483 : decode cL_law 483 = .ok (.invokevirtual 61, 3) := by decide +kernel
theorem d_L_law_486 : decode cL_law 486 = .ok (.aload_n 2, 1) := by decide +kernel
theorem d_L_law_487 : decode cL_law 487 = .ok (.aload_n 0, 1) := by decide +kernel
theorem d_L_law_488 : decode cL_law 488 = .ok (.iload_n 3, 1) := by decide +kernel
theorem d_L_law_489 : decode cL_law 489 = .ok (.iconst 1, 1) := by decide +kernel
theorem d_L_law_490 : decode cL_law 490 = .ok (.iadd, 1) := by decide +kernel
theorem d_L_law_491 : decode cL_law 491 = .ok (.iaload, 1) := by decide +kernel
theorem d_L_law_492 : decode cL_law 492 = .ok (.aload_n 0, 1) := by decide +kernel
theorem d_L_law_493 : decode cL_law 493 = .ok (.iload_n 3, 1) := by decide +kernel
theorem d_L_law_494 : decode cL_law 494 = .ok (.iconst 2, 1) := by decide +kernel
theorem d_L_law_495 : decode cL_law 495 = .ok (.iadd, 1) := by decide +kernel
theorem d_L_law_496 : decode cL_law 496 = .ok (.iaload, 1) := by decide +kernel
theorem d_L_law_497 : decode cL_law 497 = .ok (.aload_n 0, 1) := by decide +kernel
theorem d_L_law_498 : decode cL_law 498 = .ok (.iload_n 3, 1) := by decide +kernel
theorem d_L_law_499 : decode cL_law 499 = .ok (.iconst 3, 1) := by decide +kernel
theorem d_L_law_500 : decode cL_law 500 = .ok (.iadd, 1) := by decide +kernel
theorem d_L_law_501 : decode cL_law 501 = .ok (.iaload, 1) := by decide +kernel
theorem d_L_law_502 : decode cL_law 502 = .ok (.invokevirtual 64, 3) := by decide +kernel
theorem d_L_law_505 : decode cL_law 505 = .ok (.if_icmp .eq 478, 3) := by decide +kernel
theorem d_L_law_508 : decode cL_law 508 = .ok (.iconst 0, 1) := by decide +kernel
theorem d_L_law_509 : decode cL_law 509 = .ok (.ireturn, 1) := by decide +kernel
theorem d_L_law_510 : decode cL_law 510 = .ok (.aload_n 1, 1) := by decide +kernel
theorem d_L_law_511 : decode cL_law 511 = .ok (.aload_n 0, 1) := by decide +kernel
theorem d_L_law_512 : decode cL_law 512 = .ok (.iload_n 3, 1) := by decide +kernel
theorem d_L_law_513 : decode cL_law 513 = .ok (.iconst 1, 1) := by decide +kernel
theorem d_L_law_514 : decode cL_law 514 = .ok (.iadd, 1) := by decide +kernel
theorem d_L_law_515 : decode cL_law 515 = .ok (.iaload, 1) := by decide +kernel
theorem d_L_law_516 : decode cL_law 516 = .ok (.aload_n 0, 1) := by decide +kernel
theorem d_L_law_517 : decode cL_law 517 = .ok (.iload_n 3, 1) := by decide +kernel
theorem d_L_law_518 : decode cL_law 518 = .ok (.iconst 2, 1) := by decide +kernel
theorem d_L_law_519 : decode cL_law 519 = .ok (.iadd, 1) := by decide +kernel
theorem d_L_law_520 : decode cL_law 520 = .ok (.iaload, 1) := by decide +kernel
theorem d_L_law_521 : decode cL_law 521 = .ok (.invokevirtual 65, 3) := by decide +kernel
theorem d_L_law_524 : decode cL_law 524 = .ok (.aload_n 2, 1) := by decide +kernel
theorem d_L_law_525 : decode cL_law 525 = .ok (.aload_n 0, 1) := by decide +kernel
theorem d_L_law_526 : decode cL_law 526 = .ok (.iload_n 3, 1) := by decide +kernel
theorem d_L_law_527 : decode cL_law 527 = .ok (.iconst 1, 1) := by decide +kernel
theorem d_L_law_528 : decode cL_law 528 = .ok (.iadd, 1) := by decide +kernel
theorem d_L_law_529 : decode cL_law 529 = .ok (.iaload, 1) := by decide +kernel
theorem d_L_law_530 : decode cL_law 530 = .ok (.aload_n 0, 1) := by decide +kernel
theorem d_L_law_531 : decode cL_law 531 = .ok (.iload_n 3, 1) := by decide +kernel
theorem d_L_law_532 : decode cL_law 532 = .ok (.iconst 2, 1) := by decide +kernel
theorem d_L_law_533 : decode cL_law 533 = .ok (.iadd, 1) := by decide +kernel
theorem d_L_law_534 : decode cL_law 534 = .ok (.iaload, 1) := by decide +kernel
theorem d_L_law_535 : decode cL_law 535 = .ok (.invokevirtual 68, 3) := by decide +kernel
theorem d_L_law_538 : decode cL_law 538 = .ok (.if_icmp .eq 445, 3) := by decide +kernel
theorem d_L_law_541 : decode cL_law 541 = .ok (.iconst 0, 1) := by decide +kernel
theorem d_L_law_542 : decode cL_law 542 = .ok (.ireturn, 1) := by decide +kernel
theorem d_L_law_543 : decode cL_law 543 = .ok (.aload_n 1, 1) := by decide +kernel
theorem d_L_law_544 : decode cL_law 544 = .ok (.aload_n 0, 1) := by decide +kernel
theorem d_L_law_545 : decode cL_law 545 = .ok (.iload_n 3, 1) := by decide +kernel
theorem d_L_law_546 : decode cL_law 546 = .ok (.iconst 1, 1) := by decide +kernel
theorem d_L_law_547 : decode cL_law 547 = .ok (.iadd, 1) := by decide +kernel
theorem d_L_law_548 : decode cL_law 548 = .ok (.iaload, 1) := by decide +kernel
theorem d_L_law_549 : decode cL_law 549 = .ok (.invokevirtual 69, 3) := by decide +kernel
theorem d_L_law_552 : decode cL_law 552 = .ok (.aload_n 2, 1) := by decide +kernel
theorem d_L_law_553 : decode cL_law 553 = .ok (.aload_n 0, 1) := by decide +kernel
theorem d_L_law_554 : decode cL_law 554 = .ok (.iload_n 3, 1) := by decide +kernel
theorem d_L_law_555 : decode cL_law 555 = .ok (.iconst 1, 1) := by decide +kernel
theorem d_L_law_556 : decode cL_law 556 = .ok (.iadd, 1) := by decide +kernel
theorem d_L_law_557 : decode cL_law 557 = .ok (.iaload, 1) := by decide +kernel
theorem d_L_law_558 : decode cL_law 558 = .ok (.invokevirtual 72, 3) := by decide +kernel
theorem d_L_law_561 : decode cL_law 561 = .ok (.if_icmp .eq 422, 3) := by decide +kernel
theorem d_L_law_564 : decode cL_law 564 = .ok (.iconst 0, 1) := by decide +kernel
theorem d_L_law_565 : decode cL_law 565 = .ok (.ireturn, 1) := by decide +kernel
theorem d_L_law_566 : decode cL_law 566 = .ok (.aload_n 1, 1) := by decide +kernel
theorem d_L_law_567 : decode cL_law 567 = .ok (.invokevirtual 73, 3) := by decide +kernel
theorem d_L_law_570 : decode cL_law 570 = .ok (.aload_n 2, 1) := by decide +kernel
theorem d_L_law_571 : decode cL_law 571 = .ok (.invokevirtual 76, 3) := by decide +kernel
theorem d_L_law_574 : decode cL_law 574 = .ok (.if_icmp .eq 409, 3) := by decide +kernel
theorem d_L_law_577 : decode cL_law 577 = .ok (.iconst 0, 1) := by decide +kernel
theorem d_L_law_578 : decode cL_law 578 = .ok (.ireturn, 1) := by decide +kernel
theorem d_L_law_579 : decode cL_law 579 = .ok (.aload_n 1, 1) := by decide +kernel
theorem d_L_law_580 : decode cL_law 580 = .ok (.aload_n 0, 1) := by decide +kernel
theorem d_L_law_581 : decode cL_law 581 = .ok (.iload_n 3, 1) := by decide +kernel
theorem d_L_law_582 : decode cL_law 582 = .ok (.iconst 1, 1) := by decide +kernel
theorem d_L_law_583 : decode cL_law 583 = .ok (.iadd, 1) := by decide +kernel
theorem d_L_law_584 : decode cL_law 584 = .ok (.iaload, 1) := by decide +kernel
theorem d_L_law_585 : decode cL_law 585 = .ok (.aload_n 0, 1) := by decide +kernel
theorem d_L_law_586 : decode cL_law 586 = .ok (.iload_n 3, 1) := by decide +kernel
theorem d_L_law_587 : decode cL_law 587 = .ok (.iconst 2, 1) := by decide +kernel
theorem d_L_law_588 : decode cL_law 588 = .ok (.iadd, 1) := by decide +kernel
theorem d_L_law_589 : decode cL_law 589 = .ok (.iaload, 1) := by decide +kernel
theorem d_L_law_590 : decode cL_law 590 = .ok (.invokevirtual 77, 3) := by decide +kernel
theorem d_L_law_593 : decode cL_law 593 = .ok (.aload_n 2, 1) := by decide +kernel
theorem d_L_law_594 : decode cL_law 594 = .ok (.aload_n 0, 1) := by decide +kernel
theorem d_L_law_595 : decode cL_law 595 = .ok (.iload_n 3, 1) := by decide +kernel
theorem d_L_law_596 : decode cL_law 596 = .ok (.iconst 1, 1) := by decide +kernel
theorem d_L_law_597 : decode cL_law 597 = .ok (.iadd, 1) := by decide +kernel
theorem d_L_law_598 : decode cL_law 598 = .ok (.iaload, 1) := by decide +kernel
theorem d_L_law_599 : decode cL_law 599 = .ok (.aload_n 0, 1) := by decide +kernel
theorem d_L_law_600 : decode cL_law 600 = .ok (.iload_n 3, 1) := by decide +kernel
theorem d_L_law_601 : decode cL_law 601 = .ok (.iconst 2, 1) := by decide +kernel
theorem d_L_law_602 : decode cL_law 602 = .ok (.iadd, 1) := by decide +kernel
theorem d_L_law_603 : decode cL_law 603 = .ok (.iaload, 1) := by decide +kernel
theorem d_L_law_604 : decode cL_law 604 = .ok (.invokevirtual 80, 3) := by decide +kernel
theorem d_L_law_607 : decode cL_law 607 = .ok (.if_icmp .eq 376, 3) := by decide +kernel
theorem d_L_law_610 : decode cL_law 610 = .ok (.iconst 0, 1) := by decide +kernel
theorem d_L_law_611 : decode cL_law 611 = .ok (.ireturn, 1) := by decide +kernel
theorem d_L_law_612 : decode cL_law 612 = .ok (.aload_n 1, 1) := by decide +kernel
theorem d_L_law_613 : decode cL_law 613 = .ok (.aload_n 0, 1) := by decide +kernel
theorem d_L_law_614 : decode cL_law 614 = .ok (.iload_n 3, 1) := by decide +kernel
theorem d_L_law_615 : decode cL_law 615 = .ok (.iconst 1, 1) := by decide +kernel
theorem d_L_law_616 : decode cL_law 616 = .ok (.iadd, 1) := by decide +kernel
theorem d_L_law_617 : decode cL_law 617 = .ok (.iaload, 1) := by decide +kernel
theorem d_L_law_618 : decode cL_law 618 = .ok (.invokevirtual 81, 3) := by decide +kernel
theorem d_L_law_621 : decode cL_law 621 = .ok (.aload_n 2, 1) := by decide +kernel
theorem d_L_law_622 : decode cL_law 622 = .ok (.aload_n 0, 1) := by decide +kernel
theorem d_L_law_623 : decode cL_law 623 = .ok (.iload_n 3, 1) := by decide +kernel
theorem d_L_law_624 : decode cL_law 624 = .ok (.iconst 1, 1) := by decide +kernel
theorem d_L_law_625 : decode cL_law 625 = .ok (.iadd, 1) := by decide +kernel
theorem d_L_law_626 : decode cL_law 626 = .ok (.iaload, 1) := by decide +kernel
theorem d_L_law_627 : decode cL_law 627 = .ok (.invokevirtual 84, 3) := by decide +kernel
theorem d_L_law_630 : decode cL_law 630 = .ok (.if_icmp .eq 353, 3) := by decide +kernel
theorem d_L_law_633 : decode cL_law 633 = .ok (.iconst 0, 1) := by decide +kernel
theorem d_L_law_634 : decode cL_law 634 = .ok (.ireturn, 1) := by decide +kernel
theorem d_L_law_635 : decode cL_law 635 = .ok (.aload_n 1, 1) := by decide +kernel
theorem d_L_law_636 : decode cL_law 636 = .ok (.aload_n 0, 1) := by decide +kernel
theorem d_L_law_637 : decode cL_law 637 = .ok (.iload_n 3, 1) := by decide +kernel
theorem d_L_law_638 : decode cL_law 638 = .ok (.iconst 1, 1) := by decide +kernel
theorem d_L_law_639 : decode cL_law 639 = .ok (.iadd, 1) := by decide +kernel
theorem d_L_law_640 : decode cL_law 640 = .ok (.iaload, 1) := by decide +kernel
theorem d_L_law_641 : decode cL_law 641 = .ok (.invokevirtual 85, 3) := by decide +kernel
theorem d_L_law_644 : decode cL_law 644 = .ok (.aload_n 2, 1) := by decide +kernel
theorem d_L_law_645 : decode cL_law 645 = .ok (.aload_n 0, 1) := by decide +kernel
theorem d_L_law_646 : decode cL_law 646 = .ok (.iload_n 3, 1) := by decide +kernel
theorem d_L_law_647 : decode cL_law 647 = .ok (.iconst 1, 1) := by decide +kernel
theorem d_L_law_648 : decode cL_law 648 = .ok (.iadd, 1) := by decide +kernel
theorem d_L_law_649 : decode cL_law 649 = .ok (.iaload, 1) := by decide +kernel
theorem d_L_law_650 : decode cL_law 650 = .ok (.invokevirtual 88, 3) := by decide +kernel
theorem d_L_law_653 : decode cL_law 653 = .ok (.if_icmp .eq 330, 3) := by decide +kernel
theorem d_L_law_656 : decode cL_law 656 = .ok (.iconst 0, 1) := by decide +kernel
theorem d_L_law_657 : decode cL_law 657 = .ok (.ireturn, 1) := by decide +kernel
theorem d_L_law_658 : decode cL_law 658 = .ok (.aload_n 1, 1) := by decide +kernel
theorem d_L_law_659 : decode cL_law 659 = .ok (.aload_n 0, 1) := by decide +kernel
theorem d_L_law_660 : decode cL_law 660 = .ok (.iload_n 3, 1) := by decide +kernel
theorem d_L_law_661 : decode cL_law 661 = .ok (.iconst 1, 1) := by decide +kernel
theorem d_L_law_662 : decode cL_law 662 = .ok (.iadd, 1) := by decide +kernel
theorem d_L_law_663 : decode cL_law 663 = .ok (.iaload, 1) := by decide +kernel
theorem d_L_law_664 : decode cL_law 664 = .ok (.aload_n 0, 1) := by decide +kernel
theorem d_L_law_665 : decode cL_law 665 = .ok (.iload_n 3, 1) := by decide +kernel
theorem d_L_law_666 : decode cL_law 666 = .ok (.iconst 2, 1) := by decide +kernel
theorem d_L_law_667 : decode cL_law 667 = .ok (.iadd, 1) := by decide +kernel
theorem d_L_law_668 : decode cL_law 668 = .ok (.iaload, 1) := by decide +kernel
theorem d_L_law_669 : decode cL_law 669 = .ok (.invokevirtual 89, 3) := by decide +kernel
theorem d_L_law_672 : decode cL_law 672 = .ok (.aload_n 2, 1) := by decide +kernel
theorem d_L_law_673 : decode cL_law 673 = .ok (.aload_n 0, 1) := by decide +kernel
theorem d_L_law_674 : decode cL_law 674 = .ok (.iload_n 3, 1) := by decide +kernel
theorem d_L_law_675 : decode cL_law 675 = .ok (.iconst 1, 1) := by decide +kernel
theorem d_L_law_676 : decode cL_law 676 = .ok (.iadd, 1) := by decide +kernel
theorem d_L_law_677 : decode cL_law 677 = .ok (.iaload, 1) := by decide +kernel
theorem d_L_law_678 : decode cL_law 678 = .ok (.aload_n 0, 1) := by decide +kernel
theorem d_L_law_679 : decode cL_law 679 = .ok (.iload_n 3, 1) := by decide +kernel
theorem d_L_law_680 : decode cL_law 680 = .ok (.iconst 2, 1) := by decide +kernel
theorem d_L_law_681 : decode cL_law 681 = .ok (.iadd, 1) := by decide +kernel
theorem d_L_law_682 : decode cL_law 682 = .ok (.iaload, 1) := by decide +kernel
theorem d_L_law_683 : decode cL_law 683 = .ok (.invokevirtual 92, 3) := by decide +kernel
theorem d_L_law_686 : decode cL_law 686 = .ok (.if_icmp .eq 297, 3) := by decide +kernel
theorem d_L_law_689 : decode cL_law 689 = .ok (.iconst 0, 1) := by decide +kernel
theorem d_L_law_690 : decode cL_law 690 = .ok (.ireturn, 1) := by decide +kernel
theorem d_L_law_691 : decode cL_law 691 = .ok (.aload_n 1, 1) := by decide +kernel
theorem d_L_law_692 : decode cL_law 692 = .ok (.aload_n 0, 1) := by decide +kernel
theorem d_L_law_693 : decode cL_law 693 = .ok (.iload_n 3, 1) := by decide +kernel
theorem d_L_law_694 : decode cL_law 694 = .ok (.iconst 1, 1) := by decide +kernel
theorem d_L_law_695 : decode cL_law 695 = .ok (.iadd, 1) := by decide +kernel
theorem d_L_law_696 : decode cL_law 696 = .ok (.iaload, 1) := by decide +kernel
theorem d_L_law_697 : decode cL_law 697 = .ok (.invokevirtual 93, 3) := by decide +kernel
theorem d_L_law_700 : decode cL_law 700 = .ok (.aload_n 2, 1) := by decide +kernel
theorem d_L_law_701 : decode cL_law 701 = .ok (.aload_n 0, 1) := by decide +kernel
theorem d_L_law_702 : decode cL_law 702 = .ok (.iload_n 3, 1) := by decide +kernel
theorem d_L_law_703 : decode cL_law 703 = .ok (.iconst 1, 1) := by decide +kernel
theorem d_L_law_704 : decode cL_law 704 = .ok (.iadd, 1) := by decide +kernel
theorem d_L_law_705 : decode cL_law 705 = .ok (.iaload, 1) := by decide +kernel
theorem d_L_law_706 : decode cL_law 706 = .ok (.invokevirtual 96, 3) := by decide +kernel
theorem d_L_law_709 : decode cL_law 709 = .ok (.if_icmp .eq 274, 3) := by decide +kernel
theorem d_L_law_712 : decode cL_law 712 = .ok (.iconst 0, 1) := by decide +kernel
theorem d_L_law_713 : decode cL_law 713 = .ok (.ireturn, 1) := by decide +kernel
theorem d_L_law_714 : decode cL_law 714 = .ok (.aload_n 1, 1) := by decide +kernel
theorem d_L_law_715 : decode cL_law 715 = .ok (.aload_n 0, 1) := by decide +kernel
theorem d_L_law_716 : decode cL_law 716 = .ok (.iload_n 3, 1) := by decide +kernel
theorem d_L_law_717 : decode cL_law 717 = .ok (.iconst 1, 1) := by decide +kernel
theorem d_L_law_718 : decode cL_law 718 = .ok (.iadd, 1) := by decide +kernel
theorem d_L_law_719 : decode cL_law 719 = .ok (.iaload, 1) := by decide +kernel
theorem d_L_law_720 : decode cL_law 720 = .ok (.invokevirtual 97, 3) := by decide +kernel
theorem d_L_law_723 : decode cL_law 723 = .ok (.aload_n 2, 1) := by decide +kernel
theorem d_L_law_724 : decode cL_law 724 = .ok (.aload_n 0, 1) := by decide +kernel
theorem d_L_law_725 : decode cL_law 725 = .ok (.iload_n 3, 1) := by decide +kernel
theorem d_L_law_726 : decode cL_law 726 = .ok (.iconst 1, 1) := by decide +kernel
theorem d_L_law_727 : decode cL_law 727 = .ok (.iadd, 1) := by decide +kernel
theorem d_L_law_728 : decode cL_law 728 = .ok (.iaload, 1) := by decide +kernel
theorem d_L_law_729 : decode cL_law 729 = .ok (.invokevirtual 100, 3) := by decide +kernel
theorem d_L_law_732 : decode cL_law 732 = .ok (.if_icmp .eq 251, 3) := by decide +kernel
theorem d_L_law_735 : decode cL_law 735 = .ok (.iconst 0, 1) := by decide +kernel
theorem d_L_law_736 : decode cL_law 736 = .ok (.ireturn, 1) := by decide +kernel
theorem d_L_law_737 : decode cL_law 737 = .ok (.aload_n 1, 1) := by decide +kernel
theorem d_L_law_738 : decode cL_law 738 = .ok (.aload_n 0, 1) := by decide +kernel
theorem d_L_law_739 : decode cL_law 739 = .ok (.iload_n 3, 1) := by decide +kernel
theorem d_L_law_740 : decode cL_law 740 = .ok (.iconst 1, 1) := by decide +kernel
theorem d_L_law_741 : decode cL_law 741 = .ok (.iadd, 1) := by decide +kernel
theorem d_L_law_742 : decode cL_law 742 = .ok (.iaload, 1) := by decide +kernel
theorem d_L_law_743 : decode cL_law 743 = .ok (.invokevirtual 101, 3) := by decide +kernel
theorem d_L_law_746 : decode cL_law 746 = .ok (.aload_n 2, 1) := by decide +kernel
theorem d_L_law_747 : decode cL_law 747 = .ok (.aload_n 0, 1) := by decide +kernel
theorem d_L_law_748 : decode cL_law 748 = .ok (.iload_n 3, 1) := by decide +kernel
theorem d_L_law_749 : decode cL_law 749 = .ok (.iconst 1, 1) := by decide +kernel
theorem d_L_law_750 : decode cL_law 750 = .ok (.iadd, 1) := by decide +kernel
theorem d_L_law_751 : decode cL_law 751 = .ok (.iaload, 1) := by decide +kernel
theorem d_L_law_752 : decode cL_law 752 = .ok (.invokevirtual 104, 3) := by decide +kernel
theorem d_L_law_755 : decode cL_law 755 = .ok (.if_icmp .eq 228, 3) := by decide +kernel
theorem d_L_law_758 : decode cL_law 758 = .ok (.iconst 0, 1) := by decide +kernel
theorem d_L_law_759 : decode cL_law 759 = .ok (.ireturn, 1) := by decide +kernel
theorem d_L_law_760 : decode cL_law 760 = .ok (.aload_n 1, 1) := by decide +kernel
theorem d_L_law_761 : decode cL_law 761 = .ok (.invokevirtual 105, 3) := by decide +kernel
theorem d_L_law_764 : decode cL_law 764 = .ok (.aload_n 2, 1) := by decide +kernel
theorem d_L_law_765 : decode cL_law 765 = .ok (.invokevirtual 108, 3) := by decide +kernel
theorem d_L_law_768 : decode cL_law 768 = .ok (.if_icmp .eq 215, 3) := by decide +kernel
theorem d_L_law_771 : decode cL_law 771 = .ok (.iconst 0, 1) := by decide +kernel
theorem d_L_law_772 : decode cL_law 772 = .ok (.ireturn, 1) := by decide +kernel
theorem d_L_law_773 : decode cL_law 773 = .ok (.aload_n 1, 1) := by decide +kernel
theorem d_L_law_774 : decode cL_law 774 = .ok (.aload_n 0, 1) := by decide +kernel
theorem d_L_law_775 : decode cL_law 775 = .ok (.iload_n 3, 1) := by decide +kernel
theorem d_L_law_776 : decode cL_law 776 = .ok (.iconst 1, 1) := by decide +kernel
theorem d_L_law_777 : decode cL_law 777 = .ok (.iadd, 1) := by decide +kernel
theorem d_L_law_778 : decode cL_law 778 = .ok (.iaload, 1) := by decide +kernel
theorem d_L_law_779 : decode cL_law 779 = .ok (.aload_n 0, 1) := by decide +kernel
theorem d_L_law_780 : decode cL_law 780 = .ok (.iload_n 3, 1) := by decide +kernel
theorem d_L_law_781 : decode cL_law 781 = .ok (.iconst 2, 1) := by decide +kernel
theorem d_L_law_782 : decode cL_law 782 = .ok (.iadd, 1) := by decide +kernel
theorem d_L_law_783 : decode cL_law 783 = .ok (.iaload, 1) := by decide +kernel
theorem d_L_law_784 : decode cL_law 784 = .ok (.aload_n 0, 1) := by decide +kernel
theorem d_L_law_785 : decode cL_law 785 = .ok (.iload_n 3, 1) := by decide +kernel
theorem d_L_law_786 : decode cL_law 786 = .ok (.iconst 3, 1) := by decide +kernel
theorem d_L_law_787 : decode cL_law 787 = .ok (.iadd, 1) := by decide +kernel
theorem d_L_law_788 : decode cL_law 788 = .ok (.iaload, 1) := by decide +kernel
theorem d_L_law_789 : decode cL_law 789 = .ok (.invokevirtual 109, 3) := by decide +kernel
theorem d_L_law_792 : decode cL_law 792 = .ok (.aload_n 2, 1) := by decide +kernel
theorem d_L_law_793 : decode cL_law 793 = .ok (.aload_n 0, 1) := by decide +kernel
theorem d_L_law_794 : decode cL_law 794 = .ok (.iload_n 3, 1) := by decide +kernel
theorem d_L_law_795 : decode cL_law 795 = .ok (.iconst 1, 1) := by decide +kernel
theorem d_L_law_796 : decode cL_law 796 = .ok (.iadd, 1) := by decide +kernel
theorem d_L_law_797 : decode cL_law 797 = .ok (.iaload, 1) := by decide +kernel
theorem d_L_law_798 : decode cL_law 798 = .ok (.aload_n 0, 1) := by decide +kernel
theorem d_L_law_799 : decode cL_law 799 = .ok (.iload_n 3, 1) := by decide +kernel
theorem d_L_law_800 : decode cL_law 800 = .ok (.iconst 2, 1) := by decide +kernel
theorem d_L_law_801 : decode cL_law 801 = .ok (.iadd, 1) := by decide +kernel
theorem d_L_law_802 : decode cL_law 802 = .ok (.iaload, 1) := by decide +kernel
theorem d_L_law_803 : decode cL_law 803 = .ok (.aload_n 0, 1) := by decide +kernel
theorem d_L_law_804 : decode cL_law 804 = .ok (.iload_n 3, 1) := by decide +kernel
theorem d_L_law_805 : decode cL_law 805 = .ok (.iconst 3, 1) := by decide +kernel
theorem d_L_law_806 : decode cL_law 806 = .ok (.iadd, 1) := by decide +kernel
theorem d_L_law_807 : decode cL_law 807 = .ok (.iaload, 1) := by decide +kernel
theorem d_L_law_808 : decode cL_law 808 = .ok (.invokevirtual 112, 3) := by decide +kernel
theorem d_L_law_811 : decode cL_law 811 = .ok (.if_icmp .eq 172, 3) := by decide +kernel
theorem d_L_law_814 : decode cL_law 814 = .ok (.iconst 0, 1) := by decide +kernel
theorem d_L_law_815 : decode cL_law 815 = .ok (.ireturn, 1) := by decide +kernel
theorem d_L_law_816 : decode cL_law 816 = .ok (.aload_n 1, 1) := by decide +kernel
theorem d_L_law_817 : decode cL_law 817 = .ok (.aload_n 0, 1) := by decide +kernel
theorem d_L_law_818 : decode cL_law 818 = .ok (.iload_n 3, 1) := by decide +kernel
theorem d_L_law_819 : decode cL_law 819 = .ok (.iconst 1, 1) := by decide +kernel
theorem d_L_law_820 : decode cL_law 820 = .ok (.iadd, 1) := by decide +kernel
theorem d_L_law_821 : decode cL_law 821 = .ok (.iaload, 1) := by decide +kernel
theorem d_L_law_822 : decode cL_law 822 = .ok (.aload_n 0, 1) := by decide +kernel
theorem d_L_law_823 : decode cL_law 823 = .ok (.iload_n 3, 1) := by decide +kernel
theorem d_L_law_824 : decode cL_law 824 = .ok (.iconst 2, 1) := by decide +kernel
theorem d_L_law_825 : decode cL_law 825 = .ok (.iadd, 1) := by decide +kernel
theorem d_L_law_826 : decode cL_law 826 = .ok (.iaload, 1) := by decide +kernel
theorem d_L_law_827 : decode cL_law 827 = .ok (.aload_n 0, 1) := by decide +kernel
theorem d_L_law_828 : decode cL_law 828 = .ok (.iload_n 3, 1) := by decide +kernel
theorem d_L_law_829 : decode cL_law 829 = .ok (.iconst 3, 1) := by decide +kernel
theorem d_L_law_830 : decode cL_law 830 = .ok (.iadd, 1) := by decide +kernel
theorem d_L_law_831 : decode cL_law 831 = .ok (.iaload, 1) := by decide +kernel
theorem d_L_law_832 : decode cL_law 832 = .ok (.aload_n 0, 1) := by decide +kernel
theorem d_L_law_833 : decode cL_law 833 = .ok (.iload_n 3, 1) := by decide +kernel
theorem d_L_law_834 : decode cL_law 834 = .ok (.iconst 4, 1) := by decide +kernel
theorem d_L_law_835 : decode cL_law 835 = .ok (.iadd, 1) := by decide +kernel
theorem d_L_law_836 : decode cL_law 836 = .ok (.iaload, 1) := by decide +kernel
theorem d_L_law_837 : decode cL_law 837 = .ok (.aload_n 0, 1) := by decide +kernel
theorem d_L_law_838 : decode cL_law 838 = .ok (.iload_n 3, 1) := by decide +kernel
theorem d_L_law_839 : decode cL_law 839 = .ok (.iconst 5, 1) := by decide +kernel
theorem d_L_law_840 : decode cL_law 840 = .ok (.iadd, 1) := by decide +kernel
theorem d_L_law_841 : decode cL_law 841 = .ok (.iaload, 1) := by decide +kernel
theorem d_L_law_842 : decode cL_law 842 = .ok (.aload_n 0, 1) := by decide +kernel
theorem d_L_law_843 : decode cL_law 843 = .ok (.iload_n 3, 1) := by decide +kernel
theorem d_L_law_844 : decode cL_law 844 = .ok (.bipush 6, 2) := by decide +kernel
theorem d_L_law_846 : decode cL_law 846 = .ok (.iadd, 1) := by decide +kernel
theorem d_L_law_847 : decode cL_law 847 = .ok (.iaload, 1) := by decide +kernel
theorem d_L_law_848 : decode cL_law 848 = .ok (.invokevirtual 113, 3) := by decide +kernel
theorem d_L_law_851 : decode cL_law 851 = .ok (.aload_n 2, 1) := by decide +kernel
theorem d_L_law_852 : decode cL_law 852 = .ok (.aload_n 0, 1) := by decide +kernel
theorem d_L_law_853 : decode cL_law 853 = .ok (.iload_n 3, 1) := by decide +kernel
theorem d_L_law_854 : decode cL_law 854 = .ok (.iconst 1, 1) := by decide +kernel
theorem d_L_law_855 : decode cL_law 855 = .ok (.iadd, 1) := by decide +kernel
theorem d_L_law_856 : decode cL_law 856 = .ok (.iaload, 1) := by decide +kernel
theorem d_L_law_857 : decode cL_law 857 = .ok (.aload_n 0, 1) := by decide +kernel
theorem d_L_law_858 : decode cL_law 858 = .ok (.iload_n 3, 1) := by decide +kernel
theorem d_L_law_859 : decode cL_law 859 = .ok (.iconst 2, 1) := by decide +kernel
theorem d_L_law_860 : decode cL_law 860 = .ok (.iadd, 1) := by decide +kernel
theorem d_L_law_861 : decode cL_law 861 = .ok (.iaload, 1) := by decide +kernel
theorem d_L_law_862 : decode cL_law 862 = .ok (.aload_n 0, 1) := by decide +kernel
theorem d_L_law_863 : decode cL_law 863 = .ok (.iload_n 3, 1) := by decide +kernel
theorem d_L_law_864 : decode cL_law 864 = .ok (.iconst 3, 1) := by decide +kernel
theorem d_L_law_865 : decode cL_law 865 = .ok (.iadd, 1) := by decide +kernel
theorem d_L_law_866 : decode cL_law 866 = .ok (.iaload, 1) := by decide +kernel
theorem d_L_law_867 : decode cL_law 867 = .ok (.aload_n 0, 1) := by decide +kernel
theorem d_L_law_868 : decode cL_law 868 = .ok (.iload_n 3, 1) := by decide +kernel
theorem d_L_law_869 : decode cL_law 869 = .ok (.iconst 4, 1) := by decide +kernel
theorem d_L_law_870 : decode cL_law 870 = .ok (.iadd, 1) := by decide +kernel
theorem d_L_law_871 : decode cL_law 871 = .ok (.iaload, 1) := by decide +kernel
theorem d_L_law_872 : decode cL_law 872 = .ok (.aload_n 0, 1) := by decide +kernel
theorem d_L_law_873 : decode cL_law 873 = .ok (.iload_n 3, 1) := by decide +kernel
theorem d_L_law_874 : decode cL_law 874 = .ok (.iconst 5, 1) := by decide +kernel
theorem d_L_law_875 : decode cL_law 875 = .ok (.iadd, 1) := by decide +kernel
theorem d_L_law_876 : decode cL_law 876 = .ok (.iaload, 1) := by decide +kernel
theorem d_L_law_877 : decode cL_law 877 = .ok (.aload_n 0, 1) := by decide +kernel
theorem d_L_law_878 : decode cL_law 878 = .ok (.iload_n 3, 1) := by decide +kernel
theorem d_L_law_879 : decode cL_law 879 = .ok (.bipush 6, 2) := by decide +kernel
theorem d_L_law_881 : decode cL_law 881 = .ok (.iadd, 1) := by decide +kernel
theorem d_L_law_882 : decode cL_law 882 = .ok (.iaload, 1) := by decide +kernel
theorem d_L_law_883 : decode cL_law 883 = .ok (.invokevirtual 117, 3) := by decide +kernel
theorem d_L_law_886 : decode cL_law 886 = .ok (.if_icmp .eq 97, 3) := by decide +kernel
theorem d_L_law_889 : decode cL_law 889 = .ok (.iconst 0, 1) := by decide +kernel
theorem d_L_law_890 : decode cL_law 890 = .ok (.ireturn, 1) := by decide +kernel
theorem d_L_law_891 : decode cL_law 891 = .ok (.aload_n 1, 1) := by decide +kernel
theorem d_L_law_892 : decode cL_law 892 = .ok (.aload_n 0, 1) := by decide +kernel
theorem d_L_law_893 : decode cL_law 893 = .ok (.iload_n 3, 1) := by decide +kernel
theorem d_L_law_894 : decode cL_law 894 = .ok (.iconst 1, 1) := by decide +kernel
theorem d_L_law_895 : decode cL_law 895 = .ok (.iadd, 1) := by decide +kernel
theorem d_L_law_896 : decode cL_law 896 = .ok (.iaload, 1) := by decide +kernel
theorem d_L_law_897 : decode cL_law 897 = .ok (.aload_n 0, 1) := by decide +kernel
theorem d_L_law_898 : decode cL_law 898 = .ok (.iload_n 3, 1) := by decide +kernel
theorem d_L_law_899 : decode cL_law 899 = .ok (.iconst 2, 1) := by decide +kernel
theorem d_L_law_900 : decode cL_law 900 = .ok (.iadd, 1) := by decide +kernel
theorem d_L_law_901 : decode cL_law 901 = .ok (.iaload, 1) := by decide +kernel
theorem d_L_law_902 : decode cL_law 902 = .ok (.aload_n 0, 1) := by decide +kernel
theorem d_L_law_903 : decode cL_law 903 = .ok (.iload_n 3, 1) := by decide +kernel
theorem d_L_law_904 : decode cL_law 904 = .ok (.iconst 3, 1) := by decide +kernel
theorem d_L_law_905 : decode cL_law 905 = .ok (.iadd, 1) := by decide +kernel
theorem d_L_law_906 : decode cL_law 906 = .ok (.iaload, 1) := by decide +kernel
theorem d_L_law_907 : decode cL_law 907 = .ok (.invokevirtual 118, 3) := by decide +kernel
theorem d_L_law_910 : decode cL_law 910 = .ok (.aload_n 2, 1) := by decide +kernel
theorem d_L_law_911 : decode cL_law 911 = .ok (.aload_n 0, 1) := by decide +kernel
theorem d_L_law_912 : decode cL_law 912 = .ok (.iload_n 3, 1) := by decide +kernel
theorem d_L_law_913 : decode cL_law 913 = .ok (.iconst 1, 1) := by decide +kernel
theorem d_L_law_914 : decode cL_law 914 = .ok (.iadd, 1) := by decide +kernel
theorem d_L_law_915 : decode cL_law 915 = .ok (.iaload, 1) := by decide +kernel
theorem d_L_law_916 : decode cL_law 916 = .ok (.aload_n 0, 1) := by decide +kernel
theorem d_L_law_917 : decode cL_law 917 = .ok (.iload_n 3, 1) := by decide +kernel
theorem d_L_law_918 : decode cL_law 918 = .ok (.iconst 2, 1) := by decide +kernel
theorem d_L_law_919 : decode cL_law 919 = .ok (.iadd, 1) := by decide +kernel
theorem d_L_law_920 : decode cL_law 920 = .ok (.iaload, 1) := by decide +kernel
theorem d_L_law_921 : decode cL_law 921 = .ok (.aload_n 0, 1) := by decide +kernel
theorem d_L_law_922 : decode cL_law 922 = .ok (.iload_n 3, 1) := by decide +kernel
theorem d_L_law_923 : decode cL_law 923 = .ok (.iconst 3, 1) := by decide +kernel
theorem d_L_law_924 : decode cL_law 924 = .ok (.iadd, 1) := by decide +kernel
theorem d_L_law_925 : decode cL_law 925 = .ok (.iaload, 1) := by decide +kernel
theorem d_L_law_926 : decode cL_law 926 = .ok (.invokevirtual 121, 3) := by decide +kernel
theorem d_L_law_929 : decode cL_law 929 = .ok (.if_icmp .eq 54, 3) := by decide +kernel
theorem d_L_law_932 : decode cL_law 932 = .ok (.iconst 0, 1) := by decide +kernel
theorem d_L_law_933 : decode cL_law 933 = .ok (.ireturn, 1) := by decide +kernel
theorem d_L_law_934 : decode cL_law 934 = .ok (.aload_n 1, 1) := by decide +kernel
theorem d_L_law_935 : decode cL_law 935 = .ok (.invokevirtual 122, 3) := by decide +kernel
theorem d_L_law_938 : decode cL_law 938 = .ok (.aload_n 2, 1) := by decide +kernel
theorem d_L_law_939 : decode cL_law 939 = .ok (.invokevirtual 125, 3) := by decide +kernel
theorem d_L_law_942 : decode cL_law 942 = .ok (.if_icmp .eq 41, 3) := by decide +kernel
theorem d_L_law_945 : decode cL_law 945 = .ok (.iconst 0, 1) := by decide +kernel
theorem d_L_law_946 : decode cL_law 946 = .ok (.ireturn, 1) := by decide +kernel
theorem d_L_law_947 : decode cL_law 947 = .ok (.aload_n 1, 1) := by decide +kernel
theorem d_L_law_948 : decode cL_law 948 = .ok (.invokevirtual 126, 3) := by decide +kernel
theorem d_L_law_951 : decode cL_law 951 = .ok (.aload_n 2, 1) := by decide +kernel
theorem d_L_law_952 : decode cL_law 952 = .ok (.invokevirtual 129, 3) := by decide +kernel
theorem d_L_law_955 : decode cL_law 955 = .ok (.if_icmp .eq 28, 3) := by decide +kernel
theorem d_L_law_958 : decode cL_law 958 = .ok (.iconst 0, 1) := by decide +kernel
theorem d_L_law_959 : decode cL_law 959 = .ok (.ireturn, 1) := by decide +kernel
theorem d_L_law_960 : decode cL_law 960 = .ok (.aload_n 1, 1) := by decide +kernel
theorem d_L_law_961 : decode cL_law 961 = .ok (.aload_n 0, 1) := by decide +kernel
theorem d_L_law_962 : decode cL_law 962 = .ok (.iload_n 3, 1) := by decide +kernel
theorem d_L_law_963 : decode cL_law 963 = .ok (.iconst 1, 1) := by decide +kernel
theorem d_L_law_964 : decode cL_law 964 = .ok (.iadd, 1) := by decide +kernel
theorem d_L_law_965 : decode cL_law 965 = .ok (.iaload, 1) := by decide +kernel
theorem d_L_law_966 : decode cL_law 966 = .ok (.invokevirtual 130, 3) := by decide +kernel
theorem d_L_law_969 : decode cL_law 969 = .ok (.aload_n 2, 1) := by decide +kernel
theorem d_L_law_970 : decode cL_law 970 = .ok (.aload_n 0, 1) := by decide +kernel
theorem d_L_law_971 : decode cL_law 971 = .ok (.iload_n 3, 1) := by decide +kernel
theorem d_L_law_972 : decode cL_law 972 = .ok (.iconst 1, 1) := by decide +kernel
theorem d_L_law_973 : decode cL_law 973 = .ok (.iadd, 1) := by decide +kernel
theorem d_L_law_974 : decode cL_law 974 = .ok (.iaload, 1) := by decide +kernel
theorem d_L_law_975 : decode cL_law 975 = .ok (.invokevirtual 133, 3) := by decide +kernel
theorem d_L_law_978 : decode cL_law 978 = .ok (.if_icmp .eq 5, 3) := by decide +kernel
theorem d_L_law_981 : decode cL_law 981 = .ok (.iconst 0, 1) := by decide +kernel
theorem d_L_law_982 : decode cL_law 982 = .ok (.ireturn, 1) := by decide +kernel
theorem d_L_law_983 : decode cL_law 983 = .ok (.iinc 3 7, 3) := by decide +kernel
theorem d_L_law_986 : decode cL_law 986 = .ok (.goto (-968), 3) := by decide +kernel
theorem d_L_law_989 : decode cL_law 989 = .ok (.iconst 1, 1) := by decide +kernel
theorem d_L_law_990 : decode cL_law 990 = .ok (.ireturn, 1) := by decide +kernel
def t_L_law_0 (sx : QX) : List (Nat × QO) := [(18, o_il 3 19), (19, o_al 0 20), (20, o_slen sx 21), (21, o_k 7 23), (23, o_b (fun x y => x - y) 24), (24, o_ic (fun x y => decide (y < x)) 989 27), (27, o_al 0 28), (28, o_il 3 29), (29, o_sld sx 30), (30, o_k 31 32), (32, o_b (fun x y => x &&& y) 33), (33, o_sw [(0, 164), (1, 187), (2, 200), (3, 213), (4, 226), (5, 259), (6, 282), (7, 315), (8, 348), (9, 381), (10, 424), (11, 467), (12, 510), (13, 543), (14, 566), (15, 579), (16, 612), (17, 635), (18, 658), (19, 691), (20, 714), (21, 737), (22, 760), (23, 773), (24, 816), (25, 891), (26, 934), (27, 947), (28, 960)] 983)]
theorem ts_L_law_0 (sx : QX) : ∀ q ∈ t_L_law_0 sx, q_Snd sx RL cL_law 4 (some .boolean) q.1 q.2 := List.forall_mem_cons.mpr ⟨s_iload_n d_L_law_18 rfl, List.forall_mem_cons.mpr ⟨s_aload_n d_L_law_19 rfl, List.forall_mem_cons.mpr ⟨s_slen d_L_law_20, List.forall_mem_cons.mpr ⟨s_bipush d_L_law_21 rfl, List.forall_mem_cons.mpr ⟨s_isub d_L_law_23, List.forall_mem_cons.mpr ⟨s_ic_gt d_L_law_24 (by decide), List.forall_mem_cons.mpr ⟨s_aload_n d_L_law_27 rfl, List.forall_mem_cons.mpr ⟨s_iload_n d_L_law_28 rfl, List.forall_mem_cons.mpr ⟨s_sld d_L_law_29, List.forall_mem_cons.mpr ⟨s_bipush d_L_law_30 rfl, List.forall_mem_cons.mpr ⟨s_iand d_L_law_32, List.forall_mem_cons.mpr ⟨s_tsw d_L_law_33 (by decide +kernel) (by decide) (by decide), fun _ h => absurd h List.not_mem_nil⟩⟩⟩⟩⟩⟩⟩⟩⟩⟩⟩⟩
def t_L_law_1 (sx : QX) : List (Nat × QO) := [(164, o_al 1 165), (165, o_al 0 166), (166, o_il 3 167), (167, o_k 1 168), (168, o_b (fun x y => x + y) 169), (169, o_sld sx 170), (170, o_cV 1 6 56 2 2 173), (173, o_al 2 174), (174, o_al 0 175), (175, o_il 3 176), (176, o_k 1 177), (177, o_b (fun x y => x + y) 178)]
theorem ts_L_law_1 (sx : QX) : ∀ q ∈ t_L_law_1 sx, q_Snd sx RL cL_law 4 (some .boolean) q.1 q.2 := List.forall_mem_cons.mpr ⟨s_aload_n d_L_law_164 rfl, List.forall_mem_cons.mpr ⟨s_aload_n d_L_law_165 rfl, List.forall_mem_cons.mpr ⟨s_iload_n d_L_law_166 rfl, List.forall_mem_cons.mpr ⟨s_iconst d_L_law_167 rfl, List.forall_mem_cons.mpr ⟨s_iadd d_L_law_168, List.forall_mem_cons.mpr ⟨s_sld d_L_law_169, List.forall_mem_cons.mpr ⟨s_cV (T := TX6) (N := 9) rfl d_L_law_170 rfl k_2_146 k_2_147 k_2_148 k_1_1 k_2_149 ⟨by decide, by decide⟩ (by decide +kernel) (by decide), List.forall_mem_cons.mpr ⟨s_aload_n d_L_law_173 rfl, List.forall_mem_cons.mpr ⟨s_aload_n d_L_law_174 rfl, List.forall_mem_cons.mpr ⟨s_iload_n d_L_law_175 rfl, List.forall_mem_cons.mpr ⟨s_iconst d_L_law_176 rfl, List.forall_mem_cons.mpr ⟨s_iadd d_L_law_177, fun _ h => absurd h List.not_mem_nil⟩⟩⟩⟩⟩⟩⟩⟩⟩⟩⟩⟩
def t_L_law_2 (sx : QX) : List (Nat × QO) := [(178, o_sld sx 179), (179, o_cV 1 7 114 2 2 182), (182, o_ic (fun x y => decide (x = y)) 983 185), (185, o_k 0 186), (186, o_ir true), (187, o_al 1 188), (188, o_cV 1 6 57 2 1 191), (191, o_al 2 192), (192, o_cV 1 7 115 2 1 195), (195, o_ic (fun x y => decide (x = y)) 983 198), (198, o_k 0 199), (199, o_ir true)]
theorem ts_L_law_2 (sx : QX) : ∀ q ∈ t_L_law_2 sx, q_Snd sx RL cL_law 4 (some .boolean) q.1 q.2 := List.forall_mem_cons.mpr ⟨s_sld d_L_law_178, List.forall_mem_cons.mpr ⟨s_cV (T := TX7) (N := 30) rfl d_L_law_179 rfl k_4_120 k_4_121 k_4_122 k_1_12 k_4_123 ⟨by decide, by decide⟩ (by decide +kernel) (by decide), List.forall_mem_cons.mpr ⟨s_ic_eq d_L_law_182 (by decide), List.forall_mem_cons.mpr ⟨s_iconst d_L_law_185 rfl, List.forall_mem_cons.mpr ⟨s_zr d_L_law_186 rfl, List.forall_mem_cons.mpr ⟨s_aload_n d_L_law_187 rfl, List.forall_mem_cons.mpr ⟨s_cV (T := TX6) (N := 9) rfl d_L_law_188 rfl k_2_150 k_2_151 k_2_152 k_1_1 k_2_153 ⟨by decide, by decide⟩ (by decide +kernel) (by decide), List.forall_mem_cons.mpr ⟨s_aload_n d_L_law_191 rfl, List.forall_mem_cons.mpr ⟨s_cV (T := TX7) (N := 30) rfl d_L_law_192 rfl k_4_129 k_4_130 k_4_131 k_1_12 k_4_132 ⟨by decide, by decide⟩ (by decide +kernel) (by decide), List.forall_mem_cons.mpr ⟨s_ic_eq d_L_law_195 (by decide), List.forall_mem_cons.mpr ⟨s_iconst d_L_law_198 rfl, List.forall_mem_cons.mpr ⟨s_zr d_L_law_199 rfl, fun _ h => absurd h List.not_mem_nil⟩⟩⟩⟩⟩⟩⟩⟩⟩⟩⟩⟩
def t_L_law_3 (sx : QX) : List (Nat × QO) := [(200, o_al 1 201), (201, o_cV 1 6 58 1 1 204), (204, o_al 2 205), (205, o_cV 1 7 125 1 1 208), (208, o_ic (fun x y => decide (x = y)) 983 211), (211, o_k 0 212), (212, o_ir true), (213, o_al 1 214), (214, o_cV 1 6 59 1 1 217), (217, o_al 2 218), (218, o_cV 1 7 126 1 1 221), (221, o_ic (fun x y => decide (x = y)) 983 224)]
theorem ts_L_law_3 (sx : QX) : ∀ q ∈ t_L_law_3 sx, q_Snd sx RL cL_law 4 (some .boolean) q.1 q.2 := List.forall_mem_cons.mpr ⟨s_aload_n d_L_law_200 rfl, List.forall_mem_cons.mpr ⟨s_cV (T := TX6) (N := 9) rfl d_L_law_201 rfl k_2_154 k_2_155 k_2_156 k_1_1 k_2_157 ⟨by decide, by decide⟩ (by decide +kernel) (by decide), List.forall_mem_cons.mpr ⟨s_aload_n d_L_law_204 rfl, List.forall_mem_cons.mpr ⟨s_cV (T := TX7) (N := 30) rfl d_L_law_205 rfl k_4_133 k_4_134 k_4_135 k_1_12 k_4_136 ⟨by decide, by decide⟩ (by decide +kernel) (by decide), List.forall_mem_cons.mpr ⟨s_ic_eq d_L_law_208 (by decide), List.forall_mem_cons.mpr ⟨s_iconst d_L_law_211 rfl, List.forall_mem_cons.mpr ⟨s_zr d_L_law_212 rfl, List.forall_mem_cons.mpr ⟨s_aload_n d_L_law_213 rfl, List.forall_mem_cons.mpr ⟨s_cV (T := TX6) (N := 9) rfl d_L_law_214 rfl k_2_158 k_2_159 k_2_160 k_1_1 k_2_161 ⟨by decide, by decide⟩ (by decide +kernel) (by decide), List.forall_mem_cons.mpr ⟨s_aload_n d_L_law_217 rfl, List.forall_mem_cons.mpr ⟨s_cV (T := TX7) (N := 30) rfl d_L_law_218 rfl k_4_175 k_4_176 k_4_177 k_1_12 k_4_178 ⟨by decide, by decide⟩ (by decide +kernel) (by decide), List.forall_mem_cons.mpr ⟨s_ic_eq d_L_law_221 (by decide), fun _ h => absurd h List.not_mem_nil⟩⟩⟩⟩⟩⟩⟩⟩⟩⟩⟩⟩
def t_L_law_4 (sx : QX) : List (Nat × QO) := [(224, o_k 0 225), (225, o_ir true), (226, o_al 1 227), (227, o_al 0 228), (228, o_il 3 229), (229, o_k 1 230), (230, o_b (fun x y => x + y) 231), (231, o_sld sx 232), (232, o_al 0 233), (233, o_il 3 234), (234, o_k 2 235), (235, o_b (fun x y => x + y) 236)]
theorem ts_L_law_4 (sx : QX) : ∀ q ∈ t_L_law_4 sx, q_Snd sx RL cL_law 4 (some .boolean) q.1 q.2 := List.forall_mem_cons.mpr ⟨s_iconst d_L_law_224 rfl, List.forall_mem_cons.mpr ⟨s_zr d_L_law_225 rfl, List.forall_mem_cons.mpr ⟨s_aload_n d_L_law_226 rfl, List.forall_mem_cons.mpr ⟨s_aload_n d_L_law_227 rfl, List.forall_mem_cons.mpr ⟨s_iload_n d_L_law_228 rfl, List.forall_mem_cons.mpr ⟨s_iconst d_L_law_229 rfl, List.forall_mem_cons.mpr ⟨s_iadd d_L_law_230, List.forall_mem_cons.mpr ⟨s_sld d_L_law_231, List.forall_mem_cons.mpr ⟨s_aload_n d_L_law_232 rfl, List.forall_mem_cons.mpr ⟨s_iload_n d_L_law_233 rfl, List.forall_mem_cons.mpr ⟨s_iconst d_L_law_234 rfl, List.forall_mem_cons.mpr ⟨s_iadd d_L_law_235, fun _ h => absurd h List.not_mem_nil⟩⟩⟩⟩⟩⟩⟩⟩⟩⟩⟩⟩
def t_L_law_5 (sx : QX) : List (Nat × QO) := [(236, o_sld sx 237), (237, o_cV 1 6 60 3 3 240), (240, o_al 2 241), (241, o_al 0 242), (242, o_il 3 243), (243, o_k 1 244), (244, o_b (fun x y => x + y) 245), (245, o_sld sx 246), (246, o_al 0 247), (247, o_il 3 248), (248, o_k 2 249), (249, o_b (fun x y => x + y) 250)]
theorem ts_L_law_5 (sx : QX) : ∀ q ∈ t_L_law_5 sx, q_Snd sx RL cL_law 4 (some .boolean) q.1 q.2 := List.forall_mem_cons.mpr ⟨s_sld d_L_law_236, List.forall_mem_cons.mpr ⟨s_cV (T := TX6) (N := 9) rfl d_L_law_237 rfl k_2_166 k_2_167 k_2_168 k_1_1 k_2_169 ⟨by decide, by decide⟩ (by decide +kernel) (by decide), List.forall_mem_cons.mpr ⟨s_aload_n d_L_law_240 rfl, List.forall_mem_cons.mpr ⟨s_aload_n d_L_law_241 rfl, List.forall_mem_cons.mpr ⟨s_iload_n d_L_law_242 rfl, List.forall_mem_cons.mpr ⟨s_iconst d_L_law_243 rfl, List.forall_mem_cons.mpr ⟨s_iadd d_L_law_244, List.forall_mem_cons.mpr ⟨s_sld d_L_law_245, List.forall_mem_cons.mpr ⟨s_aload_n d_L_law_246 rfl, List.forall_mem_cons.mpr ⟨s_iload_n d_L_law_247 rfl, List.forall_mem_cons.mpr ⟨s_iconst d_L_law_248 rfl, List.forall_mem_cons.mpr ⟨s_iadd d_L_law_249, fun _ h => absurd h List.not_mem_nil⟩⟩⟩⟩⟩⟩⟩⟩⟩⟩⟩⟩
def t_L_law_6 (sx : QX) : List (Nat × QO) := [(250, o_sld sx 251), (251, o_cV 1 7 127 3 3 254), (254, o_ic (fun x y => decide (x = y)) 983 257), (257, o_k 0 258), (258, o_ir true), (259, o_al 1 260), (260, o_al 0 261), (261, o_il 3 262), (262, o_k 1 263), (263, o_b (fun x y => x + y) 264), (264, o_sld sx 265), (265, o_cV 1 6 61 2 2 268)]
theorem ts_L_law_6 (sx : QX) : ∀ q ∈ t_L_law_6 sx, q_Snd sx RL cL_law 4 (some .boolean) q.1 q.2 := List.forall_mem_cons.mpr ⟨s_sld d_L_law_250, List.forall_mem_cons.mpr ⟨s_cV (T := TX7) (N := 30) rfl d_L_law_251 rfl k_4_179 k_4_180 k_4_181 k_1_12 k_4_182 ⟨by decide, by decide⟩ (by decide +kernel) (by decide), List.forall_mem_cons.mpr ⟨s_ic_eq d_L_law_254 (by decide), List.forall_mem_cons.mpr ⟨s_iconst d_L_law_257 rfl, List.forall_mem_cons.mpr ⟨s_zr d_L_law_258 rfl, List.forall_mem_cons.mpr ⟨s_aload_n d_L_law_259 rfl, List.forall_mem_cons.mpr ⟨s_aload_n d_L_law_260 rfl, List.forall_mem_cons.mpr ⟨s_iload_n d_L_law_261 rfl, List.forall_mem_cons.mpr ⟨s_iconst d_L_law_262 rfl, List.forall_mem_cons.mpr ⟨s_iadd d_L_law_263, List.forall_mem_cons.mpr ⟨s_sld d_L_law_264, List.forall_mem_cons.mpr ⟨s_cV (T := TX6) (N := 9) rfl d_L_law_265 rfl k_2_175 k_2_176 k_2_177 k_1_1 k_2_178 ⟨by decide, by decide⟩ (by decide +kernel) (by decide), fun _ h => absurd h List.not_mem_nil⟩⟩⟩⟩⟩⟩⟩⟩⟩⟩⟩⟩
def t_L_law_7 (sx : QX) : List (Nat × QO) := [(268, o_al 2 269), (269, o_al 0 270), (270, o_il 3 271), (271, o_k 1 272), (272, o_b (fun x y => x + y) 273), (273, o_sld sx 274), (274, o_cV 1 7 128 2 2 277), (277, o_ic (fun x y => decide (x = y)) 983 280), (280, o_k 0 281), (281, o_ir true), (282, o_al 1 283), (283, o_al 0 284)]
theorem ts_L_law_7 (sx : QX) : ∀ q ∈ t_L_law_7 sx, q_Snd sx RL cL_law 4 (some .boolean) q.1 q.2 := List.forall_mem_cons.mpr ⟨s_aload_n d_L_law_268 rfl, List.forall_mem_cons.mpr ⟨s_aload_n d_L_law_269 rfl, List.forall_mem_cons.mpr ⟨s_iload_n d_L_law_270 rfl, List.forall_mem_cons.mpr ⟨s_iconst d_L_law_271 rfl, List.forall_mem_cons.mpr ⟨s_iadd d_L_law_272, List.forall_mem_cons.mpr ⟨s_sld d_L_law_273, List.forall_mem_cons.mpr ⟨s_cV (T := TX7) (N := 30) rfl d_L_law_274 rfl k_4_187 k_4_188 k_4_189 k_1_12 k_4_190 ⟨by decide, by decide⟩ (by decide +kernel) (by decide), List.forall_mem_cons.mpr ⟨s_ic_eq d_L_law_277 (by decide), List.forall_mem_cons.mpr ⟨s_iconst d_L_law_280 rfl, List.forall_mem_cons.mpr ⟨s_zr d_L_law_281 rfl, List.forall_mem_cons.mpr ⟨s_aload_n d_L_law_282 rfl, List.forall_mem_cons.mpr ⟨s_aload_n d_L_law_283 rfl, fun _ h => absurd h List.not_mem_nil⟩⟩⟩⟩⟩⟩⟩⟩⟩⟩⟩⟩
def t_L_law_8 (sx : QX) : List (Nat × QO) := [(284, o_il 3 285), (285, o_k 1 286), (286, o_b (fun x y => x + y) 287), (287, o_sld sx 288), (288, o_al 0 289), (289, o_il 3 290), (290, o_k 2 291), (291, o_b (fun x y => x + y) 292), (292, o_sld sx 293), (293, o_cV 1 6 62 3 3 296), (296, o_al 2 297), (297, o_al 0 298)]
theorem ts_L_law_8 (sx : QX) : ∀ q ∈ t_L_law_8 sx, q_Snd sx RL cL_law 4 (some .boolean) q.1 q.2 := List.forall_mem_cons.mpr ⟨s_iload_n d_L_law_284 rfl, List.forall_mem_cons.mpr ⟨s_iconst d_L_law_285 rfl, List.forall_mem_cons.mpr ⟨s_iadd d_L_law_286, List.forall_mem_cons.mpr ⟨s_sld d_L_law_287, List.forall_mem_cons.mpr ⟨s_aload_n d_L_law_288 rfl, List.forall_mem_cons.mpr ⟨s_iload_n d_L_law_289 rfl, List.forall_mem_cons.mpr ⟨s_iconst d_L_law_290 rfl, List.forall_mem_cons.mpr ⟨s_iadd d_L_law_291, List.forall_mem_cons.mpr ⟨s_sld d_L_law_292, List.forall_mem_cons.mpr ⟨s_cV (T := TX6) (N := 9) rfl d_L_law_293 rfl k_2_183 k_2_184 k_2_185 k_1_1 k_2_186 ⟨by decide, by decide⟩ (by decide +kernel) (by decide), List.forall_mem_cons.mpr ⟨s_aload_n d_L_law_296 rfl, List.forall_mem_cons.mpr ⟨s_aload_n d_L_law_297 rfl, fun _ h => absurd h List.not_mem_nil⟩⟩⟩⟩⟩⟩⟩⟩⟩⟩⟩⟩
def t_L_law_9 (sx : QX) : List (Nat × QO) := [(298, o_il 3 299), (299, o_k 1 300), (300, o_b (fun x y => x + y) 301), (301, o_sld sx 302), (302, o_al 0 303), (303, o_il 3 304), (304, o_k 2 305), (305, o_b (fun x y => x + y) 306), (306, o_sld sx 307), (307, o_cV 1 7 129 3 3 310), (310, o_ic (fun x y => decide (x = y)) 983 313), (313, o_k 0 314)]
theorem ts_L_law_9 (sx : QX) : ∀ q ∈ t_L_law_9 sx, q_Snd sx RL cL_law 4 (some .boolean) q.1 q.2 := List.forall_mem_cons.mpr ⟨s_iload_n d_L_law_298 rfl, List.forall_mem_cons.mpr ⟨s_iconst d_L_law_299 rfl, List.forall_mem_cons.mpr ⟨s_iadd d_L_law_300, List.forall_mem_cons.mpr ⟨s_sld d_L_law_301, List.forall_mem_cons.mpr ⟨s_aload_n d_L_law_302 rfl, List.forall_mem_cons.mpr ⟨s_iload_n d_L_law_303 rfl, List.forall_mem_cons.mpr ⟨s_iconst d_L_law_304 rfl, List.forall_mem_cons.mpr ⟨s_iadd d_L_law_305, List.forall_mem_cons.mpr ⟨s_sld d_L_law_306, List.forall_mem_cons.mpr ⟨s_cV (T := TX7) (N := 30) rfl d_L_law_307 rfl k_4_195 k_4_196 k_4_197 k_1_12 k_4_198 ⟨by decide, by decide⟩ (by decide +kernel) (by decide), List.forall_mem_cons.mpr ⟨s_ic_eq d_L_law_310 (by decide), List.forall_mem_cons.mpr ⟨s_iconst d_L_law_313 rfl, fun _ h => absurd h List.not_mem_nil⟩⟩⟩⟩⟩⟩⟩⟩⟩⟩⟩⟩
def t_L_law_10 (sx : QX) : List (Nat × QO) := [(314, o_ir true), (315, o_al 1 316), (316, o_al 0 317), (317, o_il 3 318), (318, o_k 1 319), (319, o_b (fun x y => x + y) 320), (320, o_sld sx 321), (321, o_al 0 322), (322, o_il 3 323), (323, o_k 2 324), (324, o_b (fun x y => x + y) 325), (325, o_sld sx 326)]
theorem ts_L_law_10 (sx : QX) : ∀ q ∈ t_L_law_10 sx, q_Snd sx RL cL_law 4 (some .boolean) q.1 q.2 := List.forall_mem_cons.mpr ⟨s_zr d_L_law_314 rfl, List.forall_mem_cons.mpr ⟨s_aload_n d_L_law_315 rfl, List.forall_mem_cons.mpr ⟨s_aload_n d_L_law_316 rfl, List.forall_mem_cons.mpr ⟨s_iload_n d_L_law_317 rfl, List.forall_mem_cons.mpr ⟨s_iconst d_L_law_318 rfl, List.forall_mem_cons.mpr ⟨s_iadd d_L_law_319, List.forall_mem_cons.mpr ⟨s_sld d_L_law_320, List.forall_mem_cons.mpr ⟨s_aload_n d_L_law_321 rfl, List.forall_mem_cons.mpr ⟨s_iload_n d_L_law_322 rfl, List.forall_mem_cons.mpr ⟨s_iconst d_L_law_323 rfl, List.forall_mem_cons.mpr ⟨s_iadd d_L_law_324, List.forall_mem_cons.mpr ⟨s_sld d_L_law_325, fun _ h => absurd h List.not_mem_nil⟩⟩⟩⟩⟩⟩⟩⟩⟩⟩⟩⟩
def t_L_law_11 (sx : QX) : List (Nat × QO) := [(326, o_cV 1 6 63 3 3 329), (329, o_al 2 330), (330, o_al 0 331), (331, o_il 3 332), (332, o_k 1 333), (333, o_b (fun x y => x + y) 334), (334, o_sld sx 335), (335, o_al 0 336), (336, o_il 3 337), (337, o_k 2 338), (338, o_b (fun x y => x + y) 339), (339, o_sld sx 340)]
theorem ts_L_law_11 (sx : QX) : ∀ q ∈ t_L_law_11 sx, q_Snd sx RL cL_law 4 (some .boolean) q.1 q.2 := List.forall_mem_cons.mpr ⟨s_cV (T := TX6) (N := 9) rfl d_L_law_326 rfl k_2_191 k_2_192 k_2_193 k_1_1 k_2_194 ⟨by decide, by decide⟩ (by decide +kernel) (by decide), List.forall_mem_cons.mpr ⟨s_aload_n d_L_law_329 rfl, List.forall_mem_cons.mpr ⟨s_aload_n d_L_law_330 rfl, List.forall_mem_cons.mpr ⟨s_iload_n d_L_law_331 rfl, List.forall_mem_cons.mpr ⟨s_iconst d_L_law_332 rfl, List.forall_mem_cons.mpr ⟨s_iadd d_L_law_333, List.forall_mem_cons.mpr ⟨s_sld d_L_law_334, List.forall_mem_cons.mpr ⟨s_aload_n d_L_law_335 rfl, List.forall_mem_cons.mpr ⟨s_iload_n d_L_law_336 rfl, List.forall_mem_cons.mpr ⟨s_iconst d_L_law_337 rfl, List.forall_mem_cons.mpr ⟨s_iadd d_L_law_338, List.forall_mem_cons.mpr ⟨s_sld d_L_law_339, fun _ h => absurd h List.not_mem_nil⟩⟩⟩⟩⟩⟩⟩⟩⟩⟩⟩⟩
def t_L_law_12 (sx : QX) : List (Nat × QO) := [(340, o_cV 1 7 130 3 3 343), (343, o_ic (fun x y => decide (x = y)) 983 346), (346, o_k 0 347), (347, o_ir true), (348, o_al 1 349), (349, o_al 0 350), (350, o_il 3 351), (351, o_k 1 352), (352, o_b (fun x y => x + y) 353), (353, o_sld sx 354), (354, o_al 0 355), (355, o_il 3 356)]
theorem ts_L_law_12 (sx : QX) : ∀ q ∈ t_L_law_12 sx, q_Snd sx RL cL_law 4 (some .boolean) q.1 q.2 := List.forall_mem_cons.mpr ⟨s_cV (T := TX7) (N := 30) rfl d_L_law_340 rfl k_4_203 k_4_204 k_4_205 k_1_12 k_4_206 ⟨by decide, by decide⟩ (by decide +kernel) (by decide), List.forall_mem_cons.mpr ⟨s_ic_eq d_L_law_343 (by decide), List.forall_mem_cons.mpr ⟨s_iconst d_L_law_346 rfl, List.forall_mem_cons.mpr ⟨s_zr d_L_law_347 rfl, List.forall_mem_cons.mpr ⟨s_aload_n d_L_law_348 rfl, List.forall_mem_cons.mpr ⟨s_aload_n d_L_law_349 rfl, List.forall_mem_cons.mpr ⟨s_iload_n d_L_law_350 rfl, List.forall_mem_cons.mpr ⟨s_iconst d_L_law_351 rfl, List.forall_mem_cons.mpr ⟨s_iadd d_L_law_352, List.forall_mem_cons.mpr ⟨s_sld d_L_law_353, List.forall_mem_cons.mpr ⟨s_aload_n d_L_law_354 rfl, List.forall_mem_cons.mpr ⟨s_iload_n d_L_law_355 rfl, fun _ h => absurd h List.not_mem_nil⟩⟩⟩⟩⟩⟩⟩⟩⟩⟩⟩⟩
def t_L_law_13 (sx : QX) : List (Nat × QO) := [(356, o_k 2 357), (357, o_b (fun x y => x + y) 358), (358, o_sld sx 359), (359, o_cV 1 6 64 3 3 362), (362, o_al 2 363), (363, o_al 0 364), (364, o_il 3 365), (365, o_k 1 366), (366, o_b (fun x y => x + y) 367), (367, o_sld sx 368), (368, o_al 0 369), (369, o_il 3 370)]
theorem ts_L_law_13 (sx : QX) : ∀ q ∈ t_L_law_13 sx, q_Snd sx RL cL_law 4 (some .boolean) q.1 q.2 := List.forall_mem_cons.mpr ⟨s_iconst d_L_law_356 rfl, List.forall_mem_cons.mpr ⟨s_iadd d_L_law_357, List.forall_mem_cons.mpr ⟨s_sld d_L_law_358, List.forall_mem_cons.mpr ⟨s_cV (T := TX6) (N := 9) rfl d_L_law_359 rfl k_2_201 k_2_202 k_2_203 k_1_1 k_2_204 ⟨by decide, by decide⟩ (by decide +kernel) (by decide), List.forall_mem_cons.mpr ⟨s_aload_n d_L_law_362 rfl, List.forall_mem_cons.mpr ⟨s_aload_n d_L_law_363 rfl, List.forall_mem_cons.mpr ⟨s_iload_n d_L_law_364 rfl, List.forall_mem_cons.mpr ⟨s_iconst d_L_law_365 rfl, List.forall_mem_cons.mpr ⟨s_iadd d_L_law_366, List.forall_mem_cons.mpr ⟨s_sld d_L_law_367, List.forall_mem_cons.mpr ⟨s_aload_n d_L_law_368 rfl, List.forall_mem_cons.mpr ⟨s_iload_n d_L_law_369 rfl, fun _ h => absurd h List.not_mem_nil⟩⟩⟩⟩⟩⟩⟩⟩⟩⟩⟩⟩
def t_L_law_14 (sx : QX) : List (Nat × QO) := [(370, o_k 2 371), (371, o_b (fun x y => x + y) 372), (372, o_sld sx 373), (373, o_cV 1 7 131 3 3 376), (376, o_ic (fun x y => decide (x = y)) 983 379), (379, o_k 0 380), (380, o_ir true), (381, o_al 1 382), (382, o_al 0 383), (383, o_il 3 384), (384, o_k 1 385), (385, o_b (fun x y => x + y) 386)]
theorem ts_L_law_14 (sx : QX) : ∀ q ∈ t_L_law_14 sx, q_Snd sx RL cL_law 4 (some .boolean) q.1 q.2 := List.forall_mem_cons.mpr ⟨s_iconst d_L_law_370 rfl, List.forall_mem_cons.mpr ⟨s_iadd d_L_law_371, List.forall_mem_cons.mpr ⟨s_sld d_L_law_372, List.forall_mem_cons.mpr ⟨s_cV (T := TX7) (N := 30) rfl d_L_law_373 rfl k_4_207 k_4_208 k_4_209 k_1_12 k_4_210 ⟨by decide, by decide⟩ (by decide +kernel) (by decide), List.forall_mem_cons.mpr ⟨s_ic_eq d_L_law_376 (by decide), List.forall_mem_cons.mpr ⟨s_iconst d_L_law_379 rfl, List.forall_mem_cons.mpr ⟨s_zr d_L_law_380 rfl, List.forall_mem_cons.mpr ⟨s_aload_n d_L_law_381 rfl, List.forall_mem_cons.mpr ⟨s_aload_n d_L_law_382 rfl, List.forall_mem_cons.mpr ⟨s_iload_n d_L_law_383 rfl, List.forall_mem_cons.mpr ⟨s_iconst d_L_law_384 rfl, List.forall_mem_cons.mpr ⟨s_iadd d_L_law_385, fun _ h => absurd h List.not_mem_nil⟩⟩⟩⟩⟩⟩⟩⟩⟩⟩⟩⟩
def t_L_law_15 (sx : QX) : List (Nat × QO) := [(386, o_sld sx 387), (387, o_al 0 388), (388, o_il 3 389), (389, o_k 2 390), (390, o_b (fun x y => x + y) 391), (391, o_sld sx 392), (392, o_al 0 393), (393, o_il 3 394), (394, o_k 3 395), (395, o_b (fun x y => x + y) 396), (396, o_sld sx 397), (397, o_cV 1 6 65 4 4 400)]
theorem ts_L_law_15 (sx : QX) : ∀ q ∈ t_L_law_15 sx, q_Snd sx RL cL_law 4 (some .boolean) q.1 q.2 := List.forall_mem_cons.mpr ⟨s_sld d_L_law_386, List.forall_mem_cons.mpr ⟨s_aload_n d_L_law_387 rfl, List.forall_mem_cons.mpr ⟨s_iload_n d_L_law_388 rfl, List.forall_mem_cons.mpr ⟨s_iconst d_L_law_389 rfl, List.forall_mem_cons.mpr ⟨s_iadd d_L_law_390, List.forall_mem_cons.mpr ⟨s_sld d_L_law_391, List.forall_mem_cons.mpr ⟨s_aload_n d_L_law_392 rfl, List.forall_mem_cons.mpr ⟨s_iload_n d_L_law_393 rfl, List.forall_mem_cons.mpr ⟨s_iconst d_L_law_394 rfl, List.forall_mem_cons.mpr ⟨s_iadd d_L_law_395, List.forall_mem_cons.mpr ⟨s_sld d_L_law_396, List.forall_mem_cons.mpr ⟨s_cV (T := TX6) (N := 9) rfl d_L_law_397 rfl k_2_210 k_2_211 k_2_212 k_1_1 k_2_213 ⟨by decide, by decide⟩ (by decide +kernel) (by decide), fun _ h => absurd h List.not_mem_nil⟩⟩⟩⟩⟩⟩⟩⟩⟩⟩⟩⟩
def t_L_law_16 (sx : QX) : List (Nat × QO) := [(400, o_al 2 401), (401, o_al 0 402), (402, o_il 3 403), (403, o_k 1 404), (404, o_b (fun x y => x + y) 405), (405, o_sld sx 406), (406, o_al 0 407), (407, o_il 3 408), (408, o_k 2 409), (409, o_b (fun x y => x + y) 410), (410, o_sld sx 411), (411, o_al 0 412)]
theorem ts_L_law_16 (sx : QX) : ∀ q ∈ t_L_law_16 sx, q_Snd sx RL cL_law 4 (some .boolean) q.1 q.2 := List.forall_mem_cons.mpr ⟨s_aload_n d_L_law_400 rfl, List.forall_mem_cons.mpr ⟨s_aload_n d_L_law_401 rfl, List.forall_mem_cons.mpr ⟨s_iload_n d_L_law_402 rfl, List.forall_mem_cons.mpr ⟨s_iconst d_L_law_403 rfl, List.forall_mem_cons.mpr ⟨s_iadd d_L_law_404, List.forall_mem_cons.mpr ⟨s_sld d_L_law_405, List.forall_mem_cons.mpr ⟨s_aload_n d_L_law_406 rfl, List.forall_mem_cons.mpr ⟨s_iload_n d_L_law_407 rfl, List.forall_mem_cons.mpr ⟨s_iconst d_L_law_408 rfl, List.forall_mem_cons.mpr ⟨s_iadd d_L_law_409, List.forall_mem_cons.mpr ⟨s_sld d_L_law_410, List.forall_mem_cons.mpr ⟨s_aload_n d_L_law_411 rfl, fun _ h => absurd h List.not_mem_nil⟩⟩⟩⟩⟩⟩⟩⟩⟩⟩⟩⟩
def t_L_law_17 (sx : QX) : List (Nat × QO) := [(412, o_il 3 413), (413, o_k 3 414), (414, o_b (fun x y => x + y) 415), (415, o_sld sx 416), (416, o_cV 1 7 137 4 4 419), (419, o_ic (fun x y => decide (x = y)) 983 422), (422, o_k 0 423), (423, o_ir true), (424, o_al 1 425), (425, o_al 0 426), (426, o_il 3 427), (427, o_k 1 428)]
theorem ts_L_law_17 (sx : QX) : ∀ q ∈ t_L_law_17 sx, q_Snd sx RL cL_law 4 (some .boolean) q.1 q.2 := List.forall_mem_cons.mpr ⟨s_iload_n d_L_law_412 rfl, List.forall_mem_cons.mpr ⟨s_iconst d_L_law_413 rfl, List.forall_mem_cons.mpr ⟨s_iadd d_L_law_414, List.forall_mem_cons.mpr ⟨s_sld d_L_law_415, List.forall_mem_cons.mpr ⟨s_cV (T := TX7) (N := 30) rfl d_L_law_416 rfl k_4_211 k_4_212 k_4_213 k_1_12 k_4_214 ⟨by decide, by decide⟩ (by decide +kernel) (by decide), List.forall_mem_cons.mpr ⟨s_ic_eq d_L_law_419 (by decide), List.forall_mem_cons.mpr ⟨s_iconst d_L_law_422 rfl, List.forall_mem_cons.mpr ⟨s_zr d_L_law_423 rfl, List.forall_mem_cons.mpr ⟨s_aload_n d_L_law_424 rfl, List.forall_mem_cons.mpr ⟨s_aload_n d_L_law_425 rfl, List.forall_mem_cons.mpr ⟨s_iload_n d_L_law_426 rfl, List.forall_mem_cons.mpr ⟨s_iconst d_L_law_427 rfl, fun _ h => absurd h List.not_mem_nil⟩⟩⟩⟩⟩⟩⟩⟩⟩⟩⟩⟩
def t_L_law_18 (sx : QX) : List (Nat × QO) := [(428, o_b (fun x y => x + y) 429), (429, o_sld sx 430), (430, o_al 0 431), (431, o_il 3 432), (432, o_k 2 433), (433, o_b (fun x y => x + y) 434), (434, o_sld sx 435), (435, o_al 0 436), (436, o_il 3 437), (437, o_k 3 438), (438, o_b (fun x y => x + y) 439), (439, o_sld sx 440)]
theorem ts_L_law_18 (sx : QX) : ∀ q ∈ t_L_law_18 sx, q_Snd sx RL cL_law 4 (some .boolean) q.1 q.2 := List.forall_mem_cons.mpr ⟨s_iadd d_L_law_428, List.forall_mem_cons.mpr ⟨s_sld d_L_law_429, List.forall_mem_cons.mpr ⟨s_aload_n d_L_law_430 rfl, List.forall_mem_cons.mpr ⟨s_iload_n d_L_law_431 rfl, List.forall_mem_cons.mpr ⟨s_iconst d_L_law_432 rfl, List.forall_mem_cons.mpr ⟨s_iadd d_L_law_433, List.forall_mem_cons.mpr ⟨s_sld d_L_law_434, List.forall_mem_cons.mpr ⟨s_aload_n d_L_law_435 rfl, List.forall_mem_cons.mpr ⟨s_iload_n d_L_law_436 rfl, List.forall_mem_cons.mpr ⟨s_iconst d_L_law_437 rfl, List.forall_mem_cons.mpr ⟨s_iadd d_L_law_438, List.forall_mem_cons.mpr ⟨s_sld d_L_law_439, fun _ h => absurd h List.not_mem_nil⟩⟩⟩⟩⟩⟩⟩⟩⟩⟩⟩⟩
def t_L_law_19 (sx : QX) : List (Nat × QO) := [(440, o_cV 1 6 66 4 4 443), (443, o_al 2 444), (444, o_al 0 445), (445, o_il 3 446), (446, o_k 1 447), (447, o_b (fun x y => x + y) 448), (448, o_sld sx 449), (449, o_al 0 450), (450, o_il 3 451), (451, o_k 2 452), (452, o_b (fun x y => x + y) 453), (453, o_sld sx 454)]
theorem ts_L_law_19 (sx : QX) : ∀ q ∈ t_L_law_19 sx, q_Snd sx RL cL_law 4 (some .boolean) q.1 q.2 := List.forall_mem_cons.mpr ⟨s_cV (T := TX6) (N := 9) rfl d_L_law_440 rfl k_2_226 k_2_227 k_2_228 k_1_1 k_2_229 ⟨by decide, by decide⟩ (by decide +kernel) (by decide), List.forall_mem_cons.mpr ⟨s_aload_n d_L_law_443 rfl, List.forall_mem_cons.mpr ⟨s_aload_n d_L_law_444 rfl, List.forall_mem_cons.mpr ⟨s_iload_n d_L_law_445 rfl, List.forall_mem_cons.mpr ⟨s_iconst d_L_law_446 rfl, List.forall_mem_cons.mpr ⟨s_iadd d_L_law_447, List.forall_mem_cons.mpr ⟨s_sld d_L_law_448, List.forall_mem_cons.mpr ⟨s_aload_n d_L_law_449 rfl, List.forall_mem_cons.mpr ⟨s_iload_n d_L_law_450 rfl, List.forall_mem_cons.mpr ⟨s_iconst d_L_law_451 rfl, List.forall_mem_cons.mpr ⟨s_iadd d_L_law_452, List.forall_mem_cons.mpr ⟨s_sld d_L_law_453, fun _ h => absurd h List.not_mem_nil⟩⟩⟩⟩⟩⟩⟩⟩⟩⟩⟩⟩
def t_L_law_20 (sx : QX) : List (Nat × QO) := [(454, o_al 0 455), (455, o_il 3 456), (456, o_k 3 457), (457, o_b (fun x y => x + y) 458), (458, o_sld sx 459), (459, o_cV 1 7 147 4 4 462), (462, o_ic (fun x y => decide (x = y)) 983 465), (465, o_k 0 466), (466, o_ir true), (467, o_al 1 468), (468, o_al 0 469), (469, o_il 3 470)]
theorem ts_L_law_20 (sx : QX) : ∀ q ∈ t_L_law_20 sx, q_Snd sx RL cL_law 4 (some .boolean) q.1 q.2 := List.forall_mem_cons.mpr ⟨s_aload_n d_L_law_454 rfl, List.forall_mem_cons.mpr ⟨s_iload_n d_L_law_455 rfl, List.forall_mem_cons.mpr ⟨s_iconst d_L_law_456 rfl, List.forall_mem_cons.mpr ⟨s_iadd d_L_law_457, List.forall_mem_cons.mpr ⟨s_sld d_L_law_458, List.forall_mem_cons.mpr ⟨s_cV (T := TX7) (N := 30) rfl d_L_law_459 rfl k_4_234 k_4_235 k_4_236 k_1_12 k_4_237 ⟨by decide, by decide⟩ (by decide +kernel) (by decide), List.forall_mem_cons.mpr ⟨s_ic_eq d_L_law_462 (by decide), List.forall_mem_cons.mpr ⟨s_iconst d_L_law_465 rfl, List.forall_mem_cons.mpr ⟨s_zr d_L_law_466 rfl, List.forall_mem_cons.mpr ⟨s_aload_n d_L_law_467 rfl, List.forall_mem_cons.mpr ⟨s_aload_n d_L_law_468 rfl, List.forall_mem_cons.mpr ⟨s_iload_n d_L_law_469 rfl, fun _ h => absurd h List.not_mem_nil⟩⟩⟩⟩⟩⟩⟩⟩⟩⟩⟩⟩
def t_L_law_21 (sx : QX) : List (Nat × QO) := [(470, o_k 1 471), (471, o_b (fun x y => x + y) 472), (472, o_sld sx 473), (473, o_al 0 474), (474, o_il 3 475), (475, o_k 2 476), (476, o_b (fun x y => x + y) 477), (477, o_sld sx 478), (478, o_al 0 479), (479, o_il 3 480), (480, o_k 3 481), (481, o_b (fun x y => x + y) 482)]
theorem ts_L_law_21 (sx : QX) : ∀ q ∈ t_L_law_21 sx, q_Snd sx RL cL_law 4 (some .boolean) q.1 q.2 := List.forall_mem_cons.mpr ⟨s_iconst d_L_law_470 rfl, List.forall_mem_cons.mpr ⟨s_iadd d_L_law_471, List.forall_mem_cons.mpr ⟨s_sld d_L_law_472, List.forall_mem_cons.mpr ⟨s_aload_n d_L_law_473 rfl, List.forall_mem_cons.mpr ⟨s_iload_n d_L_law_474 rfl, List.forall_mem_cons.mpr ⟨s_iconst d_L_law_475 rfl, List.forall_mem_cons.mpr ⟨s_iadd d_L_law_476, List.forall_mem_cons.mpr ⟨s_sld d_L_law_477, List.forall_mem_cons.mpr ⟨s_aload_n d_L_law_478 rfl, List.forall_mem_cons.mpr ⟨s_iload_n d_L_law_479 rfl, List.forall_mem_cons.mpr ⟨s_iconst d_L_law_480 rfl, List.forall_mem_cons.mpr ⟨s_iadd d_L_law_481, fun _ h => absurd h List.not_mem_nil⟩⟩⟩⟩⟩⟩⟩⟩⟩⟩⟩⟩
def t_L_law_22 (sx : QX) : List (Nat × QO) := [(482, o_sld sx 483), (483, o_cV 1 6 67 5 4 486), (486, o_al 2 487), (487, o_al 0 488), (488, o_il 3 489), (489, o_k 1 490), (490, o_b (fun x y => x + y) 491), (491, o_sld sx 492), (492, o_al 0 493), (493, o_il 3 494), (494, o_k 2 495), (495, o_b (fun x y => x + y) 496)]
theorem ts_L_law_22 (sx : QX) : ∀ q ∈ t_L_law_22 sx, q_Snd sx RL cL_law 4 (some .boolean) q.1 q.2 := List.forall_mem_cons.mpr ⟨s_sld d_L_law_482, List.forall_mem_cons.mpr ⟨s_cV (T := TX6) (N := 9) rfl d_L_law_483 rfl k_3_23 k_3_24 k_3_25 k_1_1 k_3_26 ⟨by decide, by decide⟩ (by decide +kernel) (by decide), List.forall_mem_cons.mpr ⟨s_aload_n d_L_law_486 rfl, List.forall_mem_cons.mpr ⟨s_aload_n d_L_law_487 rfl, List.forall_mem_cons.mpr ⟨s_iload_n d_L_law_488 rfl, List.forall_mem_cons.mpr ⟨s_iconst d_L_law_489 rfl, List.forall_mem_cons.mpr ⟨s_iadd d_L_law_490, List.forall_mem_cons.mpr ⟨s_sld d_L_law_491, List.forall_mem_cons.mpr ⟨s_aload_n d_L_law_492 rfl, List.forall_mem_cons.mpr ⟨s_iload_n d_L_law_493 rfl, List.forall_mem_cons.mpr ⟨s_iconst d_L_law_494 rfl, List.forall_mem_cons.mpr ⟨s_iadd d_L_law_495, fun _ h => absurd h List.not_mem_nil⟩⟩⟩⟩⟩⟩⟩⟩⟩⟩⟩⟩
def t_L_law_23 (sx : QX) : List (Nat × QO) := [(496, o_sld sx 497), (497, o_al 0 498), (498, o_il 3 499), (499, o_k 3 500), (500, o_b (fun x y => x + y) 501), (501, o_sld sx 502), (502, o_cV 1 7 148 5 4 505), (505, o_ic (fun x y => decide (x = y)) 983 508), (508, o_k 0 509), (509, o_ir true), (510, o_al 1 511), (511, o_al 0 512)]
theorem ts_L_law_23 (sx : QX) : ∀ q ∈ t_L_law_23 sx, q_Snd sx RL cL_law 4 (some .boolean) q.1 q.2 := List.forall_mem_cons.mpr ⟨s_sld d_L_law_496, List.forall_mem_cons.mpr ⟨s_aload_n d_L_law_497 rfl, List.forall_mem_cons.mpr ⟨s_iload_n d_L_law_498 rfl, List.forall_mem_cons.mpr ⟨s_iconst d_L_law_499 rfl, List.forall_mem_cons.mpr ⟨s_iadd d_L_law_500, List.forall_mem_cons.mpr ⟨s_sld d_L_law_501, List.forall_mem_cons.mpr ⟨s_cV (T := TX7) (N := 30) rfl d_L_law_502 rfl k_5_26 k_5_27 k_5_28 k_1_12 k_5_29 ⟨by decide, by decide⟩ (by decide +kernel) (by decide), List.forall_mem_cons.mpr ⟨s_ic_eq d_L_law_505 (by decide), List.forall_mem_cons.mpr ⟨s_iconst d_L_law_508 rfl, List.forall_mem_cons.mpr ⟨s_zr d_L_law_509 rfl, List.forall_mem_cons.mpr ⟨s_aload_n d_L_law_510 rfl, List.forall_mem_cons.mpr ⟨s_aload_n d_L_law_511 rfl, fun _ h => absurd h List.not_mem_nil⟩⟩⟩⟩⟩⟩⟩⟩⟩⟩⟩⟩
def t_L_law_24 (sx : QX) : List (Nat × QO) := [(512, o_il 3 513), (513, o_k 1 514), (514, o_b (fun x y => x + y) 515), (515, o_sld sx 516), (516, o_al 0 517), (517, o_il 3 518), (518, o_k 2 519), (519, o_b (fun x y => x + y) 520), (520, o_sld sx 521), (521, o_cV 1 6 68 3 3 524), (524, o_al 2 525), (525, o_al 0 526)]
theorem ts_L_law_24 (sx : QX) : ∀ q ∈ t_L_law_24 sx, q_Snd sx RL cL_law 4 (some .boolean) q.1 q.2 := List.forall_mem_cons.mpr ⟨s_iload_n d_L_law_512 rfl, List.forall_mem_cons.mpr ⟨s_iconst d_L_law_513 rfl, List.forall_mem_cons.mpr ⟨s_iadd d_L_law_514, List.forall_mem_cons.mpr ⟨s_sld d_L_law_515, List.forall_mem_cons.mpr ⟨s_aload_n d_L_law_516 rfl, List.forall_mem_cons.mpr ⟨s_iload_n d_L_law_517 rfl, List.forall_mem_cons.mpr ⟨s_iconst d_L_law_518 rfl, List.forall_mem_cons.mpr ⟨s_iadd d_L_law_519, List.forall_mem_cons.mpr ⟨s_sld d_L_law_520, List.forall_mem_cons.mpr ⟨s_cV (T := TX6) (N := 9) rfl d_L_law_521 rfl k_3_36 k_3_37 k_3_38 k_1_1 k_3_39 ⟨by decide, by decide⟩ (by decide +kernel) (by decide), List.forall_mem_cons.mpr ⟨s_aload_n d_L_law_524 rfl, List.forall_mem_cons.mpr ⟨s_aload_n d_L_law_525 rfl, fun _ h => absurd h List.not_mem_nil⟩⟩⟩⟩⟩⟩⟩⟩⟩⟩⟩⟩
def t_L_law_25 (sx : QX) : List (Nat × QO) := [(526, o_il 3 527), (527, o_k 1 528), (528, o_b (fun x y => x + y) 529), (529, o_sld sx 530), (530, o_al 0 531), (531, o_il 3 532), (532, o_k 2 533), (533, o_b (fun x y => x + y) 534), (534, o_sld sx 535), (535, o_cV 1 7 149 3 3 538), (538, o_ic (fun x y => decide (x = y)) 983 541), (541, o_k 0 542)]
theorem ts_L_law_25 (sx : QX) : ∀ q ∈ t_L_law_25 sx, q_Snd sx RL cL_law 4 (some .boolean) q.1 q.2 := List.forall_mem_cons.mpr ⟨s_iload_n d_L_law_526 rfl, List.forall_mem_cons.mpr ⟨s_iconst d_L_law_527 rfl, List.forall_mem_cons.mpr ⟨s_iadd d_L_law_528, List.forall_mem_cons.mpr ⟨s_sld d_L_law_529, List.forall_mem_cons.mpr ⟨s_aload_n d_L_law_530 rfl, List.forall_mem_cons.mpr ⟨s_iload_n d_L_law_531 rfl, List.forall_mem_cons.mpr ⟨s_iconst d_L_law_532 rfl, List.forall_mem_cons.mpr ⟨s_iadd d_L_law_533, List.forall_mem_cons.mpr ⟨s_sld d_L_law_534, List.forall_mem_cons.mpr ⟨s_cV (T := TX7) (N := 30) rfl d_L_law_535 rfl k_5_31 k_5_32 k_5_33 k_1_12 k_5_34 ⟨by decide, by decide⟩ (by decide +kernel) (by decide), List.forall_mem_cons.mpr ⟨s_ic_eq d_L_law_538 (by decide), List.forall_mem_cons.mpr ⟨s_iconst d_L_law_541 rfl, fun _ h => absurd h List.not_mem_nil⟩⟩⟩⟩⟩⟩⟩⟩⟩⟩⟩⟩
def t_L_law_26 (sx : QX) : List (Nat × QO) := [(542, o_ir true), (543, o_al 1 544), (544, o_al 0 545), (545, o_il 3 546), (546, o_k 1 547), (547, o_b (fun x y => x + y) 548), (548, o_sld sx 549), (549, o_cV 1 6 69 3 2 552), (552, o_al 2 553), (553, o_al 0 554), (554, o_il 3 555), (555, o_k 1 556)]
theorem ts_L_law_26 (sx : QX) : ∀ q ∈ t_L_law_26 sx, q_Snd sx RL cL_law 4 (some .boolean) q.1 q.2 := List.forall_mem_cons.mpr ⟨s_zr d_L_law_542 rfl, List.forall_mem_cons.mpr ⟨s_aload_n d_L_law_543 rfl, List.forall_mem_cons.mpr ⟨s_aload_n d_L_law_544 rfl, List.forall_mem_cons.mpr ⟨s_iload_n d_L_law_545 rfl, List.forall_mem_cons.mpr ⟨s_iconst d_L_law_546 rfl, List.forall_mem_cons.mpr ⟨s_iadd d_L_law_547, List.forall_mem_cons.mpr ⟨s_sld d_L_law_548, List.forall_mem_cons.mpr ⟨s_cV (T := TX6) (N := 9) rfl d_L_law_549 rfl k_3_53 k_3_54 k_3_55 k_1_1 k_3_56 ⟨by decide, by decide⟩ (by decide +kernel) (by decide), List.forall_mem_cons.mpr ⟨s_aload_n d_L_law_552 rfl, List.forall_mem_cons.mpr ⟨s_aload_n d_L_law_553 rfl, List.forall_mem_cons.mpr ⟨s_iload_n d_L_law_554 rfl, List.forall_mem_cons.mpr ⟨s_iconst d_L_law_555 rfl, fun _ h => absurd h List.not_mem_nil⟩⟩⟩⟩⟩⟩⟩⟩⟩⟩⟩⟩
def t_L_law_27 (sx : QX) : List (Nat × QO) := [(556, o_b (fun x y => x + y) 557), (557, o_sld sx 558), (558, o_cV 1 7 150 3 2 561), (561, o_ic (fun x y => decide (x = y)) 983 564), (564, o_k 0 565), (565, o_ir true), (566, o_al 1 567), (567, o_cV 1 6 70 1 1 570), (570, o_al 2 571), (571, o_cV 1 7 151 1 1 574), (574, o_ic (fun x y => decide (x = y)) 983 577), (577, o_k 0 578)]
theorem ts_L_law_27 (sx : QX) : ∀ q ∈ t_L_law_27 sx, q_Snd sx RL cL_law 4 (some .boolean) q.1 q.2 := List.forall_mem_cons.mpr ⟨s_iadd d_L_law_556, List.forall_mem_cons.mpr ⟨s_sld d_L_law_557, List.forall_mem_cons.mpr ⟨s_cV (T := TX7) (N := 30) rfl d_L_law_558 rfl k_5_43 k_5_44 k_5_45 k_1_12 k_5_46 ⟨by decide, by decide⟩ (by decide +kernel) (by decide), List.forall_mem_cons.mpr ⟨s_ic_eq d_L_law_561 (by decide), List.forall_mem_cons.mpr ⟨s_iconst d_L_law_564 rfl, List.forall_mem_cons.mpr ⟨s_zr d_L_law_565 rfl, List.forall_mem_cons.mpr ⟨s_aload_n d_L_law_566 rfl, List.forall_mem_cons.mpr ⟨s_cV (T := TX6) (N := 9) rfl d_L_law_567 rfl k_3_65 k_3_66 k_3_67 k_1_1 k_3_68 ⟨by decide, by decide⟩ (by decide +kernel) (by decide), List.forall_mem_cons.mpr ⟨s_aload_n d_L_law_570 rfl, List.forall_mem_cons.mpr ⟨s_cV (T := TX7) (N := 30) rfl d_L_law_571 rfl k_5_52 k_5_53 k_5_54 k_1_12 k_5_55 ⟨by decide, by decide⟩ (by decide +kernel) (by decide), List.forall_mem_cons.mpr ⟨s_ic_eq d_L_law_574 (by decide), List.forall_mem_cons.mpr ⟨s_iconst d_L_law_577 rfl, fun _ h => absurd h List.not_mem_nil⟩⟩⟩⟩⟩⟩⟩⟩⟩⟩⟩⟩
def t_L_law_28 (sx : QX) : List (Nat × QO) := [(578, o_ir true), (579, o_al 1 580), (580, o_al 0 581), (581, o_il 3 582), (582, o_k 1 583), (583, o_b (fun x y => x + y) 584), (584, o_sld sx 585), (585, o_al 0 586), (586, o_il 3 587), (587, o_k 2 588), (588, o_b (fun x y => x + y) 589), (589, o_sld sx 590)]
theorem ts_L_law_28 (sx : QX) : ∀ q ∈ t_L_law_28 sx, q_Snd sx RL cL_law 4 (some .boolean) q.1 q.2 := List.forall_mem_cons.mpr ⟨s_zr d_L_law_578 rfl, List.forall_mem_cons.mpr ⟨s_aload_n d_L_law_579 rfl, List.forall_mem_cons.mpr ⟨s_aload_n d_L_law_580 rfl, List.forall_mem_cons.mpr ⟨s_iload_n d_L_law_581 rfl, List.forall_mem_cons.mpr ⟨s_iconst d_L_law_582 rfl, List.forall_mem_cons.mpr ⟨s_iadd d_L_law_583, List.forall_mem_cons.mpr ⟨s_sld d_L_law_584, List.forall_mem_cons.mpr ⟨s_aload_n d_L_law_585 rfl, List.forall_mem_cons.mpr ⟨s_iload_n d_L_law_586 rfl, List.forall_mem_cons.mpr ⟨s_iconst d_L_law_587 rfl, List.forall_mem_cons.mpr ⟨s_iadd d_L_law_588, List.forall_mem_cons.mpr ⟨s_sld d_L_law_589, fun _ h => absurd h List.not_mem_nil⟩⟩⟩⟩⟩⟩⟩⟩⟩⟩⟩⟩
def t_L_law_29 (sx : QX) : List (Nat × QO) := [(590, o_cV 1 6 71 4 3 593), (593, o_al 2 594), (594, o_al 0 595), (595, o_il 3 596), (596, o_k 1 597), (597, o_b (fun x y => x + y) 598), (598, o_sld sx 599), (599, o_al 0 600), (600, o_il 3 601), (601, o_k 2 602), (602, o_b (fun x y => x + y) 603), (603, o_sld sx 604)]
theorem ts_L_law_29 (sx : QX) : ∀ q ∈ t_L_law_29 sx, q_Snd sx RL cL_law 4 (some .boolean) q.1 q.2 := List.forall_mem_cons.mpr ⟨s_cV (T := TX6) (N := 9) rfl d_L_law_590 rfl k_3_73 k_3_74 k_3_75 k_1_1 k_3_76 ⟨by decide, by decide⟩ (by decide +kernel) (by decide), List.forall_mem_cons.mpr ⟨s_aload_n d_L_law_593 rfl, List.forall_mem_cons.mpr ⟨s_aload_n d_L_law_594 rfl, List.forall_mem_cons.mpr ⟨s_iload_n d_L_law_595 rfl, List.forall_mem_cons.mpr ⟨s_iconst d_L_law_596 rfl, List.forall_mem_cons.mpr ⟨s_iadd d_L_law_597, List.forall_mem_cons.mpr ⟨s_sld d_L_law_598, List.forall_mem_cons.mpr ⟨s_aload_n d_L_law_599 rfl, List.forall_mem_cons.mpr ⟨s_iload_n d_L_law_600 rfl, List.forall_mem_cons.mpr ⟨s_iconst d_L_law_601 rfl, List.forall_mem_cons.mpr ⟨s_iadd d_L_law_602, List.forall_mem_cons.mpr ⟨s_sld d_L_law_603, fun _ h => absurd h List.not_mem_nil⟩⟩⟩⟩⟩⟩⟩⟩⟩⟩⟩⟩
def t_L_law_30 (sx : QX) : List (Nat × QO) := [(604, o_cV 1 7 154 4 3 607), (607, o_ic (fun x y => decide (x = y)) 983 610), (610, o_k 0 611), (611, o_ir true), (612, o_al 1 613), (613, o_al 0 614), (614, o_il 3 615), (615, o_k 1 616), (616, o_b (fun x y => x + y) 617), (617, o_sld sx 618), (618, o_cV 1 6 72 2 2 621), (621, o_al 2 622)]
theorem ts_L_law_30 (sx : QX) : ∀ q ∈ t_L_law_30 sx, q_Snd sx RL cL_law 4 (some .boolean) q.1 q.2 := List.forall_mem_cons.mpr ⟨s_cV (T := TX7) (N := 30) rfl d_L_law_604 rfl k_5_56 k_5_57 k_5_58 k_1_12 k_5_59 ⟨by decide, by decide⟩ (by decide +kernel) (by decide), List.forall_mem_cons.mpr ⟨s_ic_eq d_L_law_607 (by decide), List.forall_mem_cons.mpr ⟨s_iconst d_L_law_610 rfl, List.forall_mem_cons.mpr ⟨s_zr d_L_law_611 rfl, List.forall_mem_cons.mpr ⟨s_aload_n d_L_law_612 rfl, List.forall_mem_cons.mpr ⟨s_aload_n d_L_law_613 rfl, List.forall_mem_cons.mpr ⟨s_iload_n d_L_law_614 rfl, List.forall_mem_cons.mpr ⟨s_iconst d_L_law_615 rfl, List.forall_mem_cons.mpr ⟨s_iadd d_L_law_616, List.forall_mem_cons.mpr ⟨s_sld d_L_law_617, List.forall_mem_cons.mpr ⟨s_cV (T := TX6) (N := 9) rfl d_L_law_618 rfl k_3_105 k_3_106 k_3_107 k_1_1 k_3_108 ⟨by decide, by decide⟩ (by decide +kernel) (by decide), List.forall_mem_cons.mpr ⟨s_aload_n d_L_law_621 rfl, fun _ h => absurd h List.not_mem_nil⟩⟩⟩⟩⟩⟩⟩⟩⟩⟩⟩⟩
def t_L_law_31 (sx : QX) : List (Nat × QO) := [(622, o_al 0 623), (623, o_il 3 624), (624, o_k 1 625), (625, o_b (fun x y => x + y) 626), (626, o_sld sx 627), (627, o_cV 1 7 156 2 2 630), (630, o_ic (fun x y => decide (x = y)) 983 633), (633, o_k 0 634), (634, o_ir true), (635, o_al 1 636), (636, o_al 0 637), (637, o_il 3 638)]
theorem ts_L_law_31 (sx : QX) : ∀ q ∈ t_L_law_31 sx, q_Snd sx RL cL_law 4 (some .boolean) q.1 q.2 := List.forall_mem_cons.mpr ⟨s_aload_n d_L_law_622 rfl, List.forall_mem_cons.mpr ⟨s_iload_n d_L_law_623 rfl, List.forall_mem_cons.mpr ⟨s_iconst d_L_law_624 rfl, List.forall_mem_cons.mpr ⟨s_iadd d_L_law_625, List.forall_mem_cons.mpr ⟨s_sld d_L_law_626, List.forall_mem_cons.mpr ⟨s_cV (T := TX7) (N := 30) rfl d_L_law_627 rfl k_5_64 k_5_65 k_5_66 k_1_12 k_5_67 ⟨by decide, by decide⟩ (by decide +kernel) (by decide), List.forall_mem_cons.mpr ⟨s_ic_eq d_L_law_630 (by decide), List.forall_mem_cons.mpr ⟨s_iconst d_L_law_633 rfl, List.forall_mem_cons.mpr ⟨s_zr d_L_law_634 rfl, List.forall_mem_cons.mpr ⟨s_aload_n d_L_law_635 rfl, List.forall_mem_cons.mpr ⟨s_aload_n d_L_law_636 rfl, List.forall_mem_cons.mpr ⟨s_iload_n d_L_law_637 rfl, fun _ h => absurd h List.not_mem_nil⟩⟩⟩⟩⟩⟩⟩⟩⟩⟩⟩⟩
def t_L_law_32 (sx : QX) : List (Nat × QO) := [(638, o_k 1 639), (639, o_b (fun x y => x + y) 640), (640, o_sld sx 641), (641, o_cV 1 6 73 2 2 644), (644, o_al 2 645), (645, o_al 0 646), (646, o_il 3 647), (647, o_k 1 648), (648, o_b (fun x y => x + y) 649), (649, o_sld sx 650), (650, o_cV 1 7 160 3 2 653), (653, o_ic (fun x y => decide (x = y)) 983 656)]
theorem ts_L_law_32 (sx : QX) : ∀ q ∈ t_L_law_32 sx, q_Snd sx RL cL_law 4 (some .boolean) q.1 q.2 := List.forall_mem_cons.mpr ⟨s_iconst d_L_law_638 rfl, List.forall_mem_cons.mpr ⟨s_iadd d_L_law_639, List.forall_mem_cons.mpr ⟨s_sld d_L_law_640, List.forall_mem_cons.mpr ⟨s_cV (T := TX6) (N := 9) rfl d_L_law_641 rfl k_3_110 k_3_111 k_3_112 k_1_1 k_3_113 ⟨by decide, by decide⟩ (by decide +kernel) (by decide), List.forall_mem_cons.mpr ⟨s_aload_n d_L_law_644 rfl, List.forall_mem_cons.mpr ⟨s_aload_n d_L_law_645 rfl, List.forall_mem_cons.mpr ⟨s_iload_n d_L_law_646 rfl, List.forall_mem_cons.mpr ⟨s_iconst d_L_law_647 rfl, List.forall_mem_cons.mpr ⟨s_iadd d_L_law_648, List.forall_mem_cons.mpr ⟨s_sld d_L_law_649, List.forall_mem_cons.mpr ⟨s_cV (T := TX7) (N := 30) rfl d_L_law_650 rfl k_5_72 k_5_73 k_5_74 k_1_12 k_5_75 ⟨by decide, by decide⟩ (by decide +kernel) (by decide), List.forall_mem_cons.mpr ⟨s_ic_eq d_L_law_653 (by decide), fun _ h => absurd h List.not_mem_nil⟩⟩⟩⟩⟩⟩⟩⟩⟩⟩⟩⟩
def t_L_law_33 (sx : QX) : List (Nat × QO) := [(656, o_k 0 657), (657, o_ir true), (658, o_al 1 659), (659, o_al 0 660), (660, o_il 3 661), (661, o_k 1 662), (662, o_b (fun x y => x + y) 663), (663, o_sld sx 664), (664, o_al 0 665), (665, o_il 3 666), (666, o_k 2 667), (667, o_b (fun x y => x + y) 668)]
theorem ts_L_law_33 (sx : QX) : ∀ q ∈ t_L_law_33 sx, q_Snd sx RL cL_law 4 (some .boolean) q.1 q.2 := List.forall_mem_cons.mpr ⟨s_iconst d_L_law_656 rfl, List.forall_mem_cons.mpr ⟨s_zr d_L_law_657 rfl, List.forall_mem_cons.mpr ⟨s_aload_n d_L_law_658 rfl, List.forall_mem_cons.mpr ⟨s_aload_n d_L_law_659 rfl, List.forall_mem_cons.mpr ⟨s_iload_n d_L_law_660 rfl, List.forall_mem_cons.mpr ⟨s_iconst d_L_law_661 rfl, List.forall_mem_cons.mpr ⟨s_iadd d_L_law_662, List.forall_mem_cons.mpr ⟨s_sld d_L_law_663, List.forall_mem_cons.mpr ⟨s_aload_n d_L_law_664 rfl, List.forall_mem_cons.mpr ⟨s_iload_n d_L_law_665 rfl, List.forall_mem_cons.mpr ⟨s_iconst d_L_law_666 rfl, List.forall_mem_cons.mpr ⟨s_iadd d_L_law_667, fun _ h => absurd h List.not_mem_nil⟩⟩⟩⟩⟩⟩⟩⟩⟩⟩⟩⟩
def t_L_law_34 (sx : QX) : List (Nat × QO) := [(668, o_sld sx 669), (669, o_cV 1 6 74 4 3 672), (672, o_al 2 673), (673, o_al 0 674), (674, o_il 3 675), (675, o_k 1 676), (676, o_b (fun x y => x + y) 677), (677, o_sld sx 678), (678, o_al 0 679), (679, o_il 3 680), (680, o_k 2 681), (681, o_b (fun x y => x + y) 682)]
theorem ts_L_law_34 (sx : QX) : ∀ q ∈ t_L_law_34 sx, q_Snd sx RL cL_law 4 (some .boolean) q.1 q.2 := List.forall_mem_cons.mpr ⟨s_sld d_L_law_668, List.forall_mem_cons.mpr ⟨s_cV (T := TX6) (N := 9) rfl d_L_law_669 rfl k_3_140 k_3_141 k_3_142 k_1_1 k_3_143 ⟨by decide, by decide⟩ (by decide +kernel) (by decide), List.forall_mem_cons.mpr ⟨s_aload_n d_L_law_672 rfl, List.forall_mem_cons.mpr ⟨s_aload_n d_L_law_673 rfl, List.forall_mem_cons.mpr ⟨s_iload_n d_L_law_674 rfl, List.forall_mem_cons.mpr ⟨s_iconst d_L_law_675 rfl, List.forall_mem_cons.mpr ⟨s_iadd d_L_law_676, List.forall_mem_cons.mpr ⟨s_sld d_L_law_677, List.forall_mem_cons.mpr ⟨s_aload_n d_L_law_678 rfl, List.forall_mem_cons.mpr ⟨s_iload_n d_L_law_679 rfl, List.forall_mem_cons.mpr ⟨s_iconst d_L_law_680 rfl, List.forall_mem_cons.mpr ⟨s_iadd d_L_law_681, fun _ h => absurd h List.not_mem_nil⟩⟩⟩⟩⟩⟩⟩⟩⟩⟩⟩⟩
def t_L_law_35 (sx : QX) : List (Nat × QO) := [(682, o_sld sx 683), (683, o_cV 1 7 162 5 3 686), (686, o_ic (fun x y => decide (x = y)) 983 689), (689, o_k 0 690), (690, o_ir true), (691, o_al 1 692), (692, o_al 0 693), (693, o_il 3 694), (694, o_k 1 695), (695, o_b (fun x y => x + y) 696), (696, o_sld sx 697), (697, o_cV 1 6 75 4 2 700)]
theorem ts_L_law_35 (sx : QX) : ∀ q ∈ t_L_law_35 sx, q_Snd sx RL cL_law 4 (some .boolean) q.1 q.2 := List.forall_mem_cons.mpr ⟨s_sld d_L_law_682, List.forall_mem_cons.mpr ⟨s_cV (T := TX7) (N := 30) rfl d_L_law_683 rfl k_5_94 k_5_95 k_5_96 k_1_12 k_5_97 ⟨by decide, by decide⟩ (by decide +kernel) (by decide), List.forall_mem_cons.mpr ⟨s_ic_eq d_L_law_686 (by decide), List.forall_mem_cons.mpr ⟨s_iconst d_L_law_689 rfl, List.forall_mem_cons.mpr ⟨s_zr d_L_law_690 rfl, List.forall_mem_cons.mpr ⟨s_aload_n d_L_law_691 rfl, List.forall_mem_cons.mpr ⟨s_aload_n d_L_law_692 rfl, List.forall_mem_cons.mpr ⟨s_iload_n d_L_law_693 rfl, List.forall_mem_cons.mpr ⟨s_iconst d_L_law_694 rfl, List.forall_mem_cons.mpr ⟨s_iadd d_L_law_695, List.forall_mem_cons.mpr ⟨s_sld d_L_law_696, List.forall_mem_cons.mpr ⟨s_cV (T := TX6) (N := 9) rfl d_L_law_697 rfl k_3_152 k_3_153 k_3_154 k_1_1 k_3_155 ⟨by decide, by decide⟩ (by decide +kernel) (by decide), fun _ h => absurd h List.not_mem_nil⟩⟩⟩⟩⟩⟩⟩⟩⟩⟩⟩⟩
def t_L_law_36 (sx : QX) : List (Nat × QO) := [(700, o_al 2 701), (701, o_al 0 702), (702, o_il 3 703), (703, o_k 1 704), (704, o_b (fun x y => x + y) 705), (705, o_sld sx 706), (706, o_cV 1 7 163 3 2 709), (709, o_ic (fun x y => decide (x = y)) 983 712), (712, o_k 0 713), (713, o_ir true), (714, o_al 1 715), (715, o_al 0 716)]
theorem ts_L_law_36 (sx : QX) : ∀ q ∈ t_L_law_36 sx, q_Snd sx RL cL_law 4 (some .boolean) q.1 q.2 := List.forall_mem_cons.mpr ⟨s_aload_n d_L_law_700 rfl, List.forall_mem_cons.mpr ⟨s_aload_n d_L_law_701 rfl, List.forall_mem_cons.mpr ⟨s_iload_n d_L_law_702 rfl, List.forall_mem_cons.mpr ⟨s_iconst d_L_law_703 rfl, List.forall_mem_cons.mpr ⟨s_iadd d_L_law_704, List.forall_mem_cons.mpr ⟨s_sld d_L_law_705, List.forall_mem_cons.mpr ⟨s_cV (T := TX7) (N := 30) rfl d_L_law_706 rfl k_5_106 k_5_107 k_5_108 k_1_12 k_5_109 ⟨by decide, by decide⟩ (by decide +kernel) (by decide), List.forall_mem_cons.mpr ⟨s_ic_eq d_L_law_709 (by decide), List.forall_mem_cons.mpr ⟨s_iconst d_L_law_712 rfl, List.forall_mem_cons.mpr ⟨s_zr d_L_law_713 rfl, List.forall_mem_cons.mpr ⟨s_aload_n d_L_law_714 rfl, List.forall_mem_cons.mpr ⟨s_aload_n d_L_law_715 rfl, fun _ h => absurd h List.not_mem_nil⟩⟩⟩⟩⟩⟩⟩⟩⟩⟩⟩⟩
def t_L_law_37 (sx : QX) : List (Nat × QO) := [(716, o_il 3 717), (717, o_k 1 718), (718, o_b (fun x y => x + y) 719), (719, o_sld sx 720), (720, o_cV 1 6 76 4 2 723), (723, o_al 2 724), (724, o_al 0 725), (725, o_il 3 726), (726, o_k 1 727), (727, o_b (fun x y => x + y) 728), (728, o_sld sx 729), (729, o_cV 1 7 164 4 2 732)]
theorem ts_L_law_37 (sx : QX) : ∀ q ∈ t_L_law_37 sx, q_Snd sx RL cL_law 4 (some .boolean) q.1 q.2 := List.forall_mem_cons.mpr ⟨s_iload_n d_L_law_716 rfl, List.forall_mem_cons.mpr ⟨s_iconst d_L_law_717 rfl, List.forall_mem_cons.mpr ⟨s_iadd d_L_law_718, List.forall_mem_cons.mpr ⟨s_sld d_L_law_719, List.forall_mem_cons.mpr ⟨s_cV (T := TX6) (N := 9) rfl d_L_law_720 rfl k_3_158 k_3_159 k_3_160 k_1_1 k_3_161 ⟨by decide, by decide⟩ (by decide +kernel) (by decide), List.forall_mem_cons.mpr ⟨s_aload_n d_L_law_723 rfl, List.forall_mem_cons.mpr ⟨s_aload_n d_L_law_724 rfl, List.forall_mem_cons.mpr ⟨s_iload_n d_L_law_725 rfl, List.forall_mem_cons.mpr ⟨s_iconst d_L_law_726 rfl, List.forall_mem_cons.mpr ⟨s_iadd d_L_law_727, List.forall_mem_cons.mpr ⟨s_sld d_L_law_728, List.forall_mem_cons.mpr ⟨s_cV (T := TX7) (N := 30) rfl d_L_law_729 rfl k_5_110 k_5_111 k_5_112 k_1_12 k_5_113 ⟨by decide, by decide⟩ (by decide +kernel) (by decide), fun _ h => absurd h List.not_mem_nil⟩⟩⟩⟩⟩⟩⟩⟩⟩⟩⟩⟩
def t_L_law_38 (sx : QX) : List (Nat × QO) := [(732, o_ic (fun x y => decide (x = y)) 983 735), (735, o_k 0 736), (736, o_ir true), (737, o_al 1 738), (738, o_al 0 739), (739, o_il 3 740), (740, o_k 1 741), (741, o_b (fun x y => x + y) 742), (742, o_sld sx 743), (743, o_cV 1 6 77 2 2 746), (746, o_al 2 747), (747, o_al 0 748)]
theorem ts_L_law_38 (sx : QX) : ∀ q ∈ t_L_law_38 sx, q_Snd sx RL cL_law 4 (some .boolean) q.1 q.2 := List.forall_mem_cons.mpr ⟨s_ic_eq d_L_law_732 (by decide), List.forall_mem_cons.mpr ⟨s_iconst d_L_law_735 rfl, List.forall_mem_cons.mpr ⟨s_zr d_L_law_736 rfl, List.forall_mem_cons.mpr ⟨s_aload_n d_L_law_737 rfl, List.forall_mem_cons.mpr ⟨s_aload_n d_L_law_738 rfl, List.forall_mem_cons.mpr ⟨s_iload_n d_L_law_739 rfl, List.forall_mem_cons.mpr ⟨s_iconst d_L_law_740 rfl, List.forall_mem_cons.mpr ⟨s_iadd d_L_law_741, List.forall_mem_cons.mpr ⟨s_sld d_L_law_742, List.forall_mem_cons.mpr ⟨s_cV (T := TX6) (N := 9) rfl d_L_law_743 rfl k_3_163 k_3_164 k_3_165 k_1_1 k_3_166 ⟨by decide, by decide⟩ (by decide +kernel) (by decide), List.forall_mem_cons.mpr ⟨s_aload_n d_L_law_746 rfl, List.forall_mem_cons.mpr ⟨s_aload_n d_L_law_747 rfl, fun _ h => absurd h List.not_mem_nil⟩⟩⟩⟩⟩⟩⟩⟩⟩⟩⟩⟩
def t_L_law_39 (sx : QX) : List (Nat × QO) := [(748, o_il 3 749), (749, o_k 1 750), (750, o_b (fun x y => x + y) 751), (751, o_sld sx 752), (752, o_cV 1 7 166 10 2 755), (755, o_ic (fun x y => decide (x = y)) 983 758), (758, o_k 0 759), (759, o_ir true), (760, o_al 1 761), (761, o_cV 1 6 78 4 1 764), (764, o_al 2 765), (765, o_cV 1 7 168 5 1 768)]
theorem ts_L_law_39 (sx : QX) : ∀ q ∈ t_L_law_39 sx, q_Snd sx RL cL_law 4 (some .boolean) q.1 q.2 := List.forall_mem_cons.mpr ⟨s_iload_n d_L_law_748 rfl, List.forall_mem_cons.mpr ⟨s_iconst d_L_law_749 rfl, List.forall_mem_cons.mpr ⟨s_iadd d_L_law_750, List.forall_mem_cons.mpr ⟨s_sld d_L_law_751, List.forall_mem_cons.mpr ⟨s_cV (T := TX7) (N := 30) rfl d_L_law_752 rfl k_5_114 k_5_115 k_5_116 k_1_12 k_5_117 ⟨by decide, by decide⟩ (by decide +kernel) (by decide), List.forall_mem_cons.mpr ⟨s_ic_eq d_L_law_755 (by decide), List.forall_mem_cons.mpr ⟨s_iconst d_L_law_758 rfl, List.forall_mem_cons.mpr ⟨s_zr d_L_law_759 rfl, List.forall_mem_cons.mpr ⟨s_aload_n d_L_law_760 rfl, List.forall_mem_cons.mpr ⟨s_cV (T := TX6) (N := 9) rfl d_L_law_761 rfl k_3_176 k_3_177 k_3_178 k_1_1 k_3_179 ⟨by decide, by decide⟩ (by decide +kernel) (by decide), List.forall_mem_cons.mpr ⟨s_aload_n d_L_law_764 rfl, List.forall_mem_cons.mpr ⟨s_cV (T := TX7) (N := 30) rfl d_L_law_765 rfl k_5_123 k_5_124 k_5_125 k_1_12 k_5_126 ⟨by decide, by decide⟩ (by decide +kernel) (by decide), fun _ h => absurd h List.not_mem_nil⟩⟩⟩⟩⟩⟩⟩⟩⟩⟩⟩⟩
def t_L_law_40 (sx : QX) : List (Nat × QO) := [(768, o_ic (fun x y => decide (x = y)) 983 771), (771, o_k 0 772), (772, o_ir true), (773, o_al 1 774), (774, o_al 0 775), (775, o_il 3 776), (776, o_k 1 777), (777, o_b (fun x y => x + y) 778), (778, o_sld sx 779), (779, o_al 0 780), (780, o_il 3 781), (781, o_k 2 782)]
theorem ts_L_law_40 (sx : QX) : ∀ q ∈ t_L_law_40 sx, q_Snd sx RL cL_law 4 (some .boolean) q.1 q.2 := List.forall_mem_cons.mpr ⟨s_ic_eq d_L_law_768 (by decide), List.forall_mem_cons.mpr ⟨s_iconst d_L_law_771 rfl, List.forall_mem_cons.mpr ⟨s_zr d_L_law_772 rfl, List.forall_mem_cons.mpr ⟨s_aload_n d_L_law_773 rfl, List.forall_mem_cons.mpr ⟨s_aload_n d_L_law_774 rfl, List.forall_mem_cons.mpr ⟨s_iload_n d_L_law_775 rfl, List.forall_mem_cons.mpr ⟨s_iconst d_L_law_776 rfl, List.forall_mem_cons.mpr ⟨s_iadd d_L_law_777, List.forall_mem_cons.mpr ⟨s_sld d_L_law_778, List.forall_mem_cons.mpr ⟨s_aload_n d_L_law_779 rfl, List.forall_mem_cons.mpr ⟨s_iload_n d_L_law_780 rfl, List.forall_mem_cons.mpr ⟨s_iconst d_L_law_781 rfl, fun _ h => absurd h List.not_mem_nil⟩⟩⟩⟩⟩⟩⟩⟩⟩⟩⟩⟩
def t_L_law_41 (sx : QX) : List (Nat × QO) := [(782, o_b (fun x y => x + y) 783), (783, o_sld sx 784), (784, o_al 0 785), (785, o_il 3 786), (786, o_k 3 787), (787, o_b (fun x y => x + y) 788), (788, o_sld sx 789), (789, o_cV 1 6 79 8 4 792), (792, o_al 2 793), (793, o_al 0 794), (794, o_il 3 795), (795, o_k 1 796)]
theorem ts_L_law_41 (sx : QX) : ∀ q ∈ t_L_law_41 sx, q_Snd sx RL cL_law 4 (some .boolean) q.1 q.2 := List.forall_mem_cons.mpr ⟨s_iadd d_L_law_782, List.forall_mem_cons.mpr ⟨s_sld d_L_law_783, List.forall_mem_cons.mpr ⟨s_aload_n d_L_law_784 rfl, List.forall_mem_cons.mpr ⟨s_iload_n d_L_law_785 rfl, List.forall_mem_cons.mpr ⟨s_iconst d_L_law_786 rfl, List.forall_mem_cons.mpr ⟨s_iadd d_L_law_787, List.forall_mem_cons.mpr ⟨s_sld d_L_law_788, List.forall_mem_cons.mpr ⟨s_cV (T := TX6) (N := 9) rfl d_L_law_789 rfl k_3_194 k_3_195 k_3_196 k_1_1 k_3_197 ⟨by decide, by decide⟩ (by decide +kernel) (by decide), List.forall_mem_cons.mpr ⟨s_aload_n d_L_law_792 rfl, List.forall_mem_cons.mpr ⟨s_aload_n d_L_law_793 rfl, List.forall_mem_cons.mpr ⟨s_iload_n d_L_law_794 rfl, List.forall_mem_cons.mpr ⟨s_iconst d_L_law_795 rfl, fun _ h => absurd h List.not_mem_nil⟩⟩⟩⟩⟩⟩⟩⟩⟩⟩⟩⟩
def t_L_law_42 (sx : QX) : List (Nat × QO) := [(796, o_b (fun x y => x + y) 797), (797, o_sld sx 798), (798, o_al 0 799), (799, o_il 3 800), (800, o_k 2 801), (801, o_b (fun x y => x + y) 802), (802, o_sld sx 803), (803, o_al 0 804), (804, o_il 3 805), (805, o_k 3 806), (806, o_b (fun x y => x + y) 807), (807, o_sld sx 808)]
theorem ts_L_law_42 (sx : QX) : ∀ q ∈ t_L_law_42 sx, q_Snd sx RL cL_law 4 (some .boolean) q.1 q.2 := List.forall_mem_cons.mpr ⟨s_iadd d_L_law_796, List.forall_mem_cons.mpr ⟨s_sld d_L_law_797, List.forall_mem_cons.mpr ⟨s_aload_n d_L_law_798 rfl, List.forall_mem_cons.mpr ⟨s_iload_n d_L_law_799 rfl, List.forall_mem_cons.mpr ⟨s_iconst d_L_law_800 rfl, List.forall_mem_cons.mpr ⟨s_iadd d_L_law_801, List.forall_mem_cons.mpr ⟨s_sld d_L_law_802, List.forall_mem_cons.mpr ⟨s_aload_n d_L_law_803 rfl, List.forall_mem_cons.mpr ⟨s_iload_n d_L_law_804 rfl, List.forall_mem_cons.mpr ⟨s_iconst d_L_law_805 rfl, List.forall_mem_cons.mpr ⟨s_iadd d_L_law_806, List.forall_mem_cons.mpr ⟨s_sld d_L_law_807, fun _ h => absurd h List.not_mem_nil⟩⟩⟩⟩⟩⟩⟩⟩⟩⟩⟩⟩
def t_L_law_43 (sx : QX) : List (Nat × QO) := [(808, o_cV 1 7 169 9 4 811), (811, o_ic (fun x y => decide (x = y)) 983 814), (814, o_k 0 815), (815, o_ir true), (816, o_al 1 817), (817, o_al 0 818), (818, o_il 3 819), (819, o_k 1 820), (820, o_b (fun x y => x + y) 821), (821, o_sld sx 822), (822, o_al 0 823), (823, o_il 3 824)]
theorem ts_L_law_43 (sx : QX) : ∀ q ∈ t_L_law_43 sx, q_Snd sx RL cL_law 4 (some .boolean) q.1 q.2 := List.forall_mem_cons.mpr ⟨s_cV (T := TX7) (N := 30) rfl d_L_law_808 rfl k_5_131 k_5_132 k_5_133 k_1_12 k_5_134 ⟨by decide, by decide⟩ (by decide +kernel) (by decide), List.forall_mem_cons.mpr ⟨s_ic_eq d_L_law_811 (by decide), List.forall_mem_cons.mpr ⟨s_iconst d_L_law_814 rfl, List.forall_mem_cons.mpr ⟨s_zr d_L_law_815 rfl, List.forall_mem_cons.mpr ⟨s_aload_n d_L_law_816 rfl, List.forall_mem_cons.mpr ⟨s_aload_n d_L_law_817 rfl, List.forall_mem_cons.mpr ⟨s_iload_n d_L_law_818 rfl, List.forall_mem_cons.mpr ⟨s_iconst d_L_law_819 rfl, List.forall_mem_cons.mpr ⟨s_iadd d_L_law_820, List.forall_mem_cons.mpr ⟨s_sld d_L_law_821, List.forall_mem_cons.mpr ⟨s_aload_n d_L_law_822 rfl, List.forall_mem_cons.mpr ⟨s_iload_n d_L_law_823 rfl, fun _ h => absurd h List.not_mem_nil⟩⟩⟩⟩⟩⟩⟩⟩⟩⟩⟩⟩
def t_L_law_44 (sx : QX) : List (Nat × QO) := [(824, o_k 2 825), (825, o_b (fun x y => x + y) 826), (826, o_sld sx 827), (827, o_al 0 828), (828, o_il 3 829), (829, o_k 3 830), (830, o_b (fun x y => x + y) 831), (831, o_sld sx 832), (832, o_al 0 833), (833, o_il 3 834), (834, o_k 4 835), (835, o_b (fun x y => x + y) 836)]
theorem ts_L_law_44 (sx : QX) : ∀ q ∈ t_L_law_44 sx, q_Snd sx RL cL_law 4 (some .boolean) q.1 q.2 := List.forall_mem_cons.mpr ⟨s_iconst d_L_law_824 rfl, List.forall_mem_cons.mpr ⟨s_iadd d_L_law_825, List.forall_mem_cons.mpr ⟨s_sld d_L_law_826, List.forall_mem_cons.mpr ⟨s_aload_n d_L_law_827 rfl, List.forall_mem_cons.mpr ⟨s_iload_n d_L_law_828 rfl, List.forall_mem_cons.mpr ⟨s_iconst d_L_law_829 rfl, List.forall_mem_cons.mpr ⟨s_iadd d_L_law_830, List.forall_mem_cons.mpr ⟨s_sld d_L_law_831, List.forall_mem_cons.mpr ⟨s_aload_n d_L_law_832 rfl, List.forall_mem_cons.mpr ⟨s_iload_n d_L_law_833 rfl, List.forall_mem_cons.mpr ⟨s_iconst d_L_law_834 rfl, List.forall_mem_cons.mpr ⟨s_iadd d_L_law_835, fun _ h => absurd h List.not_mem_nil⟩⟩⟩⟩⟩⟩⟩⟩⟩⟩⟩⟩
def t_L_law_45 (sx : QX) : List (Nat × QO) := [(836, o_sld sx 837), (837, o_al 0 838), (838, o_il 3 839), (839, o_k 5 840), (840, o_b (fun x y => x + y) 841), (841, o_sld sx 842), (842, o_al 0 843), (843, o_il 3 844), (844, o_k 6 846), (846, o_b (fun x y => x + y) 847), (847, o_sld sx 848), (848, o_cV 1 6 80 10 7 851)]
theorem ts_L_law_45 (sx : QX) : ∀ q ∈ t_L_law_45 sx, q_Snd sx RL cL_law 4 (some .boolean) q.1 q.2 := List.forall_mem_cons.mpr ⟨s_sld d_L_law_836, List.forall_mem_cons.mpr ⟨s_aload_n d_L_law_837 rfl, List.forall_mem_cons.mpr ⟨s_iload_n d_L_law_838 rfl, List.forall_mem_cons.mpr ⟨s_iconst d_L_law_839 rfl, List.forall_mem_cons.mpr ⟨s_iadd d_L_law_840, List.forall_mem_cons.mpr ⟨s_sld d_L_law_841, List.forall_mem_cons.mpr ⟨s_aload_n d_L_law_842 rfl, List.forall_mem_cons.mpr ⟨s_iload_n d_L_law_843 rfl, List.forall_mem_cons.mpr ⟨s_bipush d_L_law_844 rfl, List.forall_mem_cons.mpr ⟨s_iadd d_L_law_846, List.forall_mem_cons.mpr ⟨s_sld d_L_law_847, List.forall_mem_cons.mpr ⟨s_cV (T := TX6) (N := 9) rfl d_L_law_848 rfl k_3_202 k_3_203 k_3_204 k_1_1 k_3_205 ⟨by decide, by decide⟩ (by decide +kernel) (by decide), fun _ h => absurd h List.not_mem_nil⟩⟩⟩⟩⟩⟩⟩⟩⟩⟩⟩⟩
def t_L_law_46 (sx : QX) : List (Nat × QO) := [(851, o_al 2 852), (852, o_al 0 853), (853, o_il 3 854), (854, o_k 1 855), (855, o_b (fun x y => x + y) 856), (856, o_sld sx 857), (857, o_al 0 858), (858, o_il 3 859), (859, o_k 2 860), (860, o_b (fun x y => x + y) 861), (861, o_sld sx 862), (862, o_al 0 863)]
theorem ts_L_law_46 (sx : QX) : ∀ q ∈ t_L_law_46 sx, q_Snd sx RL cL_law 4 (some .boolean) q.1 q.2 := List.forall_mem_cons.mpr ⟨s_aload_n d_L_law_851 rfl, List.forall_mem_cons.mpr ⟨s_aload_n d_L_law_852 rfl, List.forall_mem_cons.mpr ⟨s_iload_n d_L_law_853 rfl, List.forall_mem_cons.mpr ⟨s_iconst d_L_law_854 rfl, List.forall_mem_cons.mpr ⟨s_iadd d_L_law_855, List.forall_mem_cons.mpr ⟨s_sld d_L_law_856, List.forall_mem_cons.mpr ⟨s_aload_n d_L_law_857 rfl, List.forall_mem_cons.mpr ⟨s_iload_n d_L_law_858 rfl, List.forall_mem_cons.mpr ⟨s_iconst d_L_law_859 rfl, List.forall_mem_cons.mpr ⟨s_iadd d_L_law_860, List.forall_mem_cons.mpr ⟨s_sld d_L_law_861, List.forall_mem_cons.mpr ⟨s_aload_n d_L_law_862 rfl, fun _ h => absurd h List.not_mem_nil⟩⟩⟩⟩⟩⟩⟩⟩⟩⟩⟩⟩
def t_L_law_47 (sx : QX) : List (Nat × QO) := [(863, o_il 3 864), (864, o_k 3 865), (865, o_b (fun x y => x + y) 866), (866, o_sld sx 867), (867, o_al 0 868), (868, o_il 3 869), (869, o_k 4 870), (870, o_b (fun x y => x + y) 871), (871, o_sld sx 872), (872, o_al 0 873), (873, o_il 3 874), (874, o_k 5 875)]
theorem ts_L_law_47 (sx : QX) : ∀ q ∈ t_L_law_47 sx, q_Snd sx RL cL_law 4 (some .boolean) q.1 q.2 := List.forall_mem_cons.mpr ⟨s_iload_n d_L_law_863 rfl, List.forall_mem_cons.mpr ⟨s_iconst d_L_law_864 rfl, List.forall_mem_cons.mpr ⟨s_iadd d_L_law_865, List.forall_mem_cons.mpr ⟨s_sld d_L_law_866, List.forall_mem_cons.mpr ⟨s_aload_n d_L_law_867 rfl, List.forall_mem_cons.mpr ⟨s_iload_n d_L_law_868 rfl, List.forall_mem_cons.mpr ⟨s_iconst d_L_law_869 rfl, List.forall_mem_cons.mpr ⟨s_iadd d_L_law_870, List.forall_mem_cons.mpr ⟨s_sld d_L_law_871, List.forall_mem_cons.mpr ⟨s_aload_n d_L_law_872 rfl, List.forall_mem_cons.mpr ⟨s_iload_n d_L_law_873 rfl, List.forall_mem_cons.mpr ⟨s_iconst d_L_law_874 rfl, fun _ h => absurd h List.not_mem_nil⟩⟩⟩⟩⟩⟩⟩⟩⟩⟩⟩⟩
def t_L_law_48 (sx : QX) : List (Nat × QO) := [(875, o_b (fun x y => x + y) 876), (876, o_sld sx 877), (877, o_al 0 878), (878, o_il 3 879), (879, o_k 6 881), (881, o_b (fun x y => x + y) 882), (882, o_sld sx 883), (883, o_cV 1 7 170 13 7 886), (886, o_ic (fun x y => decide (x = y)) 983 889), (889, o_k 0 890), (890, o_ir true), (891, o_al 1 892)]
theorem ts_L_law_48 (sx : QX) : ∀ q ∈ t_L_law_48 sx, q_Snd sx RL cL_law 4 (some .boolean) q.1 q.2 := List.forall_mem_cons.mpr ⟨s_iadd d_L_law_875, List.forall_mem_cons.mpr ⟨s_sld d_L_law_876, List.forall_mem_cons.mpr ⟨s_aload_n d_L_law_877 rfl, List.forall_mem_cons.mpr ⟨s_iload_n d_L_law_878 rfl, List.forall_mem_cons.mpr ⟨s_bipush d_L_law_879 rfl, List.forall_mem_cons.mpr ⟨s_iadd d_L_law_881, List.forall_mem_cons.mpr ⟨s_sld d_L_law_882, List.forall_mem_cons.mpr ⟨s_cV (T := TX7) (N := 30) rfl d_L_law_883 rfl k_5_136 k_5_137 k_5_138 k_1_12 k_5_139 ⟨by decide, by decide⟩ (by decide +kernel) (by decide), List.forall_mem_cons.mpr ⟨s_ic_eq d_L_law_886 (by decide), List.forall_mem_cons.mpr ⟨s_iconst d_L_law_889 rfl, List.forall_mem_cons.mpr ⟨s_zr d_L_law_890 rfl, List.forall_mem_cons.mpr ⟨s_aload_n d_L_law_891 rfl, fun _ h => absurd h List.not_mem_nil⟩⟩⟩⟩⟩⟩⟩⟩⟩⟩⟩⟩
def t_L_law_49 (sx : QX) : List (Nat × QO) := [(892, o_al 0 893), (893, o_il 3 894), (894, o_k 1 895), (895, o_b (fun x y => x + y) 896), (896, o_sld sx 897), (897, o_al 0 898), (898, o_il 3 899), (899, o_k 2 900), (900, o_b (fun x y => x + y) 901), (901, o_sld sx 902), (902, o_al 0 903), (903, o_il 3 904)]
theorem ts_L_law_49 (sx : QX) : ∀ q ∈ t_L_law_49 sx, q_Snd sx RL cL_law 4 (some .boolean) q.1 q.2 := List.forall_mem_cons.mpr ⟨s_aload_n d_L_law_892 rfl, List.forall_mem_cons.mpr ⟨s_iload_n d_L_law_893 rfl, List.forall_mem_cons.mpr ⟨s_iconst d_L_law_894 rfl, List.forall_mem_cons.mpr ⟨s_iadd d_L_law_895, List.forall_mem_cons.mpr ⟨s_sld d_L_law_896, List.forall_mem_cons.mpr ⟨s_aload_n d_L_law_897 rfl, List.forall_mem_cons.mpr ⟨s_iload_n d_L_law_898 rfl, List.forall_mem_cons.mpr ⟨s_iconst d_L_law_899 rfl, List.forall_mem_cons.mpr ⟨s_iadd d_L_law_900, List.forall_mem_cons.mpr ⟨s_sld d_L_law_901, List.forall_mem_cons.mpr ⟨s_aload_n d_L_law_902 rfl, List.forall_mem_cons.mpr ⟨s_iload_n d_L_law_903 rfl, fun _ h => absurd h List.not_mem_nil⟩⟩⟩⟩⟩⟩⟩⟩⟩⟩⟩⟩
def t_L_law_50 (sx : QX) : List (Nat × QO) := [(904, o_k 3 905), (905, o_b (fun x y => x + y) 906), (906, o_sld sx 907), (907, o_cV 1 6 81 5 4 910), (910, o_al 2 911), (911, o_al 0 912), (912, o_il 3 913), (913, o_k 1 914), (914, o_b (fun x y => x + y) 915), (915, o_sld sx 916), (916, o_al 0 917), (917, o_il 3 918)]
theorem ts_L_law_50 (sx : QX) : ∀ q ∈ t_L_law_50 sx, q_Snd sx RL cL_law 4 (some .boolean) q.1 q.2 := List.forall_mem_cons.mpr ⟨s_iconst d_L_law_904 rfl, List.forall_mem_cons.mpr ⟨s_iadd d_L_law_905, List.forall_mem_cons.mpr ⟨s_sld d_L_law_906, List.forall_mem_cons.mpr ⟨s_cV (T := TX6) (N := 9) rfl d_L_law_907 rfl k_3_216 k_3_217 k_3_218 k_1_1 k_3_219 ⟨by decide, by decide⟩ (by decide +kernel) (by decide), List.forall_mem_cons.mpr ⟨s_aload_n d_L_law_910 rfl, List.forall_mem_cons.mpr ⟨s_aload_n d_L_law_911 rfl, List.forall_mem_cons.mpr ⟨s_iload_n d_L_law_912 rfl, List.forall_mem_cons.mpr ⟨s_iconst d_L_law_913 rfl, List.forall_mem_cons.mpr ⟨s_iadd d_L_law_914, List.forall_mem_cons.mpr ⟨s_sld d_L_law_915, List.forall_mem_cons.mpr ⟨s_aload_n d_L_law_916 rfl, List.forall_mem_cons.mpr ⟨s_iload_n d_L_law_917 rfl, fun _ h => absurd h List.not_mem_nil⟩⟩⟩⟩⟩⟩⟩⟩⟩⟩⟩⟩
def t_L_law_51 (sx : QX) : List (Nat × QO) := [(918, o_k 2 919), (919, o_b (fun x y => x + y) 920), (920, o_sld sx 921), (921, o_al 0 922), (922, o_il 3 923), (923, o_k 3 924), (924, o_b (fun x y => x + y) 925), (925, o_sld sx 926), (926, o_cV 1 7 173 7 4 929), (929, o_ic (fun x y => decide (x = y)) 983 932), (932, o_k 0 933), (933, o_ir true)]
theorem ts_L_law_51 (sx : QX) : ∀ q ∈ t_L_law_51 sx, q_Snd sx RL cL_law 4 (some .boolean) q.1 q.2 := List.forall_mem_cons.mpr ⟨s_iconst d_L_law_918 rfl, List.forall_mem_cons.mpr ⟨s_iadd d_L_law_919, List.forall_mem_cons.mpr ⟨s_sld d_L_law_920, List.forall_mem_cons.mpr ⟨s_aload_n d_L_law_921 rfl, List.forall_mem_cons.mpr ⟨s_iload_n d_L_law_922 rfl, List.forall_mem_cons.mpr ⟨s_iconst d_L_law_923 rfl, List.forall_mem_cons.mpr ⟨s_iadd d_L_law_924, List.forall_mem_cons.mpr ⟨s_sld d_L_law_925, List.forall_mem_cons.mpr ⟨s_cV (T := TX7) (N := 30) rfl d_L_law_926 rfl k_5_142 k_5_143 k_5_144 k_1_12 k_5_145 ⟨by decide, by decide⟩ (by decide +kernel) (by decide), List.forall_mem_cons.mpr ⟨s_ic_eq d_L_law_929 (by decide), List.forall_mem_cons.mpr ⟨s_iconst d_L_law_932 rfl, List.forall_mem_cons.mpr ⟨s_zr d_L_law_933 rfl, fun _ h => absurd h List.not_mem_nil⟩⟩⟩⟩⟩⟩⟩⟩⟩⟩⟩⟩
def t_L_law_52 (sx : QX) : List (Nat × QO) := [(934, o_al 1 935), (935, o_cV 1 6 82 1 1 938), (938, o_al 2 939), (939, o_cV 1 7 174 1 1 942), (942, o_ic (fun x y => decide (x = y)) 983 945), (945, o_k 0 946), (946, o_ir true), (947, o_al 1 948), (948, o_cV 1 6 83 1 1 951), (951, o_al 2 952), (952, o_cV 1 7 175 1 1 955), (955, o_ic (fun x y => decide (x = y)) 983 958)]
theorem ts_L_law_52 (sx : QX) : ∀ q ∈ t_L_law_52 sx, q_Snd sx RL cL_law 4 (some .boolean) q.1 q.2 := List.forall_mem_cons.mpr ⟨s_aload_n d_L_law_934 rfl, List.forall_mem_cons.mpr ⟨s_cV (T := TX6) (N := 9) rfl d_L_law_935 rfl k_3_230 k_3_231 k_3_232 k_1_1 k_3_233 ⟨by decide, by decide⟩ (by decide +kernel) (by decide), List.forall_mem_cons.mpr ⟨s_aload_n d_L_law_938 rfl, List.forall_mem_cons.mpr ⟨s_cV (T := TX7) (N := 30) rfl d_L_law_939 rfl k_5_159 k_5_160 k_5_161 k_1_12 k_5_162 ⟨by decide, by decide⟩ (by decide +kernel) (by decide), List.forall_mem_cons.mpr ⟨s_ic_eq d_L_law_942 (by decide), List.forall_mem_cons.mpr ⟨s_iconst d_L_law_945 rfl, List.forall_mem_cons.mpr ⟨s_zr d_L_law_946 rfl, List.forall_mem_cons.mpr ⟨s_aload_n d_L_law_947 rfl, List.forall_mem_cons.mpr ⟨s_cV (T := TX6) (N := 9) rfl d_L_law_948 rfl k_3_234 k_3_235 k_3_236 k_1_1 k_3_237 ⟨by decide, by decide⟩ (by decide +kernel) (by decide), List.forall_mem_cons.mpr ⟨s_aload_n d_L_law_951 rfl, List.forall_mem_cons.mpr ⟨s_cV (T := TX7) (N := 30) rfl d_L_law_952 rfl k_5_163 k_5_164 k_5_165 k_1_12 k_5_166 ⟨by decide, by decide⟩ (by decide +kernel) (by decide), List.forall_mem_cons.mpr ⟨s_ic_eq d_L_law_955 (by decide), fun _ h => absurd h List.not_mem_nil⟩⟩⟩⟩⟩⟩⟩⟩⟩⟩⟩⟩
def t_L_law_53 (sx : QX) : List (Nat × QO) := [(958, o_k 0 959), (959, o_ir true), (960, o_al 1 961), (961, o_al 0 962), (962, o_il 3 963), (963, o_k 1 964), (964, o_b (fun x y => x + y) 965), (965, o_sld sx 966), (966, o_cV 1 6 84 2 2 969), (969, o_al 2 970), (970, o_al 0 971), (971, o_il 3 972)]
theorem ts_L_law_53 (sx : QX) : ∀ q ∈ t_L_law_53 sx, q_Snd sx RL cL_law 4 (some .boolean) q.1 q.2 := List.forall_mem_cons.mpr ⟨s_iconst d_L_law_958 rfl, List.forall_mem_cons.mpr ⟨s_zr d_L_law_959 rfl, List.forall_mem_cons.mpr ⟨s_aload_n d_L_law_960 rfl, List.forall_mem_cons.mpr ⟨s_aload_n d_L_law_961 rfl, List.forall_mem_cons.mpr ⟨s_iload_n d_L_law_962 rfl, List.forall_mem_cons.mpr ⟨s_iconst d_L_law_963 rfl, List.forall_mem_cons.mpr ⟨s_iadd d_L_law_964, List.forall_mem_cons.mpr ⟨s_sld d_L_law_965, List.forall_mem_cons.mpr ⟨s_cV (T := TX6) (N := 9) rfl d_L_law_966 rfl k_3_238 k_3_239 k_4_0 k_1_1 k_4_1 ⟨by decide, by decide⟩ (by decide +kernel) (by decide), List.forall_mem_cons.mpr ⟨s_aload_n d_L_law_969 rfl, List.forall_mem_cons.mpr ⟨s_aload_n d_L_law_970 rfl, List.forall_mem_cons.mpr ⟨s_iload_n d_L_law_971 rfl, fun _ h => absurd h List.not_mem_nil⟩⟩⟩⟩⟩⟩⟩⟩⟩⟩⟩⟩
def t_L_law_54 (sx : QX) : List (Nat × QO) := [(972, o_k 1 973), (973, o_b (fun x y => x + y) 974), (974, o_sld sx 975), (975, o_cV 1 7 176 2 2 978), (978, o_ic (fun x y => decide (x = y)) 983 981), (981, o_k 0 982), (982, o_ir true), (983, o_inc 3 7 986), (986, o_goto 18), (989, o_k 1 990), (990, o_ir true)]
theorem ts_L_law_54 (sx : QX) : ∀ q ∈ t_L_law_54 sx, q_Snd sx RL cL_law 4 (some .boolean) q.1 q.2 := List.forall_mem_cons.mpr ⟨s_iconst d_L_law_972 rfl, List.forall_mem_cons.mpr ⟨s_iadd d_L_law_973, List.forall_mem_cons.mpr ⟨s_sld d_L_law_974, List.forall_mem_cons.mpr ⟨s_cV (T := TX7) (N := 30) rfl d_L_law_975 rfl k_5_167 k_5_168 k_5_169 k_1_12 k_5_170 ⟨by decide, by decide⟩ (by decide +kernel) (by decide), List.forall_mem_cons.mpr ⟨s_ic_eq d_L_law_978 (by decide), List.forall_mem_cons.mpr ⟨s_iconst d_L_law_981 rfl, List.forall_mem_cons.mpr ⟨s_zr d_L_law_982 rfl, List.forall_mem_cons.mpr ⟨s_iinc d_L_law_983 rfl (by decide), List.forall_mem_cons.mpr ⟨s_goto d_L_law_986 (by decide), List.forall_mem_cons.mpr ⟨s_iconst d_L_law_989 rfl, List.forall_mem_cons.mpr ⟨s_zr d_L_law_990 rfl, fun _ h => absurd h List.not_mem_nil⟩⟩⟩⟩⟩⟩⟩⟩⟩⟩⟩
def t_L_law (sx : QX) (pc : Nat) : Option QO := cond (Nat.ble pc 555) (cond (Nat.ble pc 355) (cond (Nat.ble pc 249) (cond (Nat.ble pc 199) (cond (Nat.ble pc 33) (q_look (t_L_law_0 sx) pc) (cond (Nat.ble pc 177) (q_look (t_L_law_1 sx) pc) (q_look (t_L_law_2 sx) pc))) (cond (Nat.ble pc 221) (q_look (t_L_law_3 sx) pc) (cond (Nat.ble pc 235) (q_look (t_L_law_4 sx) pc) (q_look (t_L_law_5 sx) pc)))) (cond (Nat.ble pc 297) (cond (Nat.ble pc 265) (q_look (t_L_law_6 sx) pc) (cond (Nat.ble pc 283) (q_look (t_L_law_7 sx) pc) (q_look (t_L_law_8 sx) pc))) (cond (Nat.ble pc 325) (cond (Nat.ble pc 313) (q_look (t_L_law_9 sx) pc) (q_look (t_L_law_10 sx) pc)) (cond (Nat.ble pc 339) (q_look (t_L_law_11 sx) pc) (q_look (t_L_law_12 sx) pc))))) (cond (Nat.ble pc 453) (cond (Nat.ble pc 397) (cond (Nat.ble pc 369) (q_look (t_L_law_13 sx) pc) (cond (Nat.ble pc 385) (q_look (t_L_law_14 sx) pc) (q_look (t_L_law_15 sx) pc))) (cond (Nat.ble pc 427) (cond (Nat.ble pc 411) (q_look (t_L_law_16 sx) pc) (q_look (t_L_law_17 sx) pc)) (cond (Nat.ble pc 439) (q_look (t_L_law_18 sx) pc) (q_look (t_L_law_19 sx) pc)))) (cond (Nat.ble pc 495) (cond (Nat.ble pc 469) (q_look (t_L_law_20 sx) pc) (cond (Nat.ble pc 481) (q_look (t_L_law_21 sx) pc) (q_look (t_L_law_22 sx) pc))) (cond (Nat.ble pc 525) (cond (Nat.ble pc 511) (q_look (t_L_law_23 sx) pc) (q_look (t_L_law_24 sx) pc)) (cond (Nat.ble pc 541) (q_look (t_L_law_25 sx) pc) (q_look (t_L_law_26 sx) pc)))))) (cond (Nat.ble pc 781) (cond (Nat.ble pc 667) (cond (Nat.ble pc 603) (cond (Nat.ble pc 577) (q_look (t_L_law_27 sx) pc) (cond (Nat.ble pc 589) (q_look (t_L_law_28 sx) pc) (q_look (t_L_law_29 sx) pc))) (cond (Nat.ble pc 637) (cond (Nat.ble pc 621) (q_look (t_L_law_30 sx) pc) (q_look (t_L_law_31 sx) pc)) (cond (Nat.ble pc 653) (q_look (t_L_law_32 sx) pc) (q_look (t_L_law_33 sx) pc)))) (cond (Nat.ble pc 715) (cond (Nat.ble pc 681) (q_look (t_L_law_34 sx) pc) (cond (Nat.ble pc 697) (q_look (t_L_law_35 sx) pc) (q_look (t_L_law_36 sx) pc))) (cond (Nat.ble pc 747) (cond (Nat.ble pc 729) (q_look (t_L_law_37 sx) pc) (q_look (t_L_law_38 sx) pc)) (cond (Nat.ble pc 765) (q_look (t_L_law_39 sx) pc) (q_look (t_L_law_40 sx) pc))))) (cond (Nat.ble pc 874) (cond (Nat.ble pc 823) (cond (Nat.ble pc 795) (q_look (t_L_law_41 sx) pc) (cond (Nat.ble pc 807) (q_look (t_L_law_42 sx) pc) (q_look (t_L_law_43 sx) pc))) (cond (Nat.ble pc 848) (cond (Nat.ble pc 835) (q_look (t_L_law_44 sx) pc) (q_look (t_L_law_45 sx) pc)) (cond (Nat.ble pc 862) (q_look (t_L_law_46 sx) pc) (q_look (t_L_law_47 sx) pc)))) (cond (Nat.ble pc 917) (cond (Nat.ble pc 891) (q_look (t_L_law_48 sx) pc) (cond (Nat.ble pc 903) (q_look (t_L_law_49 sx) pc) (q_look (t_L_law_50 sx) pc))) (cond (Nat.ble pc 955) (cond (Nat.ble pc 933) (q_look (t_L_law_51 sx) pc) (q_look (t_L_law_52 sx) pc)) (cond (Nat.ble pc 971) (q_look (t_L_law_53 sx) pc) (q_look (t_L_law_54 sx) pc))))))
theorem ts_L_law (sx : QX) (pc : Nat) : ∀ o, t_L_law sx pc = some o → q_Snd sx RL cL_law 4 (some .boolean) pc o := by
  unfold t_L_law
  exact q_cb (q_cb (q_cb (q_cb (q_cb (q_look_all (ts_L_law_0 sx)) (q_cb (q_look_all (ts_L_law_1 sx)) (q_look_all (ts_L_law_2 sx)))) (q_cb (q_look_all (ts_L_law_3 sx)) (q_cb (q_look_all (ts_L_law_4 sx)) (q_look_all (ts_L_law_5 sx))))) (q_cb (q_cb (q_look_all (ts_L_law_6 sx)) (q_cb (q_look_all (ts_L_law_7 sx)) (q_look_all (ts_L_law_8 sx)))) (q_cb (q_cb (q_look_all (ts_L_law_9 sx)) (q_look_all (ts_L_law_10 sx))) (q_cb (q_look_all (ts_L_law_11 sx)) (q_look_all (ts_L_law_12 sx)))))) (q_cb (q_cb (q_cb (q_look_all (ts_L_law_13 sx)) (q_cb (q_look_all (ts_L_law_14 sx)) (q_look_all (ts_L_law_15 sx)))) (q_cb (q_cb (q_look_all (ts_L_law_16 sx)) (q_look_all (ts_L_law_17 sx))) (q_cb (q_look_all (ts_L_law_18 sx)) (q_look_all (ts_L_law_19 sx))))) (q_cb (q_cb (q_look_all (ts_L_law_20 sx)) (q_cb (q_look_all (ts_L_law_21 sx)) (q_look_all (ts_L_law_22 sx)))) (q_cb (q_cb (q_look_all (ts_L_law_23 sx)) (q_look_all (ts_L_law_24 sx))) (q_cb (q_look_all (ts_L_law_25 sx)) (q_look_all (ts_L_law_26 sx))))))) (q_cb (q_cb (q_cb (q_cb (q_look_all (ts_L_law_27 sx)) (q_cb (q_look_all (ts_L_law_28 sx)) (q_look_all (ts_L_law_29 sx)))) (q_cb (q_cb (q_look_all (ts_L_law_30 sx)) (q_look_all (ts_L_law_31 sx))) (q_cb (q_look_all (ts_L_law_32 sx)) (q_look_all (ts_L_law_33 sx))))) (q_cb (q_cb (q_look_all (ts_L_law_34 sx)) (q_cb (q_look_all (ts_L_law_35 sx)) (q_look_all (ts_L_law_36 sx)))) (q_cb (q_cb (q_look_all (ts_L_law_37 sx)) (q_look_all (ts_L_law_38 sx))) (q_cb (q_look_all (ts_L_law_39 sx)) (q_look_all (ts_L_law_40 sx)))))) (q_cb (q_cb (q_cb (q_look_all (ts_L_law_41 sx)) (q_cb (q_look_all (ts_L_law_42 sx)) (q_look_all (ts_L_law_43 sx)))) (q_cb (q_cb (q_look_all (ts_L_law_44 sx)) (q_look_all (ts_L_law_45 sx))) (q_cb (q_look_all (ts_L_law_46 sx)) (q_look_all (ts_L_law_47 sx))))) (q_cb (q_cb (q_look_all (ts_L_law_48 sx)) (q_cb (q_look_all (ts_L_law_49 sx)) (q_look_all (ts_L_law_50 sx)))) (q_cb (q_cb (q_look_all (ts_L_law_51 sx)) (q_look_all (ts_L_law_52 sx))) (q_cb (q_look_all (ts_L_law_53 sx)) (q_look_all (ts_L_law_54 sx)))))))
