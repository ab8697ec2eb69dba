/-! ===== the law: links, script, cases ===== -/
theorem ic_bipush_127 : (Int8.ofInt (127)).toInt32 = (127 : Int32) := by decide
theorem ml_RL_9 : Cond.methodLink RL 9 yX11_init ∈ TB := tb_m (bk_1 (List.mem_of_getElem? (i := 24) (by decide +kernel))) rfl
theorem ml_RL_12 : Cond.methodLink RL 12 yX12_init ∈ TB := tb_m (bk_6 (List.mem_of_getElem? (i := 124) (by decide +kernel))) rfl
theorem ml_RL_13 : Cond.methodLink RL 13 yX11_feed ∈ TB := tb_m (bk_2 (List.mem_of_getElem? (i := 106) (by decide +kernel))) rfl
theorem ml_RL_17 : Cond.methodLink RL 17 yX12_feed ∈ TB := tb_m (bk_6 (List.mem_of_getElem? (i := 236) (by decide +kernel))) rfl
theorem ml_RL_18 : Cond.methodLink RL 18 yX11_end ∈ TB := tb_m (bk_2 (List.mem_of_getElem? (i := 118) (by decide +kernel))) rfl
theorem ml_RL_22 : Cond.methodLink RL 22 yX12_end ∈ TB := tb_m (bk_7 (List.mem_of_getElem? (i := 0) (by decide +kernel))) rfl
theorem ml_RL_23 : Cond.methodLink RL 23 yX11_war ∈ TB := tb_m (bk_2 (List.mem_of_getElem? (i := 126) (by decide +kernel))) rfl
theorem ml_RL_27 : Cond.methodLink RL 27 yX12_war ∈ TB := tb_m (bk_7 (List.mem_of_getElem? (i := 8) (by decide +kernel))) rfl
theorem ml_RL_28 : Cond.methodLink RL 28 yX11_fault ∈ TB := tb_m (bk_3 (List.mem_of_getElem? (i := 76) (by decide +kernel))) rfl
theorem ml_RL_31 : Cond.methodLink RL 31 yX12_fault ∈ TB := tb_m (bk_7 (List.mem_of_getElem? (i := 4) (by decide +kernel))) rfl
theorem ml_RL_32 : Cond.methodLink RL 32 yX11_train ∈ TB := tb_m (bk_3 (List.mem_of_getElem? (i := 80) (by decide +kernel))) rfl
theorem ml_RL_36 : Cond.methodLink RL 36 yX12_train ∈ TB := tb_m (bk_7 (List.mem_of_getElem? (i := 109) (by decide +kernel))) rfl
theorem ml_RL_37 : Cond.methodLink RL 37 yX11_need ∈ TB := tb_m (bk_3 (List.mem_of_getElem? (i := 85) (by decide +kernel))) rfl
theorem ml_RL_40 : Cond.methodLink RL 40 yX12_need ∈ TB := tb_m (bk_7 (List.mem_of_getElem? (i := 122) (by decide +kernel))) rfl
theorem ml_RL_41 : Cond.methodLink RL 41 yX11_tea ∈ TB := tb_m (bk_3 (List.mem_of_getElem? (i := 101) (by decide +kernel))) rfl
theorem ml_RL_44 : Cond.methodLink RL 44 yX12_tea ∈ TB := tb_m (bk_7 (List.mem_of_getElem? (i := 134) (by decide +kernel))) rfl
theorem ml_RL_45 : Cond.methodLink RL 45 yX11_cannon ∈ TB := tb_m (bk_3 (List.mem_of_getElem? (i := 111) (by decide +kernel))) rfl
theorem ml_RL_48 : Cond.methodLink RL 48 yX12_cannon ∈ TB := tb_m (bk_7 (List.mem_of_getElem? (i := 142) (by decide +kernel))) rfl
theorem ml_RL_49 : Cond.methodLink RL 49 yX11_rule ∈ TB := tb_m (bk_3 (List.mem_of_getElem? (i := 115) (by decide +kernel))) rfl
theorem ml_RL_52 : Cond.methodLink RL 52 yX12_rule ∈ TB := tb_m (bk_7 (List.mem_of_getElem? (i := 147) (by decide +kernel))) rfl
theorem ml_RL_53 : Cond.methodLink RL 53 yX11_spy ∈ TB := tb_m (bk_3 (List.mem_of_getElem? (i := 119) (by decide +kernel))) rfl
theorem ml_RL_56 : Cond.methodLink RL 56 yX12_spy ∈ TB := tb_m (bk_7 (List.mem_of_getElem? (i := 151) (by decide +kernel))) rfl
theorem ml_RL_57 : Cond.methodLink RL 57 yX11_men ∈ TB := tb_m (bk_3 (List.mem_of_getElem? (i := 123) (by decide +kernel))) rfl
theorem ml_RL_61 : Cond.methodLink RL 61 yX12_men ∈ TB := tb_m (bk_7 (List.mem_of_getElem? (i := 155) (by decide +kernel))) rfl
theorem ml_RL_62 : Cond.methodLink RL 62 yX11_front ∈ TB := tb_m (bk_3 (List.mem_of_getElem? (i := 150) (by decide +kernel))) rfl
theorem ml_RL_65 : Cond.methodLink RL 65 yX12_front ∈ TB := tb_m (bk_7 (List.mem_of_getElem? (i := 182) (by decide +kernel))) rfl
theorem ml_RL_66 : Cond.methodLink RL 66 yX11_late ∈ TB := tb_m (bk_3 (List.mem_of_getElem? (i := 171) (by decide +kernel))) rfl
theorem ml_RL_69 : Cond.methodLink RL 69 yX12_late ∈ TB := tb_m (bk_7 (List.mem_of_getElem? (i := 190) (by decide +kernel))) rfl
theorem ml_RL_70 : Cond.methodLink RL 70 yX11_wins ∈ TB := tb_m (bk_3 (List.mem_of_getElem? (i := 180) (by decide +kernel))) rfl
theorem ml_RL_73 : Cond.methodLink RL 73 yX12_wins ∈ TB := tb_m (bk_7 (List.mem_of_getElem? (i := 198) (by decide +kernel))) rfl
theorem ml_RL_74 : Cond.methodLink RL 74 yX11_peak ∈ TB := tb_m (bk_3 (List.mem_of_getElem? (i := 194) (by decide +kernel))) rfl
theorem ml_RL_77 : Cond.methodLink RL 77 yX12_peak ∈ TB := tb_m (bk_7 (List.mem_of_getElem? (i := 210) (by decide +kernel))) rfl
theorem ml_RL_78 : Cond.methodLink RL 78 yX11_swings ∈ TB := tb_m (bk_3 (List.mem_of_getElem? (i := 205) (by decide +kernel))) rfl
theorem ml_RL_81 : Cond.methodLink RL 81 yX12_swings ∈ TB := tb_m (bk_7 (List.mem_of_getElem? (i := 217) (by decide +kernel))) rfl
theorem ml_RL_82 : Cond.methodLink RL 82 yX11_worst ∈ TB := tb_m (bk_3 (List.mem_of_getElem? (i := 213) (by decide +kernel))) rfl
theorem ml_RL_85 : Cond.methodLink RL 85 yX12_worst ∈ TB := tb_m (bk_7 (List.mem_of_getElem? (i := 234) (by decide +kernel))) rfl
theorem ml_RL_86 : Cond.methodLink RL 86 yX11_by ∈ TB := tb_m (bk_4 (List.mem_of_getElem? (i := 30) (by decide +kernel))) rfl
theorem ml_RL_89 : Cond.methodLink RL 89 yX12_by ∈ TB := tb_m (bk_8 (List.mem_of_getElem? (i := 6) (by decide +kernel))) rfl
theorem ml_RL_90 : Cond.methodLink RL 90 yX11_ways ∈ TB := tb_m (bk_4 (List.mem_of_getElem? (i := 34) (by decide +kernel))) rfl
theorem ml_RL_93 : Cond.methodLink RL 93 yX12_ways ∈ TB := tb_m (bk_8 (List.mem_of_getElem? (i := 10) (by decide +kernel))) rfl
theorem ml_RL_94 : Cond.methodLink RL 94 yX11_idle ∈ TB := tb_m (bk_4 (List.mem_of_getElem? (i := 46) (by decide +kernel))) rfl
theorem ml_RL_97 : Cond.methodLink RL 97 yX12_idle ∈ TB := tb_m (bk_8 (List.mem_of_getElem? (i := 14) (by decide +kernel))) rfl
theorem ml_RL_98 : Cond.methodLink RL 98 yX11_enough ∈ TB := tb_m (bk_4 (List.mem_of_getElem? (i := 58) (by decide +kernel))) rfl
theorem ml_RL_102 : Cond.methodLink RL 102 yX12_enough ∈ TB := tb_m (bk_8 (List.mem_of_getElem? (i := 18) (by decide +kernel))) rfl
theorem ml_RL_103 : Cond.methodLink RL 103 yX11_chance ∈ TB := tb_m (bk_4 (List.mem_of_getElem? (i := 105) (by decide +kernel))) rfl
theorem ml_RL_106 : Cond.methodLink RL 106 yX12_chance ∈ TB := tb_m (bk_8 (List.mem_of_getElem? (i := 37) (by decide +kernel))) rfl
theorem ml_RL_107 : Cond.methodLink RL 107 yX11_send ∈ TB := tb_m (bk_4 (List.mem_of_getElem? (i := 118) (by decide +kernel))) rfl
theorem ml_RL_110 : Cond.methodLink RL 110 yX12_send ∈ TB := tb_m (bk_8 (List.mem_of_getElem? (i := 41) (by decide +kernel))) rfl
theorem ml_RL_111 : Cond.methodLink RL 111 yX11_sent ∈ TB := tb_m (bk_4 (List.mem_of_getElem? (i := 150) (by decide +kernel))) rfl
theorem ml_RL_114 : Cond.methodLink RL 114 yX12_sent ∈ TB := tb_m (bk_8 (List.mem_of_getElem? (i := 73) (by decide +kernel))) rfl
theorem ml_RL_115 : Cond.methodLink RL 115 yX11_fewest ∈ TB := tb_m (bk_4 (List.mem_of_getElem? (i := 154) (by decide +kernel))) rfl
theorem ml_RL_118 : Cond.methodLink RL 118 yX12_fewest ∈ TB := tb_m (bk_8 (List.mem_of_getElem? (i := 77) (by decide +kernel))) rfl
theorem ml_RL_119 : Cond.methodLink RL 119 yX11_risk ∈ TB := tb_m (bk_4 (List.mem_of_getElem? (i := 162) (by decide +kernel))) rfl
theorem ml_RL_122 : Cond.methodLink RL 122 yX12_risk ∈ TB := tb_m (bk_8 (List.mem_of_getElem? (i := 81) (by decide +kernel))) rfl
theorem ml_RL_123 : Cond.methodLink RL 123 yX11_risked ∈ TB := tb_m (bk_4 (List.mem_of_getElem? (i := 174) (by decide +kernel))) rfl
theorem ml_RL_126 : Cond.methodLink RL 126 yX12_risked ∈ TB := tb_m (bk_8 (List.mem_of_getElem? (i := 97) (by decide +kernel))) rfl
theorem ml_RL_127 : Cond.methodLink RL 127 yX11_bribe ∈ TB := tb_m (bk_4 (List.mem_of_getElem? (i := 178) (by decide +kernel))) rfl
theorem ml_RL_130 : Cond.methodLink RL 130 yX12_bribe ∈ TB := tb_m (bk_8 (List.mem_of_getElem? (i := 101) (by decide +kernel))) rfl
theorem ml_RL_131 : Cond.methodLink RL 131 yX11_bribed ∈ TB := tb_m (bk_4 (List.mem_of_getElem? (i := 191) (by decide +kernel))) rfl
theorem ml_RL_134 : Cond.methodLink RL 134 yX12_bribed ∈ TB := tb_m (bk_8 (List.mem_of_getElem? (i := 109) (by decide +kernel))) rfl
theorem ml_RL_135 : Cond.methodLink RL 135 yX11_guard ∈ TB := tb_m (bk_4 (List.mem_of_getElem? (i := 195) (by decide +kernel))) rfl
theorem ml_RL_138 : Cond.methodLink RL 138 yX12_guard ∈ TB := tb_m (bk_8 (List.mem_of_getElem? (i := 113) (by decide +kernel))) rfl
theorem ml_RL_139 : Cond.methodLink RL 139 yX11_guarded ∈ TB := tb_m (bk_4 (List.mem_of_getElem? (i := 208) (by decide +kernel))) rfl
theorem ml_RL_142 : Cond.methodLink RL 142 yX12_guarded ∈ TB := tb_m (bk_8 (List.mem_of_getElem? (i := 121) (by decide +kernel))) rfl
theorem ml_RL_143 : Cond.methodLink RL 143 yX11_spoil ∈ TB := tb_m (bk_4 (List.mem_of_getElem? (i := 212) (by decide +kernel))) rfl
theorem ml_RL_146 : Cond.methodLink RL 146 yX12_spoil ∈ TB := tb_m (bk_8 (List.mem_of_getElem? (i := 125) (by decide +kernel))) rfl
theorem ml_RL_147 : Cond.methodLink RL 147 yX11_spoils ∈ TB := tb_m (bk_4 (List.mem_of_getElem? (i := 226) (by decide +kernel))) rfl
theorem ml_RL_150 : Cond.methodLink RL 150 yX12_spoils ∈ TB := tb_m (bk_8 (List.mem_of_getElem? (i := 145) (by decide +kernel))) rfl
theorem ml_RL_151 : Cond.methodLink RL 151 yX11_answer ∈ TB := tb_m (bk_4 (List.mem_of_getElem? (i := 230) (by decide +kernel))) rfl
theorem ml_RL_154 : Cond.methodLink RL 154 yX12_answer ∈ TB := tb_m (bk_8 (List.mem_of_getElem? (i := 149) (by decide +kernel))) rfl
theorem ml_RL_155 : Cond.methodLink RL 155 yX11_rests ∈ TB := tb_m (bk_5 (List.mem_of_getElem? (i := 10) (by decide +kernel))) rfl
theorem ml_RL_158 : Cond.methodLink RL 158 yX12_rests ∈ TB := tb_m (bk_8 (List.mem_of_getElem? (i := 159) (by decide +kernel))) rfl
theorem ml_RL_159 : Cond.methodLink RL 159 yX11_since ∈ TB := tb_m (bk_5 (List.mem_of_getElem? (i := 18) (by decide +kernel))) rfl
theorem ml_RL_162 : Cond.methodLink RL 162 yX12_since ∈ TB := tb_m (bk_7 (List.mem_of_getElem? (i := 221) (by decide +kernel))) rfl
theorem ml_RL_163 : Cond.methodLink RL 163 yX11_comes ∈ TB := tb_m (bk_5 (List.mem_of_getElem? (i := 22) (by decide +kernel))) rfl
theorem ml_RL_166 : Cond.methodLink RL 166 yX12_comes ∈ TB := tb_m (bk_7 (List.mem_of_getElem? (i := 225) (by decide +kernel))) rfl
theorem ml_RL_167 : Cond.methodLink RL 167 yX11_even ∈ TB := tb_m (bk_5 (List.mem_of_getElem? (i := 27) (by decide +kernel))) rfl
theorem ml_RL_171 : Cond.methodLink RL 171 yX12_even ∈ TB := tb_m (bk_7 (List.mem_of_getElem? (i := 229) (by decide +kernel))) rfl
theorem ml_RL_172 : Cond.methodLink RL 172 yX11_hold ∈ TB := tb_m (bk_5 (List.mem_of_getElem? (i := 32) (by decide +kernel))) rfl
theorem ml_RL_175 : Cond.methodLink RL 175 yX12_hold ∈ TB := tb_m (bk_8 (List.mem_of_getElem? (i := 163) (by decide +kernel))) rfl
theorem ml_RL_176 : Cond.methodLink RL 176 yX11_holds ∈ TB := tb_m (bk_5 (List.mem_of_getElem? (i := 51) (by decide +kernel))) rfl
theorem ml_RL_179 : Cond.methodLink RL 179 yX12_holds ∈ TB := tb_m (bk_8 (List.mem_of_getElem? (i := 182) (by decide +kernel))) rfl
theorem ml_RL_180 : Cond.methodLink RL 180 yX11_reply ∈ TB := tb_m (bk_5 (List.mem_of_getElem? (i := 58) (by decide +kernel))) rfl
theorem ml_RL_183 : Cond.methodLink RL 183 yX12_reply ∈ TB := tb_m (bk_8 (List.mem_of_getElem? (i := 186) (by decide +kernel))) rfl
theorem ml_RL_184 : Cond.methodLink RL 184 yX11_readings ∈ TB := tb_m (bk_5 (List.mem_of_getElem? (i := 62) (by decide +kernel))) rfl
theorem ml_RL_187 : Cond.methodLink RL 187 yX12_readings ∈ TB := tb_m (bk_8 (List.mem_of_getElem? (i := 190) (by decide +kernel))) rfl
theorem ml_RL_188 : Cond.methodLink RL 188 yX11_loopholes ∈ TB := tb_m (bk_5 (List.mem_of_getElem? (i := 84) (by decide +kernel))) rfl
theorem ml_RL_192 : Cond.methodLink RL 192 yX12_loopholes ∈ TB := tb_m (bk_8 (List.mem_of_getElem? (i := 211) (by decide +kernel))) rfl
theorem ml_RL_193 : Cond.methodLink RL 193 yX11_close ∈ TB := tb_m (bk_5 (List.mem_of_getElem? (i := 92) (by decide +kernel))) rfl
theorem ml_RL_196 : Cond.methodLink RL 196 yX12_close ∈ TB := tb_m (bk_8 (List.mem_of_getElem? (i := 215) (by decide +kernel))) rfl
theorem ml_RL_197 : Cond.methodLink RL 197 yX11_closed ∈ TB := tb_m (bk_5 (List.mem_of_getElem? (i := 101) (by decide +kernel))) rfl
theorem ml_RL_200 : Cond.methodLink RL 200 yX12_closed ∈ TB := tb_m (bk_8 (List.mem_of_getElem? (i := 223) (by decide +kernel))) rfl
theorem ml_RL_201 : Cond.methodLink RL 201 yX11_signs ∈ TB := tb_m (bk_5 (List.mem_of_getElem? (i := 105) (by decide +kernel))) rfl
theorem ml_RL_204 : Cond.methodLink RL 204 yX12_signs ∈ TB := tb_m (bk_8 (List.mem_of_getElem? (i := 227) (by decide +kernel))) rfl
theorem ml_RL_205 : Cond.methodLink RL 205 yX11_treaties ∈ TB := tb_m (bk_5 (List.mem_of_getElem? (i := 113) (by decide +kernel))) rfl
theorem ml_RL_208 : Cond.methodLink RL 208 yX12_treaties ∈ TB := tb_m (bk_8 (List.mem_of_getElem? (i := 231) (by decide +kernel))) rfl
theorem ml_RL_209 : Cond.methodLink RL 209 yX11_price ∈ TB := tb_m (bk_5 (List.mem_of_getElem? (i := 129) (by decide +kernel))) rfl
theorem ml_RL_212 : Cond.methodLink RL 212 yX12_price ∈ TB := tb_m (bk_9 (List.mem_of_getElem? (i := 0) (by decide +kernel))) rfl
theorem ml_RL_213 : Cond.methodLink RL 213 yX11_spies ∈ TB := tb_m (bk_5 (List.mem_of_getElem? (i := 134) (by decide +kernel))) rfl
theorem ml_RL_216 : Cond.methodLink RL 216 yX12_spies ∈ TB := tb_m (bk_9 (List.mem_of_getElem? (i := 4) (by decide +kernel))) rfl
theorem ml_RL_217 : Cond.methodLink RL 217 yX11_watch ∈ TB := tb_m (bk_5 (List.mem_of_getElem? (i := 147) (by decide +kernel))) rfl
theorem ml_RL_220 : Cond.methodLink RL 220 yX12_watch ∈ TB := tb_m (bk_9 (List.mem_of_getElem? (i := 12) (by decide +kernel))) rfl
theorem ml_RL_221 : Cond.methodLink RL 221 yX11_leaves ∈ TB := tb_m (bk_5 (List.mem_of_getElem? (i := 163) (by decide +kernel))) rfl
theorem ml_RL_224 : Cond.methodLink RL 224 yX12_leaves ∈ TB := tb_m (bk_9 (List.mem_of_getElem? (i := 24) (by decide +kernel))) rfl
theorem ml_RL_225 : Cond.methodLink RL 225 yX11_known ∈ TB := tb_m (bk_5 (List.mem_of_getElem? (i := 168) (by decide +kernel))) rfl
theorem ml_RL_228 : Cond.methodLink RL 228 yX12_known ∈ TB := tb_m (bk_9 (List.mem_of_getElem? (i := 28) (by decide +kernel))) rfl
theorem ml_RL_229 : Cond.methodLink RL 229 yX11_grant ∈ TB := tb_m (bk_5 (List.mem_of_getElem? (i := 181) (by decide +kernel))) rfl
theorem ml_RL_232 : Cond.methodLink RL 232 yX12_grant ∈ TB := tb_m (bk_9 (List.mem_of_getElem? (i := 32) (by decide +kernel))) rfl
theorem ml_RL_233 : Cond.methodLink RL 233 yX11_granted ∈ TB := tb_m (bk_5 (List.mem_of_getElem? (i := 204) (by decide +kernel))) rfl
theorem ml_RL_236 : Cond.methodLink RL 236 yX12_granted ∈ TB := tb_m (bk_9 (List.mem_of_getElem? (i := 56) (by decide +kernel))) rfl
theorem ml_RL_237 : Cond.methodLink RL 237 yX11_halves ∈ TB := tb_m (bk_5 (List.mem_of_getElem? (i := 208) (by decide +kernel))) rfl
theorem ml_RL_240 : Cond.methodLink RL 240 yX12_halves ∈ TB := tb_m (bk_9 (List.mem_of_getElem? (i := 60) (by decide +kernel))) rfl
theorem ml_RL_241 : Cond.methodLink RL 241 yX11_halved ∈ TB := tb_m (bk_5 (List.mem_of_getElem? (i := 212) (by decide +kernel))) rfl
theorem ml_RL_244 : Cond.methodLink RL 244 yX12_halved ∈ TB := tb_m (bk_9 (List.mem_of_getElem? (i := 64) (by decide +kernel))) rfl
theorem ml_RL_245 : Cond.methodLink RL 245 yX11_dry ∈ TB := tb_m (bk_5 (List.mem_of_getElem? (i := 216) (by decide +kernel))) rfl
theorem ml_RL_249 : Cond.methodLink RL 249 yX12_dry ∈ TB := tb_m (bk_9 (List.mem_of_getElem? (i := 68) (by decide +kernel))) rfl
theorem ml_RL_250 : Cond.methodLink RL 250 yX11_insist ∈ TB := tb_m (bk_5 (List.mem_of_getElem? (i := 226) (by decide +kernel))) rfl
theorem ml_RL_253 : Cond.methodLink RL 253 yX12_insist ∈ TB := tb_m (bk_9 (List.mem_of_getElem? (i := 72) (by decide +kernel))) rfl
theorem ml_RL_254 : Cond.methodLink RL 254 yX11_tell ∈ TB := tb_m (bk_5 (List.mem_of_getElem? (i := 234) (by decide +kernel))) rfl
theorem ml_RL_257 : Cond.methodLink RL 257 yX12_tell ∈ TB := tb_m (bk_9 (List.mem_of_getElem? (i := 76) (by decide +kernel))) rfl
theorem ml_RL_258 : Cond.methodLink RL 258 yX11_needs ∈ TB := tb_m (bk_6 (List.mem_of_getElem? (i := 25) (by decide +kernel))) rfl
theorem ml_RL_261 : Cond.methodLink RL 261 yX12_needs_ ∈ TB := tb_m (bk_9 (List.mem_of_getElem? (i := 88) (by decide +kernel))) rfl
theorem ml_RL_262 : Cond.methodLink RL 262 yX11_undo ∈ TB := tb_m (bk_6 (List.mem_of_getElem? (i := 29) (by decide +kernel))) rfl
theorem ml_RL_265 : Cond.methodLink RL 265 yX12_undo ∈ TB := tb_m (bk_9 (List.mem_of_getElem? (i := 92) (by decide +kernel))) rfl
theorem ml_RL_266 : Cond.methodLink RL 266 yX11_drawn ∈ TB := tb_m (bk_6 (List.mem_of_getElem? (i := 41) (by decide +kernel))) rfl
theorem ml_RL_269 : Cond.methodLink RL 269 yX12_drawn ∈ TB := tb_m (bk_9 (List.mem_of_getElem? (i := 96) (by decide +kernel))) rfl
theorem ml_RL_270 : Cond.methodLink RL 270 yX11_luck ∈ TB := tb_m (bk_6 (List.mem_of_getElem? (i := 64) (by decide +kernel))) rfl
theorem ml_RL_273 : Cond.methodLink RL 273 yX12_luck ∈ TB := tb_m (bk_9 (List.mem_of_getElem? (i := 113) (by decide +kernel))) rfl
theorem ml_RL_274 : Cond.methodLink RL 274 yX11_count ∈ TB := tb_m (bk_6 (List.mem_of_getElem? (i := 68) (by decide +kernel))) rfl
theorem ml_RL_277 : Cond.methodLink RL 277 yX12_count ∈ TB := tb_m (bk_9 (List.mem_of_getElem? (i := 118) (by decide +kernel))) rfl
theorem ml_RL_278 : Cond.methodLink RL 278 yX11_image ∈ TB := tb_m (bk_6 (List.mem_of_getElem? (i := 76) (by decide +kernel))) rfl
theorem ml_RL_281 : Cond.methodLink RL 281 yX12_image ∈ TB := tb_m (bk_6 (List.mem_of_getElem? (i := 224) (by decide +kernel))) rfl
theorem ml_RL_282 : Cond.methodLink RL 282 yX11_back ∈ TB := tb_m (bk_6 (List.mem_of_getElem? (i := 83) (by decide +kernel))) rfl
theorem ml_RL_285 : Cond.methodLink RL 285 yX12_back ∈ TB := tb_m (bk_6 (List.mem_of_getElem? (i := 232) (by decide +kernel))) rfl
theorem ml_RL_286 : Cond.methodLink RL 286 yX11_row ∈ TB := tb_m (bk_6 (List.mem_of_getElem? (i := 87) (by decide +kernel))) rfl
theorem ml_RL_289 : Cond.methodLink RL 289 yX12_row ∈ TB := tb_m (bk_9 (List.mem_of_getElem? (i := 122) (by decide +kernel))) rfl
theorem ml_RL_292 : Cond.methodLink RL 292 yX11_write ∈ TB := tb_m (bk_6 (List.mem_of_getElem? (i := 98) (by decide +kernel))) rfl
theorem ml_RL_296 : Cond.methodLink RL 296 yX12_write ∈ TB := tb_m (bk_9 (List.mem_of_getElem? (i := 129) (by decide +kernel))) rfl
theorem ml_RL_297 : Cond.methodLink RL 297 yX11_paste ∈ TB := tb_m (bk_6 (List.mem_of_getElem? (i := 109) (by decide +kernel))) rfl
theorem ml_RL_300 : Cond.methodLink RL 300 yX12_paste ∈ TB := tb_m (bk_9 (List.mem_of_getElem? (i := 136) (by decide +kernel))) rfl
theorem cl_RL_290 : Cond.constantLong RL 290 (4294967295) ∈ TB := tb_m (bk_9 (List.mem_of_getElem? (i := 140) (by decide +kernel))) rfl
theorem kl_RL_7 : Cond.classLink RL 7 RX11 ∈ TB := tb_m (bk_1 (List.mem_of_getElem? (i := 22) (by decide +kernel))) rfl
theorem kl_RL_10 : Cond.classLink RL 10 RX12 ∈ TB := tb_m (bk_6 (List.mem_of_getElem? (i := 122) (by decide +kernel))) rfl
/-- the law's own script -/
def SCR (Γ : CX) (b L : Nat) (z : Nat → Int32) : Prop := va_X b L z (xs Γ) (xs Γ).heap ∧ b < (xs Γ).heap.size ∧ ¬ xA Γ b
section SC
variable {Γ : CX} {cc : ByteArray} {nL : Nat} {own : String} {ret : Option FieldType} {rm : Room} {ws : va_W} {pc pc' : Nat} {lv : List (Nat × Value)} {st : List Value} {b L : Nat} {z : Nat → Int32}
theorem s_ld {x : Int32} (hz : SCR Γ b L z) (hin : vp_in x L) (hd : decode cc pc = .ok (.iaload, 1)) (hp : pc + 1 = pc') (h : WL Γ cc nL own ret rm ws pc' lv (.int (z x.toNatClampNeg) :: st)) : WL Γ cc nL own ret rm ws pc lv (.int x :: .ref b :: st) := by
  subst hp
  exact fun X H locs ls hP hD hS hl => va_sld X.1 X.2.1 hz.1 hz.2.1 hz.2.2 hS hin hd (h X H locs ls hP hD hS hl)
theorem s_len (hz : SCR Γ b L z) (hd : decode cc pc = .ok (.arraylength, 1)) (hp : pc + 1 = pc') (h : WL Γ cc nL own ret rm ws pc' lv (.int (nI L) :: st)) : WL Γ cc nL own ret rm ws pc lv (.ref b :: st) := by
  subst hp
  exact fun X H locs ls hP hD hS hl => va_slen X.1 X.2.1 hz.1 hz.2.1 hz.2.2 hS hd (h X H locs ls hP hD hS hl)
theorem s_arg {i : Nat} {x y : Nat} (c : Nat) {n : Int} (hz : SCR Γ b L z) (hi : i + 6 ≤ L) (hL : L < 2 ^ 31) (hc : c < 6) (d0 : decode cc pc = .ok (.aload_n 0, 1)) (d1 : decode cc (pc + 1) = .ok (.iload_n 3, 1)) (d2 : decode cc (pc + 2) = .ok (.iconst n, 1)) (hn : Int32.ofInt n = nI c) (d3 : decode cc (pc + 3) = .ok (.iadd, 1)) (d4 : decode cc (pc + 4) = .ok (.iaload, 1)) (hp : pc + 5 = pc')
    (h : WL Γ cc nL own ret rm ws pc' [(0, .ref b), (1, .ref x), (2, .ref y), (3, .int (nI i))] (.int (z (i + c)) :: st)) : WL Γ cc nL own ret rm ws pc [(0, .ref b), (1, .ref x), (2, .ref y), (3, .int (nI i))] st := by
  refine w_aload_n 0 d0 rfl rfl rfl ?_
  refine w_iload_n 3 d1 rfl rfl rfl ?_
  refine w_iconst (nI c) d2 hn rfl ?_
  refine w_iadd d3 rfl ?_
  rw [nI_add]
  refine s_ld hz (vp_in_nI (by omega) hL) d4 hp ?_
  rw [nI_clamp (by omega)]
  exact h
end SC
theorem lcmp_eq {x y : Int64} (h : x = y) : lg_cmp x y = 0 := by
  subst h
  simp [lg_cmp]
theorem law_gt {i L : Nat} (hi : i < 2 ^ 31) (hL : L < 2 ^ 31) : (nI L - 6 < nI i) ↔ L < i + 6 := by
  have a : (nI L - 6).toInt = (L : Int) - 6 := by
    rw [Int32.toInt_sub, nI_toInt hL]
    show ((L : Int) - 6).bmod (2 ^ 32) = _
    rw [Int.bmod_eq_of_le (by omega) (by omega)]
  rw [Int32.lt_iff_toInt_lt, a, nI_toInt hi]
  omega
theorem g_law_0 {Γ : CX} {b L i : Nat} {z : Nat → Int32} {σ s1 s2 : St} {r1 r2 : Int32} (hz : SCR Γ b L z) (hi : i + 6 ≤ L) (hL : L < 2 ^ 31) (h1 : f_X11_feed (z (i + 1)) (z (i + 2)) (z (i + 3)) (z (i + 4)) (z (i + 5)) σ = some (r1, s1)) (h2 : f_X12_feed (z (i + 1)) (z (i + 2)) (z (i + 3)) (z (i + 4)) (z (i + 5)) s1 = some (r2, s2)) (he : r1 = r2) (h : WW Γ cL_law 4 RL ret room_1 s2 2287 [(0, .ref b), (1, .ref (xd Γ 0)), (2, .ref (xd Γ 58)), (3, .int (nI i))] []) : WW Γ cL_law 4 RL ret room_1 σ 324 [(0, .ref b), (1, .ref (xd Γ 0)), (2, .ref (xd Γ 58)), (3, .int (nI i))] [] := by
  refine w_aload_n 1 dL_law_324 rfl rfl rfl ?_
  refine s_arg 1 hz hi hL (by decide) dL_law_325 dL_law_326 dL_law_327 (by decide) dL_law_328 dL_law_329 rfl ?_
  refine s_arg 2 hz hi hL (by decide) dL_law_330 dL_law_331 dL_law_332 (by decide) dL_law_333 dL_law_334 rfl ?_
  refine s_arg 3 hz hi hL (by decide) dL_law_335 dL_law_336 dL_law_337 (by decide) dL_law_338 dL_law_339 rfl ?_
  refine s_arg 4 hz hi hL (by decide) dL_law_340 dL_law_341 dL_law_342 (by decide) dL_law_343 dL_law_344 rfl ?_
  refine s_arg 5 hz hi hL (by decide) dL_law_345 dL_law_346 dL_law_347 (by decide) dL_law_348 dL_law_349 rfl ?_
  refine k_X11_feed ml_RL_13 (Nat.le_of_ble_eq_true rfl) ⟨Nat.le_of_ble_eq_true rfl, Nat.le_of_ble_eq_true rfl⟩ dL_law_350 rfl h1 ?_
  refine w_aload_n 2 dL_law_353 rfl rfl rfl ?_
  refine s_arg 1 hz hi hL (by decide) dL_law_354 dL_law_355 dL_law_356 (by decide) dL_law_357 dL_law_358 rfl ?_
  refine s_arg 2 hz hi hL (by decide) dL_law_359 dL_law_360 dL_law_361 (by decide) dL_law_362 dL_law_363 rfl ?_
  refine s_arg 3 hz hi hL (by decide) dL_law_364 dL_law_365 dL_law_366 (by decide) dL_law_367 dL_law_368 rfl ?_
  refine s_arg 4 hz hi hL (by decide) dL_law_369 dL_law_370 dL_law_371 (by decide) dL_law_372 dL_law_373 rfl ?_
  refine s_arg 5 hz hi hL (by decide) dL_law_374 dL_law_375 dL_law_376 (by decide) dL_law_377 dL_law_378 rfl ?_
  refine k_X12_feed ml_RL_17 (Nat.le_of_ble_eq_true rfl) ⟨Nat.le_of_ble_eq_true rfl, Nat.le_of_ble_eq_true rfl⟩ dL_law_379 rfl h2 ?_
  refine w_icmp_eq (tgt := 2287) dL_law_382 (by decide) rfl (fun _ => ?_) (fun q => absurd he q)
  exact h
theorem g_law_1 {Γ : CX} {b L i : Nat} {z : Nat → Int32} {σ s1 s2 : St} {r1 r2 : Int32} (hz : SCR Γ b L z) (hi : i + 6 ≤ L) (hL : L < 2 ^ 31) (h1 : f_X11_end (z (i + 1)) σ = some (r1, s1)) (h2 : f_X12_end (z (i + 1)) s1 = some (r2, s2)) (he : r1 = r2) (h : WW Γ cL_law 4 RL ret room_1 s2 2287 [(0, .ref b), (1, .ref (xd Γ 0)), (2, .ref (xd Γ 58)), (3, .int (nI i))] []) : WW Γ cL_law 4 RL ret room_1 σ 387 [(0, .ref b), (1, .ref (xd Γ 0)), (2, .ref (xd Γ 58)), (3, .int (nI i))] [] := by
  refine w_aload_n 1 dL_law_387 rfl rfl rfl ?_
  refine s_arg 1 hz hi hL (by decide) dL_law_388 dL_law_389 dL_law_390 (by decide) dL_law_391 dL_law_392 rfl ?_
  refine k_X11_end ml_RL_18 (Nat.le_of_ble_eq_true rfl) ⟨Nat.le_of_ble_eq_true rfl, Nat.le_of_ble_eq_true rfl⟩ dL_law_393 rfl h1 ?_
  refine w_aload_n 2 dL_law_396 rfl rfl rfl ?_
  refine s_arg 1 hz hi hL (by decide) dL_law_397 dL_law_398 dL_law_399 (by decide) dL_law_400 dL_law_401 rfl ?_
  refine k_X12_end ml_RL_22 (Nat.le_of_ble_eq_true rfl) ⟨Nat.le_of_ble_eq_true rfl, Nat.le_of_ble_eq_true rfl⟩ dL_law_402 rfl h2 ?_
  refine w_icmp_eq (tgt := 2287) dL_law_405 (by decide) rfl (fun _ => ?_) (fun q => absurd he q)
  exact h
theorem g_law_2 {Γ : CX} {b L i : Nat} {z : Nat → Int32} {σ s1 s2 : St} {r1 r2 : Int32} (hz : SCR Γ b L z) (hi : i + 6 ≤ L) (hL : L < 2 ^ 31) (h1 : f_X11_war σ = some (r1, s1)) (h2 : f_X12_war s1 = some (r2, s2)) (he : r1 = r2) (h : WW Γ cL_law 4 RL ret room_1 s2 2287 [(0, .ref b), (1, .ref (xd Γ 0)), (2, .ref (xd Γ 58)), (3, .int (nI i))] []) : WW Γ cL_law 4 RL ret room_1 σ 410 [(0, .ref b), (1, .ref (xd Γ 0)), (2, .ref (xd Γ 58)), (3, .int (nI i))] [] := by
  refine w_aload_n 1 dL_law_410 rfl rfl rfl ?_
  refine k_X11_war ml_RL_23 (Nat.le_of_ble_eq_true rfl) ⟨Nat.le_of_ble_eq_true rfl, Nat.le_of_ble_eq_true rfl⟩ dL_law_411 rfl h1 ?_
  refine w_aload_n 2 dL_law_414 rfl rfl rfl ?_
  refine k_X12_war ml_RL_27 (Nat.le_of_ble_eq_true rfl) ⟨Nat.le_of_ble_eq_true rfl, Nat.le_of_ble_eq_true rfl⟩ dL_law_415 rfl h2 ?_
  refine w_icmp_eq (tgt := 2287) dL_law_418 (by decide) rfl (fun _ => ?_) (fun q => absurd he q)
  exact h
theorem g_law_3 {Γ : CX} {b L i : Nat} {z : Nat → Int32} {σ s1 s2 : St} {r1 r2 : Int32} (hz : SCR Γ b L z) (hi : i + 6 ≤ L) (hL : L < 2 ^ 31) (h1 : f_X11_fault (z (i + 1)) σ = some (r1, s1)) (h2 : f_X12_fault (z (i + 1)) s1 = some (r2, s2)) (he : r1 = r2) (h : WW Γ cL_law 4 RL ret room_1 s2 2287 [(0, .ref b), (1, .ref (xd Γ 0)), (2, .ref (xd Γ 58)), (3, .int (nI i))] []) : WW Γ cL_law 4 RL ret room_1 σ 423 [(0, .ref b), (1, .ref (xd Γ 0)), (2, .ref (xd Γ 58)), (3, .int (nI i))] [] := by
  refine w_aload_n 1 dL_law_423 rfl rfl rfl ?_
  refine s_arg 1 hz hi hL (by decide) dL_law_424 dL_law_425 dL_law_426 (by decide) dL_law_427 dL_law_428 rfl ?_
  refine k_X11_fault ml_RL_28 (Nat.le_of_ble_eq_true rfl) ⟨Nat.le_of_ble_eq_true rfl, Nat.le_of_ble_eq_true rfl⟩ dL_law_429 rfl h1 ?_
  refine w_aload_n 2 dL_law_432 rfl rfl rfl ?_
  refine s_arg 1 hz hi hL (by decide) dL_law_433 dL_law_434 dL_law_435 (by decide) dL_law_436 dL_law_437 rfl ?_
  refine k_X12_fault ml_RL_31 (Nat.le_of_ble_eq_true rfl) ⟨Nat.le_of_ble_eq_true rfl, Nat.le_of_ble_eq_true rfl⟩ dL_law_438 rfl h2 ?_
  refine w_icmp_eq (tgt := 2287) dL_law_441 (by decide) rfl (fun _ => ?_) (fun q => absurd he q)
  exact h
theorem g_law_4 {Γ : CX} {b L i : Nat} {z : Nat → Int32} {σ s1 s2 : St} {r1 r2 : Int32} (hz : SCR Γ b L z) (hi : i + 6 ≤ L) (hL : L < 2 ^ 31) (h1 : f_X11_train (z (i + 1)) (z (i + 2)) σ = some (r1, s1)) (h2 : f_X12_train (z (i + 1)) (z (i + 2)) s1 = some (r2, s2)) (he : r1 = r2) (h : WW Γ cL_law 4 RL ret room_1 s2 2287 [(0, .ref b), (1, .ref (xd Γ 0)), (2, .ref (xd Γ 58)), (3, .int (nI i))] []) : WW Γ cL_law 4 RL ret room_1 σ 446 [(0, .ref b), (1, .ref (xd Γ 0)), (2, .ref (xd Γ 58)), (3, .int (nI i))] [] := by
  refine w_aload_n 1 dL_law_446 rfl rfl rfl ?_
  refine s_arg 1 hz hi hL (by decide) dL_law_447 dL_law_448 dL_law_449 (by decide) dL_law_450 dL_law_451 rfl ?_
  refine s_arg 2 hz hi hL (by decide) dL_law_452 dL_law_453 dL_law_454 (by decide) dL_law_455 dL_law_456 rfl ?_
  refine k_X11_train ml_RL_32 (Nat.le_of_ble_eq_true rfl) ⟨Nat.le_of_ble_eq_true rfl, Nat.le_of_ble_eq_true rfl⟩ dL_law_457 rfl h1 ?_
  refine w_aload_n 2 dL_law_460 rfl rfl rfl ?_
  refine s_arg 1 hz hi hL (by decide) dL_law_461 dL_law_462 dL_law_463 (by decide) dL_law_464 dL_law_465 rfl ?_
  refine s_arg 2 hz hi hL (by decide) dL_law_466 dL_law_467 dL_law_468 (by decide) dL_law_469 dL_law_470 rfl ?_
  refine k_X12_train ml_RL_36 (Nat.le_of_ble_eq_true rfl) ⟨Nat.le_of_ble_eq_true rfl, Nat.le_of_ble_eq_true rfl⟩ dL_law_471 rfl h2 ?_
  refine w_icmp_eq (tgt := 2287) dL_law_474 (by decide) rfl (fun _ => ?_) (fun q => absurd he q)
  exact h
theorem g_law_5 {Γ : CX} {b L i : Nat} {z : Nat → Int32} {σ s1 s2 : St} {r1 r2 : Int32} (hz : SCR Γ b L z) (hi : i + 6 ≤ L) (hL : L < 2 ^ 31) (h1 : f_X11_need (z (i + 1)) σ = some (r1, s1)) (h2 : f_X12_need (z (i + 1)) s1 = some (r2, s2)) (he : r1 = r2) (h : WW Γ cL_law 4 RL ret room_1 s2 2287 [(0, .ref b), (1, .ref (xd Γ 0)), (2, .ref (xd Γ 58)), (3, .int (nI i))] []) : WW Γ cL_law 4 RL ret room_1 σ 479 [(0, .ref b), (1, .ref (xd Γ 0)), (2, .ref (xd Γ 58)), (3, .int (nI i))] [] := by
  refine w_aload_n 1 dL_law_479 rfl rfl rfl ?_
  refine s_arg 1 hz hi hL (by decide) dL_law_480 dL_law_481 dL_law_482 (by decide) dL_law_483 dL_law_484 rfl ?_
  refine k_X11_need ml_RL_37 (Nat.le_of_ble_eq_true rfl) ⟨Nat.le_of_ble_eq_true rfl, Nat.le_of_ble_eq_true rfl⟩ dL_law_485 rfl h1 ?_
  refine w_aload_n 2 dL_law_488 rfl rfl rfl ?_
  refine s_arg 1 hz hi hL (by decide) dL_law_489 dL_law_490 dL_law_491 (by decide) dL_law_492 dL_law_493 rfl ?_
  refine k_X12_need ml_RL_40 (Nat.le_of_ble_eq_true rfl) ⟨Nat.le_of_ble_eq_true rfl, Nat.le_of_ble_eq_true rfl⟩ dL_law_494 rfl h2 ?_
  refine w_icmp_eq (tgt := 2287) dL_law_497 (by decide) rfl (fun _ => ?_) (fun q => absurd he q)
  exact h
theorem g_law_6 {Γ : CX} {b L i : Nat} {z : Nat → Int32} {σ s1 s2 : St} {r1 r2 : Int32} (hz : SCR Γ b L z) (hi : i + 6 ≤ L) (hL : L < 2 ^ 31) (h1 : f_X11_tea (z (i + 1)) σ = some (r1, s1)) (h2 : f_X12_tea (z (i + 1)) s1 = some (r2, s2)) (he : r1 = r2) (h : WW Γ cL_law 4 RL ret room_1 s2 2287 [(0, .ref b), (1, .ref (xd Γ 0)), (2, .ref (xd Γ 58)), (3, .int (nI i))] []) : WW Γ cL_law 4 RL ret room_1 σ 502 [(0, .ref b), (1, .ref (xd Γ 0)), (2, .ref (xd Γ 58)), (3, .int (nI i))] [] := by
  refine w_aload_n 1 dL_law_502 rfl rfl rfl ?_
  refine s_arg 1 hz hi hL (by decide) dL_law_503 dL_law_504 dL_law_505 (by decide) dL_law_506 dL_law_507 rfl ?_
  refine k_X11_tea ml_RL_41 (Nat.le_of_ble_eq_true rfl) ⟨Nat.le_of_ble_eq_true rfl, Nat.le_of_ble_eq_true rfl⟩ dL_law_508 rfl h1 ?_
  refine w_aload_n 2 dL_law_511 rfl rfl rfl ?_
  refine s_arg 1 hz hi hL (by decide) dL_law_512 dL_law_513 dL_law_514 (by decide) dL_law_515 dL_law_516 rfl ?_
  refine k_X12_tea ml_RL_44 (Nat.le_of_ble_eq_true rfl) ⟨Nat.le_of_ble_eq_true rfl, Nat.le_of_ble_eq_true rfl⟩ dL_law_517 rfl h2 ?_
  refine w_icmp_eq (tgt := 2287) dL_law_520 (by decide) rfl (fun _ => ?_) (fun q => absurd he q)
  exact h
theorem g_law_7 {Γ : CX} {b L i : Nat} {z : Nat → Int32} {σ s1 s2 : St} {r1 r2 : Int32} (hz : SCR Γ b L z) (hi : i + 6 ≤ L) (hL : L < 2 ^ 31) (h1 : f_X11_cannon (z (i + 1)) (z (i + 2)) σ = some (r1, s1)) (h2 : f_X12_cannon (z (i + 1)) (z (i + 2)) s1 = some (r2, s2)) (he : r1 = r2) (h : WW Γ cL_law 4 RL ret room_1 s2 2287 [(0, .ref b), (1, .ref (xd Γ 0)), (2, .ref (xd Γ 58)), (3, .int (nI i))] []) : WW Γ cL_law 4 RL ret room_1 σ 525 [(0, .ref b), (1, .ref (xd Γ 0)), (2, .ref (xd Γ 58)), (3, .int (nI i))] [] := by
  refine w_aload_n 1 dL_law_525 rfl rfl rfl ?_
  refine s_arg 1 hz hi hL (by decide) dL_law_526 dL_law_527 dL_law_528 (by decide) dL_law_529 dL_law_530 rfl ?_
  refine s_arg 2 hz hi hL (by decide) dL_law_531 dL_law_532 dL_law_533 (by decide) dL_law_534 dL_law_535 rfl ?_
  refine k_X11_cannon ml_RL_45 (Nat.le_of_ble_eq_true rfl) ⟨Nat.le_of_ble_eq_true rfl, Nat.le_of_ble_eq_true rfl⟩ dL_law_536 rfl h1 ?_
  refine w_aload_n 2 dL_law_539 rfl rfl rfl ?_
  refine s_arg 1 hz hi hL (by decide) dL_law_540 dL_law_541 dL_law_542 (by decide) dL_law_543 dL_law_544 rfl ?_
  refine s_arg 2 hz hi hL (by decide) dL_law_545 dL_law_546 dL_law_547 (by decide) dL_law_548 dL_law_549 rfl ?_
  refine k_X12_cannon ml_RL_48 (Nat.le_of_ble_eq_true rfl) ⟨Nat.le_of_ble_eq_true rfl, Nat.le_of_ble_eq_true rfl⟩ dL_law_550 rfl h2 ?_
  refine w_icmp_eq (tgt := 2287) dL_law_553 (by decide) rfl (fun _ => ?_) (fun q => absurd he q)
  exact h
theorem g_law_8 {Γ : CX} {b L i : Nat} {z : Nat → Int32} {σ s1 s2 : St} {r1 r2 : Int32} (hz : SCR Γ b L z) (hi : i + 6 ≤ L) (hL : L < 2 ^ 31) (h1 : f_X11_rule (z (i + 1)) (z (i + 2)) σ = some (r1, s1)) (h2 : f_X12_rule (z (i + 1)) (z (i + 2)) s1 = some (r2, s2)) (he : r1 = r2) (h : WW Γ cL_law 4 RL ret room_1 s2 2287 [(0, .ref b), (1, .ref (xd Γ 0)), (2, .ref (xd Γ 58)), (3, .int (nI i))] []) : WW Γ cL_law 4 RL ret room_1 σ 558 [(0, .ref b), (1, .ref (xd Γ 0)), (2, .ref (xd Γ 58)), (3, .int (nI i))] [] := by
  refine w_aload_n 1 dL_law_558 rfl rfl rfl ?_
  refine s_arg 1 hz hi hL (by decide) dL_law_559 dL_law_560 dL_law_561 (by decide) dL_law_562 dL_law_563 rfl ?_
  refine s_arg 2 hz hi hL (by decide) dL_law_564 dL_law_565 dL_law_566 (by decide) dL_law_567 dL_law_568 rfl ?_
  refine k_X11_rule ml_RL_49 (Nat.le_of_ble_eq_true rfl) ⟨Nat.le_of_ble_eq_true rfl, Nat.le_of_ble_eq_true rfl⟩ dL_law_569 rfl h1 ?_
  refine w_aload_n 2 dL_law_572 rfl rfl rfl ?_
  refine s_arg 1 hz hi hL (by decide) dL_law_573 dL_law_574 dL_law_575 (by decide) dL_law_576 dL_law_577 rfl ?_
  refine s_arg 2 hz hi hL (by decide) dL_law_578 dL_law_579 dL_law_580 (by decide) dL_law_581 dL_law_582 rfl ?_
  refine k_X12_rule ml_RL_52 (Nat.le_of_ble_eq_true rfl) ⟨Nat.le_of_ble_eq_true rfl, Nat.le_of_ble_eq_true rfl⟩ dL_law_583 rfl h2 ?_
  refine w_icmp_eq (tgt := 2287) dL_law_586 (by decide) rfl (fun _ => ?_) (fun q => absurd he q)
  exact h
theorem g_law_9 {Γ : CX} {b L i : Nat} {z : Nat → Int32} {σ s1 s2 : St} {r1 r2 : Int32} (hz : SCR Γ b L z) (hi : i + 6 ≤ L) (hL : L < 2 ^ 31) (h1 : f_X11_spy (z (i + 1)) σ = some (r1, s1)) (h2 : f_X12_spy (z (i + 1)) s1 = some (r2, s2)) (he : r1 = r2) (h : WW Γ cL_law 4 RL ret room_1 s2 2287 [(0, .ref b), (1, .ref (xd Γ 0)), (2, .ref (xd Γ 58)), (3, .int (nI i))] []) : WW Γ cL_law 4 RL ret room_1 σ 591 [(0, .ref b), (1, .ref (xd Γ 0)), (2, .ref (xd Γ 58)), (3, .int (nI i))] [] := by
  refine w_aload_n 1 dL_law_591 rfl rfl rfl ?_
  refine s_arg 1 hz hi hL (by decide) dL_law_592 dL_law_593 dL_law_594 (by decide) dL_law_595 dL_law_596 rfl ?_
  refine k_X11_spy ml_RL_53 (Nat.le_of_ble_eq_true rfl) ⟨Nat.le_of_ble_eq_true rfl, Nat.le_of_ble_eq_true rfl⟩ dL_law_597 rfl h1 ?_
  refine w_aload_n 2 dL_law_600 rfl rfl rfl ?_
  refine s_arg 1 hz hi hL (by decide) dL_law_601 dL_law_602 dL_law_603 (by decide) dL_law_604 dL_law_605 rfl ?_
  refine k_X12_spy ml_RL_56 (Nat.le_of_ble_eq_true rfl) ⟨Nat.le_of_ble_eq_true rfl, Nat.le_of_ble_eq_true rfl⟩ dL_law_606 rfl h2 ?_
  refine w_icmp_eq (tgt := 2287) dL_law_609 (by decide) rfl (fun _ => ?_) (fun q => absurd he q)
  exact h
theorem g_law_10 {Γ : CX} {b L i : Nat} {z : Nat → Int32} {σ s1 s2 : St} {r1 r2 : Int32} (hz : SCR Γ b L z) (hi : i + 6 ≤ L) (hL : L < 2 ^ 31) (h1 : f_X11_men (z (i + 1)) (z (i + 2)) (z (i + 3)) σ = some (r1, s1)) (h2 : f_X12_men (z (i + 1)) (z (i + 2)) (z (i + 3)) s1 = some (r2, s2)) (he : r1 = r2) (h : WW Γ cL_law 4 RL ret room_1 s2 2287 [(0, .ref b), (1, .ref (xd Γ 0)), (2, .ref (xd Γ 58)), (3, .int (nI i))] []) : WW Γ cL_law 4 RL ret room_1 σ 614 [(0, .ref b), (1, .ref (xd Γ 0)), (2, .ref (xd Γ 58)), (3, .int (nI i))] [] := by
  refine w_aload_n 1 dL_law_614 rfl rfl rfl ?_
  refine s_arg 1 hz hi hL (by decide) dL_law_615 dL_law_616 dL_law_617 (by decide) dL_law_618 dL_law_619 rfl ?_
  refine s_arg 2 hz hi hL (by decide) dL_law_620 dL_law_621 dL_law_622 (by decide) dL_law_623 dL_law_624 rfl ?_
  refine s_arg 3 hz hi hL (by decide) dL_law_625 dL_law_626 dL_law_627 (by decide) dL_law_628 dL_law_629 rfl ?_
  refine k_X11_men ml_RL_57 (Nat.le_of_ble_eq_true rfl) ⟨Nat.le_of_ble_eq_true rfl, Nat.le_of_ble_eq_true rfl⟩ dL_law_630 rfl h1 ?_
  refine w_aload_n 2 dL_law_633 rfl rfl rfl ?_
  refine s_arg 1 hz hi hL (by decide) dL_law_634 dL_law_635 dL_law_636 (by decide) dL_law_637 dL_law_638 rfl ?_
  refine s_arg 2 hz hi hL (by decide) dL_law_639 dL_law_640 dL_law_641 (by decide) dL_law_642 dL_law_643 rfl ?_
  refine s_arg 3 hz hi hL (by decide) dL_law_644 dL_law_645 dL_law_646 (by decide) dL_law_647 dL_law_648 rfl ?_
  refine k_X12_men ml_RL_61 (Nat.le_of_ble_eq_true rfl) ⟨Nat.le_of_ble_eq_true rfl, Nat.le_of_ble_eq_true rfl⟩ dL_law_649 rfl h2 ?_
  refine w_icmp_eq (tgt := 2287) dL_law_652 (by decide) rfl (fun _ => ?_) (fun q => absurd he q)
  exact h
theorem g_law_11 {Γ : CX} {b L i : Nat} {z : Nat → Int32} {σ s1 s2 : St} {r1 r2 : Int32} (hz : SCR Γ b L z) (hi : i + 6 ≤ L) (hL : L < 2 ^ 31) (h1 : f_X11_front (z (i + 1)) (z (i + 2)) σ = some (r1, s1)) (h2 : f_X12_front (z (i + 1)) (z (i + 2)) s1 = some (r2, s2)) (he : r1 = r2) (h : WW Γ cL_law 4 RL ret room_1 s2 2287 [(0, .ref b), (1, .ref (xd Γ 0)), (2, .ref (xd Γ 58)), (3, .int (nI i))] []) : WW Γ cL_law 4 RL ret room_1 σ 657 [(0, .ref b), (1, .ref (xd Γ 0)), (2, .ref (xd Γ 58)), (3, .int (nI i))] [] := by
  refine w_aload_n 1 dL_law_657 rfl rfl rfl ?_
  refine s_arg 1 hz hi hL (by decide) dL_law_658 dL_law_659 dL_law_660 (by decide) dL_law_661 dL_law_662 rfl ?_
  refine s_arg 2 hz hi hL (by decide) dL_law_663 dL_law_664 dL_law_665 (by decide) dL_law_666 dL_law_667 rfl ?_
  refine k_X11_front ml_RL_62 (Nat.le_of_ble_eq_true rfl) ⟨Nat.le_of_ble_eq_true rfl, Nat.le_of_ble_eq_true rfl⟩ dL_law_668 rfl h1 ?_
  refine w_aload_n 2 dL_law_671 rfl rfl rfl ?_
  refine s_arg 1 hz hi hL (by decide) dL_law_672 dL_law_673 dL_law_674 (by decide) dL_law_675 dL_law_676 rfl ?_
  refine s_arg 2 hz hi hL (by decide) dL_law_677 dL_law_678 dL_law_679 (by decide) dL_law_680 dL_law_681 rfl ?_
  refine k_X12_front ml_RL_65 (Nat.le_of_ble_eq_true rfl) ⟨Nat.le_of_ble_eq_true rfl, Nat.le_of_ble_eq_true rfl⟩ dL_law_682 rfl h2 ?_
  refine w_icmp_eq (tgt := 2287) dL_law_685 (by decide) rfl (fun _ => ?_) (fun q => absurd he q)
  exact h
theorem g_law_12 {Γ : CX} {b L i : Nat} {z : Nat → Int32} {σ s1 s2 : St} {r1 r2 : Int32} (hz : SCR Γ b L z) (hi : i + 6 ≤ L) (hL : L < 2 ^ 31) (h1 : f_X11_late (z (i + 1)) σ = some (r1, s1)) (h2 : f_X12_late (z (i + 1)) s1 = some (r2, s2)) (he : r1 = r2) (h : WW Γ cL_law 4 RL ret room_1 s2 2287 [(0, .ref b), (1, .ref (xd Γ 0)), (2, .ref (xd Γ 58)), (3, .int (nI i))] []) : WW Γ cL_law 4 RL ret room_1 σ 690 [(0, .ref b), (1, .ref (xd Γ 0)), (2, .ref (xd Γ 58)), (3, .int (nI i))] [] := by
  refine w_aload_n 1 dL_law_690 rfl rfl rfl ?_
  refine s_arg 1 hz hi hL (by decide) dL_law_691 dL_law_692 dL_law_693 (by decide) dL_law_694 dL_law_695 rfl ?_
  refine k_X11_late ml_RL_66 (Nat.le_of_ble_eq_true rfl) ⟨Nat.le_of_ble_eq_true rfl, Nat.le_of_ble_eq_true rfl⟩ dL_law_696 rfl h1 ?_
  refine w_aload_n 2 dL_law_699 rfl rfl rfl ?_
  refine s_arg 1 hz hi hL (by decide) dL_law_700 dL_law_701 dL_law_702 (by decide) dL_law_703 dL_law_704 rfl ?_
  refine k_X12_late ml_RL_69 (Nat.le_of_ble_eq_true rfl) ⟨Nat.le_of_ble_eq_true rfl, Nat.le_of_ble_eq_true rfl⟩ dL_law_705 rfl h2 ?_
  refine w_icmp_eq (tgt := 2287) dL_law_708 (by decide) rfl (fun _ => ?_) (fun q => absurd he q)
  exact h
theorem g_law_13 {Γ : CX} {b L i : Nat} {z : Nat → Int32} {σ s1 s2 : St} {r1 r2 : Int32} (hz : SCR Γ b L z) (hi : i + 6 ≤ L) (hL : L < 2 ^ 31) (h1 : f_X11_wins (z (i + 1)) σ = some (r1, s1)) (h2 : f_X12_wins (z (i + 1)) s1 = some (r2, s2)) (he : r1 = r2) (h : WW Γ cL_law 4 RL ret room_1 s2 2287 [(0, .ref b), (1, .ref (xd Γ 0)), (2, .ref (xd Γ 58)), (3, .int (nI i))] []) : WW Γ cL_law 4 RL ret room_1 σ 713 [(0, .ref b), (1, .ref (xd Γ 0)), (2, .ref (xd Γ 58)), (3, .int (nI i))] [] := by
  refine w_aload_n 1 dL_law_713 rfl rfl rfl ?_
  refine s_arg 1 hz hi hL (by decide) dL_law_714 dL_law_715 dL_law_716 (by decide) dL_law_717 dL_law_718 rfl ?_
  refine k_X11_wins ml_RL_70 (Nat.le_of_ble_eq_true rfl) ⟨Nat.le_of_ble_eq_true rfl, Nat.le_of_ble_eq_true rfl⟩ dL_law_719 rfl h1 ?_
  refine w_aload_n 2 dL_law_722 rfl rfl rfl ?_
  refine s_arg 1 hz hi hL (by decide) dL_law_723 dL_law_724 dL_law_725 (by decide) dL_law_726 dL_law_727 rfl ?_
  refine k_X12_wins ml_RL_73 (Nat.le_of_ble_eq_true rfl) ⟨Nat.le_of_ble_eq_true rfl, Nat.le_of_ble_eq_true rfl⟩ dL_law_728 rfl h2 ?_
  refine w_icmp_eq (tgt := 2287) dL_law_731 (by decide) rfl (fun _ => ?_) (fun q => absurd he q)
  exact h
theorem g_law_14 {Γ : CX} {b L i : Nat} {z : Nat → Int32} {σ s1 s2 : St} {r1 r2 : Int32} (hz : SCR Γ b L z) (hi : i + 6 ≤ L) (hL : L < 2 ^ 31) (h1 : f_X11_peak (z (i + 1)) (z (i + 2)) σ = some (r1, s1)) (h2 : f_X12_peak (z (i + 1)) (z (i + 2)) s1 = some (r2, s2)) (he : r1 = r2) (h : WW Γ cL_law 4 RL ret room_1 s2 2287 [(0, .ref b), (1, .ref (xd Γ 0)), (2, .ref (xd Γ 58)), (3, .int (nI i))] []) : WW Γ cL_law 4 RL ret room_1 σ 736 [(0, .ref b), (1, .ref (xd Γ 0)), (2, .ref (xd Γ 58)), (3, .int (nI i))] [] := by
  refine w_aload_n 1 dL_law_736 rfl rfl rfl ?_
  refine s_arg 1 hz hi hL (by decide) dL_law_737 dL_law_738 dL_law_739 (by decide) dL_law_740 dL_law_741 rfl ?_
  refine s_arg 2 hz hi hL (by decide) dL_law_742 dL_law_743 dL_law_744 (by decide) dL_law_745 dL_law_746 rfl ?_
  refine k_X11_peak ml_RL_74 (Nat.le_of_ble_eq_true rfl) ⟨Nat.le_of_ble_eq_true rfl, Nat.le_of_ble_eq_true rfl⟩ dL_law_747 rfl h1 ?_
  refine w_aload_n 2 dL_law_750 rfl rfl rfl ?_
  refine s_arg 1 hz hi hL (by decide) dL_law_751 dL_law_752 dL_law_753 (by decide) dL_law_754 dL_law_755 rfl ?_
  refine s_arg 2 hz hi hL (by decide) dL_law_756 dL_law_757 dL_law_758 (by decide) dL_law_759 dL_law_760 rfl ?_
  refine k_X12_peak ml_RL_77 (Nat.le_of_ble_eq_true rfl) ⟨Nat.le_of_ble_eq_true rfl, Nat.le_of_ble_eq_true rfl⟩ dL_law_761 rfl h2 ?_
  refine w_icmp_eq (tgt := 2287) dL_law_764 (by decide) rfl (fun _ => ?_) (fun q => absurd he q)
  exact h
theorem g_law_15 {Γ : CX} {b L i : Nat} {z : Nat → Int32} {σ s1 s2 : St} {r1 r2 : Int32} (hz : SCR Γ b L z) (hi : i + 6 ≤ L) (hL : L < 2 ^ 31) (h1 : f_X11_swings (z (i + 1)) σ = some (r1, s1)) (h2 : f_X12_swings (z (i + 1)) s1 = some (r2, s2)) (he : r1 = r2) (h : WW Γ cL_law 4 RL ret room_1 s2 2287 [(0, .ref b), (1, .ref (xd Γ 0)), (2, .ref (xd Γ 58)), (3, .int (nI i))] []) : WW Γ cL_law 4 RL ret room_1 σ 769 [(0, .ref b), (1, .ref (xd Γ 0)), (2, .ref (xd Γ 58)), (3, .int (nI i))] [] := by
  refine w_aload_n 1 dL_law_769 rfl rfl rfl ?_
  refine s_arg 1 hz hi hL (by decide) dL_law_770 dL_law_771 dL_law_772 (by decide) dL_law_773 dL_law_774 rfl ?_
  refine k_X11_swings ml_RL_78 (Nat.le_of_ble_eq_true rfl) ⟨Nat.le_of_ble_eq_true rfl, Nat.le_of_ble_eq_true rfl⟩ dL_law_775 rfl h1 ?_
  refine w_aload_n 2 dL_law_778 rfl rfl rfl ?_
  refine s_arg 1 hz hi hL (by decide) dL_law_779 dL_law_780 dL_law_781 (by decide) dL_law_782 dL_law_783 rfl ?_
  refine k_X12_swings ml_RL_81 (Nat.le_of_ble_eq_true rfl) ⟨Nat.le_of_ble_eq_true rfl, Nat.le_of_ble_eq_true rfl⟩ dL_law_784 rfl h2 ?_
  refine w_icmp_eq (tgt := 2287) dL_law_787 (by decide) rfl (fun _ => ?_) (fun q => absurd he q)
  exact h
theorem g_law_16 {Γ : CX} {b L i : Nat} {z : Nat → Int32} {σ s1 s2 : St} {r1 r2 : Int32} (hz : SCR Γ b L z) (hi : i + 6 ≤ L) (hL : L < 2 ^ 31) (h1 : f_X11_worst (z (i + 1)) σ = some (r1, s1)) (h2 : f_X12_worst (z (i + 1)) s1 = some (r2, s2)) (he : r1 = r2) (h : WW Γ cL_law 4 RL ret room_1 s2 2287 [(0, .ref b), (1, .ref (xd Γ 0)), (2, .ref (xd Γ 58)), (3, .int (nI i))] []) : WW Γ cL_law 4 RL ret room_1 σ 792 [(0, .ref b), (1, .ref (xd Γ 0)), (2, .ref (xd Γ 58)), (3, .int (nI i))] [] := by
  refine w_aload_n 1 dL_law_792 rfl rfl rfl ?_
  refine s_arg 1 hz hi hL (by decide) dL_law_793 dL_law_794 dL_law_795 (by decide) dL_law_796 dL_law_797 rfl ?_
  refine k_X11_worst ml_RL_82 (Nat.le_of_ble_eq_true rfl) ⟨Nat.le_of_ble_eq_true rfl, Nat.le_of_ble_eq_true rfl⟩ dL_law_798 rfl h1 ?_
  refine w_aload_n 2 dL_law_801 rfl rfl rfl ?_
  refine s_arg 1 hz hi hL (by decide) dL_law_802 dL_law_803 dL_law_804 (by decide) dL_law_805 dL_law_806 rfl ?_
  refine k_X12_worst ml_RL_85 (Nat.le_of_ble_eq_true rfl) ⟨Nat.le_of_ble_eq_true rfl, Nat.le_of_ble_eq_true rfl⟩ dL_law_807 rfl h2 ?_
  refine w_icmp_eq (tgt := 2287) dL_law_810 (by decide) rfl (fun _ => ?_) (fun q => absurd he q)
  exact h
theorem g_law_17 {Γ : CX} {b L i : Nat} {z : Nat → Int32} {σ s1 s2 : St} {r1 r2 : Int32} (hz : SCR Γ b L z) (hi : i + 6 ≤ L) (hL : L < 2 ^ 31) (h1 : f_X11_by (z (i + 1)) σ = some (r1, s1)) (h2 : f_X12_by (z (i + 1)) s1 = some (r2, s2)) (he : r1 = r2) (h : WW Γ cL_law 4 RL ret room_1 s2 2287 [(0, .ref b), (1, .ref (xd Γ 0)), (2, .ref (xd Γ 58)), (3, .int (nI i))] []) : WW Γ cL_law 4 RL ret room_1 σ 815 [(0, .ref b), (1, .ref (xd Γ 0)), (2, .ref (xd Γ 58)), (3, .int (nI i))] [] := by
  refine w_aload_n 1 dL_law_815 rfl rfl rfl ?_
  refine s_arg 1 hz hi hL (by decide) dL_law_816 dL_law_817 dL_law_818 (by decide) dL_law_819 dL_law_820 rfl ?_
  refine k_X11_by ml_RL_86 (Nat.le_of_ble_eq_true rfl) ⟨Nat.le_of_ble_eq_true rfl, Nat.le_of_ble_eq_true rfl⟩ dL_law_821 rfl h1 ?_
  refine w_aload_n 2 dL_law_824 rfl rfl rfl ?_
  refine s_arg 1 hz hi hL (by decide) dL_law_825 dL_law_826 dL_law_827 (by decide) dL_law_828 dL_law_829 rfl ?_
  refine k_X12_by ml_RL_89 (Nat.le_of_ble_eq_true rfl) ⟨Nat.le_of_ble_eq_true rfl, Nat.le_of_ble_eq_true rfl⟩ dL_law_830 rfl h2 ?_
  refine w_icmp_eq (tgt := 2287) dL_law_833 (by decide) rfl (fun _ => ?_) (fun q => absurd he q)
  exact h
theorem g_law_18 {Γ : CX} {b L i : Nat} {z : Nat → Int32} {σ s1 s2 : St} {r1 r2 : Int32} (hz : SCR Γ b L z) (hi : i + 6 ≤ L) (hL : L < 2 ^ 31) (h1 : f_X11_ways (z (i + 1)) σ = some (r1, s1)) (h2 : f_X12_ways (z (i + 1)) s1 = some (r2, s2)) (he : r1 = r2) (h : WW Γ cL_law 4 RL ret room_1 s2 2287 [(0, .ref b), (1, .ref (xd Γ 0)), (2, .ref (xd Γ 58)), (3, .int (nI i))] []) : WW Γ cL_law 4 RL ret room_1 σ 838 [(0, .ref b), (1, .ref (xd Γ 0)), (2, .ref (xd Γ 58)), (3, .int (nI i))] [] := by
  refine w_aload_n 1 dL_law_838 rfl rfl rfl ?_
  refine s_arg 1 hz hi hL (by decide) dL_law_839 dL_law_840 dL_law_841 (by decide) dL_law_842 dL_law_843 rfl ?_
  refine k_X11_ways ml_RL_90 (Nat.le_of_ble_eq_true rfl) ⟨Nat.le_of_ble_eq_true rfl, Nat.le_of_ble_eq_true rfl⟩ dL_law_844 rfl h1 ?_
  refine w_aload_n 2 dL_law_847 rfl rfl rfl ?_
  refine s_arg 1 hz hi hL (by decide) dL_law_848 dL_law_849 dL_law_850 (by decide) dL_law_851 dL_law_852 rfl ?_
  refine k_X12_ways ml_RL_93 (Nat.le_of_ble_eq_true rfl) ⟨Nat.le_of_ble_eq_true rfl, Nat.le_of_ble_eq_true rfl⟩ dL_law_853 rfl h2 ?_
  refine w_icmp_eq (tgt := 2287) dL_law_856 (by decide) rfl (fun _ => ?_) (fun q => absurd he q)
  exact h
theorem g_law_19 {Γ : CX} {b L i : Nat} {z : Nat → Int32} {σ s1 s2 : St} {r1 r2 : Int32} (hz : SCR Γ b L z) (hi : i + 6 ≤ L) (hL : L < 2 ^ 31) (h1 : f_X11_idle σ = some (r1, s1)) (h2 : f_X12_idle s1 = some (r2, s2)) (he : r1 = r2) (h : WW Γ cL_law 4 RL ret room_1 s2 2287 [(0, .ref b), (1, .ref (xd Γ 0)), (2, .ref (xd Γ 58)), (3, .int (nI i))] []) : WW Γ cL_law 4 RL ret room_1 σ 861 [(0, .ref b), (1, .ref (xd Γ 0)), (2, .ref (xd Γ 58)), (3, .int (nI i))] [] := by
  refine w_aload_n 1 dL_law_861 rfl rfl rfl ?_
  refine k_X11_idle ml_RL_94 (Nat.le_of_ble_eq_true rfl) ⟨Nat.le_of_ble_eq_true rfl, Nat.le_of_ble_eq_true rfl⟩ dL_law_862 rfl h1 ?_
  refine w_aload_n 2 dL_law_865 rfl rfl rfl ?_
  refine k_X12_idle ml_RL_97 (Nat.le_of_ble_eq_true rfl) ⟨Nat.le_of_ble_eq_true rfl, Nat.le_of_ble_eq_true rfl⟩ dL_law_866 rfl h2 ?_
  refine w_icmp_eq (tgt := 2287) dL_law_869 (by decide) rfl (fun _ => ?_) (fun q => absurd he q)
  exact h
theorem g_law_20 {Γ : CX} {b L i : Nat} {z : Nat → Int32} {σ s1 s2 : St} {r1 r2 : Int64} (hz : SCR Γ b L z) (hi : i + 6 ≤ L) (hL : L < 2 ^ 31) (h1 : f_X11_enough (z (i + 1)) (z (i + 2)) σ = some (r1, s1)) (h2 : f_X12_enough (z (i + 1)) (z (i + 2)) s1 = some (r2, s2)) (he : r1 = r2) (h : WW Γ cL_law 4 RL ret room_1 s2 2287 [(0, .ref b), (1, .ref (xd Γ 0)), (2, .ref (xd Γ 58)), (3, .int (nI i))] []) : WW Γ cL_law 4 RL ret room_1 σ 874 [(0, .ref b), (1, .ref (xd Γ 0)), (2, .ref (xd Γ 58)), (3, .int (nI i))] [] := by
  refine w_aload_n 1 dL_law_874 rfl rfl rfl ?_
  refine s_arg 1 hz hi hL (by decide) dL_law_875 dL_law_876 dL_law_877 (by decide) dL_law_878 dL_law_879 rfl ?_
  refine s_arg 2 hz hi hL (by decide) dL_law_880 dL_law_881 dL_law_882 (by decide) dL_law_883 dL_law_884 rfl ?_
  refine k_X11_enough ml_RL_98 (Nat.le_of_ble_eq_true rfl) ⟨Nat.le_of_ble_eq_true rfl, Nat.le_of_ble_eq_true rfl⟩ dL_law_885 rfl h1 ?_
  refine w_aload_n 2 dL_law_888 rfl rfl rfl ?_
  refine s_arg 1 hz hi hL (by decide) dL_law_889 dL_law_890 dL_law_891 (by decide) dL_law_892 dL_law_893 rfl ?_
  refine s_arg 2 hz hi hL (by decide) dL_law_894 dL_law_895 dL_law_896 (by decide) dL_law_897 dL_law_898 rfl ?_
  refine k_X12_enough ml_RL_102 (Nat.le_of_ble_eq_true rfl) ⟨Nat.le_of_ble_eq_true rfl, Nat.le_of_ble_eq_true rfl⟩ dL_law_899 rfl h2 ?_
  refine w_lcmp dL_law_902 rfl ?_
  refine w_if_eq (tgt := 2287) dL_law_903 (by decide) rfl (fun _ => ?_) (fun q => absurd (lcmp_eq he) q)
  exact h
theorem g_law_21 {Γ : CX} {b L i : Nat} {z : Nat → Int32} {σ s1 s2 : St} {r1 r2 : Int64} (hz : SCR Γ b L z) (hi : i + 6 ≤ L) (hL : L < 2 ^ 31) (h1 : f_X11_chance (z (i + 1)) (z (i + 2)) σ = some (r1, s1)) (h2 : f_X12_chance (z (i + 1)) (z (i + 2)) s1 = some (r2, s2)) (he : r1 = r2) (h : WW Γ cL_law 4 RL ret room_1 s2 2287 [(0, .ref b), (1, .ref (xd Γ 0)), (2, .ref (xd Γ 58)), (3, .int (nI i))] []) : WW Γ cL_law 4 RL ret room_1 σ 908 [(0, .ref b), (1, .ref (xd Γ 0)), (2, .ref (xd Γ 58)), (3, .int (nI i))] [] := by
  refine w_aload_n 1 dL_law_908 rfl rfl rfl ?_
  refine s_arg 1 hz hi hL (by decide) dL_law_909 dL_law_910 dL_law_911 (by decide) dL_law_912 dL_law_913 rfl ?_
  refine s_arg 2 hz hi hL (by decide) dL_law_914 dL_law_915 dL_law_916 (by decide) dL_law_917 dL_law_918 rfl ?_
  refine k_X11_chance ml_RL_103 (Nat.le_of_ble_eq_true rfl) ⟨Nat.le_of_ble_eq_true rfl, Nat.le_of_ble_eq_true rfl⟩ dL_law_919 rfl h1 ?_
  refine w_aload_n 2 dL_law_922 rfl rfl rfl ?_
  refine s_arg 1 hz hi hL (by decide) dL_law_923 dL_law_924 dL_law_925 (by decide) dL_law_926 dL_law_927 rfl ?_
  refine s_arg 2 hz hi hL (by decide) dL_law_928 dL_law_929 dL_law_930 (by decide) dL_law_931 dL_law_932 rfl ?_
  refine k_X12_chance ml_RL_106 (Nat.le_of_ble_eq_true rfl) ⟨Nat.le_of_ble_eq_true rfl, Nat.le_of_ble_eq_true rfl⟩ dL_law_933 rfl h2 ?_
  refine w_lcmp dL_law_936 rfl ?_
  refine w_if_eq (tgt := 2287) dL_law_937 (by decide) rfl (fun _ => ?_) (fun q => absurd (lcmp_eq he) q)
  exact h
theorem g_law_22 {Γ : CX} {b L i : Nat} {z : Nat → Int32} {σ s1 s2 : St} {r1 r2 : Int32} (hz : SCR Γ b L z) (hi : i + 6 ≤ L) (hL : L < 2 ^ 31) (h1 : f_X11_send (z (i + 1)) σ = some (r1, s1)) (h2 : f_X12_send (z (i + 1)) s1 = some (r2, s2)) (he : r1 = r2) (h : WW Γ cL_law 4 RL ret room_1 s2 2287 [(0, .ref b), (1, .ref (xd Γ 0)), (2, .ref (xd Γ 58)), (3, .int (nI i))] []) : WW Γ cL_law 4 RL ret room_1 σ 942 [(0, .ref b), (1, .ref (xd Γ 0)), (2, .ref (xd Γ 58)), (3, .int (nI i))] [] := by
  refine w_aload_n 1 dL_law_942 rfl rfl rfl ?_
  refine s_arg 1 hz hi hL (by decide) dL_law_943 dL_law_944 dL_law_945 (by decide) dL_law_946 dL_law_947 rfl ?_
  refine k_X11_send ml_RL_107 (Nat.le_of_ble_eq_true rfl) ⟨Nat.le_of_ble_eq_true rfl, Nat.le_of_ble_eq_true rfl⟩ dL_law_948 rfl h1 ?_
  refine w_aload_n 2 dL_law_951 rfl rfl rfl ?_
  refine s_arg 1 hz hi hL (by decide) dL_law_952 dL_law_953 dL_law_954 (by decide) dL_law_955 dL_law_956 rfl ?_
  refine k_X12_send ml_RL_110 (Nat.le_of_ble_eq_true rfl) ⟨Nat.le_of_ble_eq_true rfl, Nat.le_of_ble_eq_true rfl⟩ dL_law_957 rfl h2 ?_
  refine w_icmp_eq (tgt := 2287) dL_law_960 (by decide) rfl (fun _ => ?_) (fun q => absurd he q)
  exact h
theorem g_law_23 {Γ : CX} {b L i : Nat} {z : Nat → Int32} {σ s1 s2 : St} {r1 r2 : Int32} (hz : SCR Γ b L z) (hi : i + 6 ≤ L) (hL : L < 2 ^ 31) (h1 : f_X11_sent (z (i + 1)) σ = some (r1, s1)) (h2 : f_X12_sent (z (i + 1)) s1 = some (r2, s2)) (he : r1 = r2) (h : WW Γ cL_law 4 RL ret room_1 s2 2287 [(0, .ref b), (1, .ref (xd Γ 0)), (2, .ref (xd Γ 58)), (3, .int (nI i))] []) : WW Γ cL_law 4 RL ret room_1 σ 965 [(0, .ref b), (1, .ref (xd Γ 0)), (2, .ref (xd Γ 58)), (3, .int (nI i))] [] := by
  refine w_aload_n 1 dL_law_965 rfl rfl rfl ?_
  refine s_arg 1 hz hi hL (by decide) dL_law_966 dL_law_967 dL_law_968 (by decide) dL_law_969 dL_law_970 rfl ?_
  refine k_X11_sent ml_RL_111 (Nat.le_of_ble_eq_true rfl) ⟨Nat.le_of_ble_eq_true rfl, Nat.le_of_ble_eq_true rfl⟩ dL_law_971 rfl h1 ?_
  refine w_aload_n 2 dL_law_974 rfl rfl rfl ?_
  refine s_arg 1 hz hi hL (by decide) dL_law_975 dL_law_976 dL_law_977 (by decide) dL_law_978 dL_law_979 rfl ?_
  refine k_X12_sent ml_RL_114 (Nat.le_of_ble_eq_true rfl) ⟨Nat.le_of_ble_eq_true rfl, Nat.le_of_ble_eq_true rfl⟩ dL_law_980 rfl h2 ?_
  refine w_icmp_eq (tgt := 2287) dL_law_983 (by decide) rfl (fun _ => ?_) (fun q => absurd he q)
  exact h
theorem g_law_24 {Γ : CX} {b L i : Nat} {z : Nat → Int32} {σ s1 s2 : St} {r1 r2 : Int32} (hz : SCR Γ b L z) (hi : i + 6 ≤ L) (hL : L < 2 ^ 31) (h1 : f_X11_fewest (z (i + 1)) σ = some (r1, s1)) (h2 : f_X12_fewest (z (i + 1)) s1 = some (r2, s2)) (he : r1 = r2) (h : WW Γ cL_law 4 RL ret room_1 s2 2287 [(0, .ref b), (1, .ref (xd Γ 0)), (2, .ref (xd Γ 58)), (3, .int (nI i))] []) : WW Γ cL_law 4 RL ret room_1 σ 988 [(0, .ref b), (1, .ref (xd Γ 0)), (2, .ref (xd Γ 58)), (3, .int (nI i))] [] := by
  refine w_aload_n 1 dL_law_988 rfl rfl rfl ?_
  refine s_arg 1 hz hi hL (by decide) dL_law_989 dL_law_990 dL_law_991 (by decide) dL_law_992 dL_law_993 rfl ?_
  refine k_X11_fewest ml_RL_115 (Nat.le_of_ble_eq_true rfl) ⟨Nat.le_of_ble_eq_true rfl, Nat.le_of_ble_eq_true rfl⟩ dL_law_994 rfl h1 ?_
  refine w_aload_n 2 dL_law_997 rfl rfl rfl ?_
  refine s_arg 1 hz hi hL (by decide) dL_law_998 dL_law_999 dL_law_1000 (by decide) dL_law_1001 dL_law_1002 rfl ?_
  refine k_X12_fewest ml_RL_118 (Nat.le_of_ble_eq_true rfl) ⟨Nat.le_of_ble_eq_true rfl, Nat.le_of_ble_eq_true rfl⟩ dL_law_1003 rfl h2 ?_
  refine w_icmp_eq (tgt := 2287) dL_law_1006 (by decide) rfl (fun _ => ?_) (fun q => absurd he q)
  exact h
theorem g_law_25 {Γ : CX} {b L i : Nat} {z : Nat → Int32} {σ s1 s2 : St} {r1 r2 : Int32} (hz : SCR Γ b L z) (hi : i + 6 ≤ L) (hL : L < 2 ^ 31) (h1 : f_X11_risk (z (i + 1)) (z (i + 2)) σ = some (r1, s1)) (h2 : f_X12_risk (z (i + 1)) (z (i + 2)) s1 = some (r2, s2)) (he : r1 = r2) (h : WW Γ cL_law 4 RL ret room_1 s2 2287 [(0, .ref b), (1, .ref (xd Γ 0)), (2, .ref (xd Γ 58)), (3, .int (nI i))] []) : WW Γ cL_law 4 RL ret room_1 σ 1011 [(0, .ref b), (1, .ref (xd Γ 0)), (2, .ref (xd Γ 58)), (3, .int (nI i))] [] := by
  refine w_aload_n 1 dL_law_1011 rfl rfl rfl ?_
  refine s_arg 1 hz hi hL (by decide) dL_law_1012 dL_law_1013 dL_law_1014 (by decide) dL_law_1015 dL_law_1016 rfl ?_
  refine s_arg 2 hz hi hL (by decide) dL_law_1017 dL_law_1018 dL_law_1019 (by decide) dL_law_1020 dL_law_1021 rfl ?_
  refine k_X11_risk ml_RL_119 (Nat.le_of_ble_eq_true rfl) ⟨Nat.le_of_ble_eq_true rfl, Nat.le_of_ble_eq_true rfl⟩ dL_law_1022 rfl h1 ?_
  refine w_aload_n 2 dL_law_1025 rfl rfl rfl ?_
  refine s_arg 1 hz hi hL (by decide) dL_law_1026 dL_law_1027 dL_law_1028 (by decide) dL_law_1029 dL_law_1030 rfl ?_
  refine s_arg 2 hz hi hL (by decide) dL_law_1031 dL_law_1032 dL_law_1033 (by decide) dL_law_1034 dL_law_1035 rfl ?_
  refine k_X12_risk ml_RL_122 (Nat.le_of_ble_eq_true rfl) ⟨Nat.le_of_ble_eq_true rfl, Nat.le_of_ble_eq_true rfl⟩ dL_law_1036 rfl h2 ?_
  refine w_icmp_eq (tgt := 2287) dL_law_1039 (by decide) rfl (fun _ => ?_) (fun q => absurd he q)
  exact h
theorem g_law_26 {Γ : CX} {b L i : Nat} {z : Nat → Int32} {σ s1 s2 : St} {r1 r2 : Int32} (hz : SCR Γ b L z) (hi : i + 6 ≤ L) (hL : L < 2 ^ 31) (h1 : f_X11_risked (z (i + 1)) (z (i + 2)) σ = some (r1, s1)) (h2 : f_X12_risked (z (i + 1)) (z (i + 2)) s1 = some (r2, s2)) (he : r1 = r2) (h : WW Γ cL_law 4 RL ret room_1 s2 2287 [(0, .ref b), (1, .ref (xd Γ 0)), (2, .ref (xd Γ 58)), (3, .int (nI i))] []) : WW Γ cL_law 4 RL ret room_1 σ 1044 [(0, .ref b), (1, .ref (xd Γ 0)), (2, .ref (xd Γ 58)), (3, .int (nI i))] [] := by
  refine w_aload_n 1 dL_law_1044 rfl rfl rfl ?_
  refine s_arg 1 hz hi hL (by decide) dL_law_1045 dL_law_1046 dL_law_1047 (by decide) dL_law_1048 dL_law_1049 rfl ?_
  refine s_arg 2 hz hi hL (by decide) dL_law_1050 dL_law_1051 dL_law_1052 (by decide) dL_law_1053 dL_law_1054 rfl ?_
  refine k_X11_risked ml_RL_123 (Nat.le_of_ble_eq_true rfl) ⟨Nat.le_of_ble_eq_true rfl, Nat.le_of_ble_eq_true rfl⟩ dL_law_1055 rfl h1 ?_
  refine w_aload_n 2 dL_law_1058 rfl rfl rfl ?_
  refine s_arg 1 hz hi hL (by decide) dL_law_1059 dL_law_1060 dL_law_1061 (by decide) dL_law_1062 dL_law_1063 rfl ?_
  refine s_arg 2 hz hi hL (by decide) dL_law_1064 dL_law_1065 dL_law_1066 (by decide) dL_law_1067 dL_law_1068 rfl ?_
  refine k_X12_risked ml_RL_126 (Nat.le_of_ble_eq_true rfl) ⟨Nat.le_of_ble_eq_true rfl, Nat.le_of_ble_eq_true rfl⟩ dL_law_1069 rfl h2 ?_
  refine w_icmp_eq (tgt := 2287) dL_law_1072 (by decide) rfl (fun _ => ?_) (fun q => absurd he q)
  exact h
theorem g_law_27 {Γ : CX} {b L i : Nat} {z : Nat → Int32} {σ s1 s2 : St} {r1 r2 : Int32} (hz : SCR Γ b L z) (hi : i + 6 ≤ L) (hL : L < 2 ^ 31) (h1 : f_X11_bribe (z (i + 1)) σ = some (r1, s1)) (h2 : f_X12_bribe (z (i + 1)) s1 = some (r2, s2)) (he : r1 = r2) (h : WW Γ cL_law 4 RL ret room_1 s2 2287 [(0, .ref b), (1, .ref (xd Γ 0)), (2, .ref (xd Γ 58)), (3, .int (nI i))] []) : WW Γ cL_law 4 RL ret room_1 σ 1077 [(0, .ref b), (1, .ref (xd Γ 0)), (2, .ref (xd Γ 58)), (3, .int (nI i))] [] := by
  refine w_aload_n 1 dL_law_1077 rfl rfl rfl ?_
  refine s_arg 1 hz hi hL (by decide) dL_law_1078 dL_law_1079 dL_law_1080 (by decide) dL_law_1081 dL_law_1082 rfl ?_
  refine k_X11_bribe ml_RL_127 (Nat.le_of_ble_eq_true rfl) ⟨Nat.le_of_ble_eq_true rfl, Nat.le_of_ble_eq_true rfl⟩ dL_law_1083 rfl h1 ?_
  refine w_aload_n 2 dL_law_1086 rfl rfl rfl ?_
  refine s_arg 1 hz hi hL (by decide) dL_law_1087 dL_law_1088 dL_law_1089 (by decide) dL_law_1090 dL_law_1091 rfl ?_
  refine k_X12_bribe ml_RL_130 (Nat.le_of_ble_eq_true rfl) ⟨Nat.le_of_ble_eq_true rfl, Nat.le_of_ble_eq_true rfl⟩ dL_law_1092 rfl h2 ?_
  refine w_icmp_eq (tgt := 2287) dL_law_1095 (by decide) rfl (fun _ => ?_) (fun q => absurd he q)
  exact h
theorem g_law_28 {Γ : CX} {b L i : Nat} {z : Nat → Int32} {σ s1 s2 : St} {r1 r2 : Int32} (hz : SCR Γ b L z) (hi : i + 6 ≤ L) (hL : L < 2 ^ 31) (h1 : f_X11_bribed (z (i + 1)) σ = some (r1, s1)) (h2 : f_X12_bribed (z (i + 1)) s1 = some (r2, s2)) (he : r1 = r2) (h : WW Γ cL_law 4 RL ret room_1 s2 2287 [(0, .ref b), (1, .ref (xd Γ 0)), (2, .ref (xd Γ 58)), (3, .int (nI i))] []) : WW Γ cL_law 4 RL ret room_1 σ 1100 [(0, .ref b), (1, .ref (xd Γ 0)), (2, .ref (xd Γ 58)), (3, .int (nI i))] [] := by
  refine w_aload_n 1 dL_law_1100 rfl rfl rfl ?_
  refine s_arg 1 hz hi hL (by decide) dL_law_1101 dL_law_1102 dL_law_1103 (by decide) dL_law_1104 dL_law_1105 rfl ?_
  refine k_X11_bribed ml_RL_131 (Nat.le_of_ble_eq_true rfl) ⟨Nat.le_of_ble_eq_true rfl, Nat.le_of_ble_eq_true rfl⟩ dL_law_1106 rfl h1 ?_
  refine w_aload_n 2 dL_law_1109 rfl rfl rfl ?_
  refine s_arg 1 hz hi hL (by decide) dL_law_1110 dL_law_1111 dL_law_1112 (by decide) dL_law_1113 dL_law_1114 rfl ?_
  refine k_X12_bribed ml_RL_134 (Nat.le_of_ble_eq_true rfl) ⟨Nat.le_of_ble_eq_true rfl, Nat.le_of_ble_eq_true rfl⟩ dL_law_1115 rfl h2 ?_
  refine w_icmp_eq (tgt := 2287) dL_law_1118 (by decide) rfl (fun _ => ?_) (fun q => absurd he q)
  exact h
theorem g_law_29 {Γ : CX} {b L i : Nat} {z : Nat → Int32} {σ s1 s2 : St} {r1 r2 : Int32} (hz : SCR Γ b L z) (hi : i + 6 ≤ L) (hL : L < 2 ^ 31) (h1 : f_X11_guard (z (i + 1)) σ = some (r1, s1)) (h2 : f_X12_guard (z (i + 1)) s1 = some (r2, s2)) (he : r1 = r2) (h : WW Γ cL_law 4 RL ret room_1 s2 2287 [(0, .ref b), (1, .ref (xd Γ 0)), (2, .ref (xd Γ 58)), (3, .int (nI i))] []) : WW Γ cL_law 4 RL ret room_1 σ 1123 [(0, .ref b), (1, .ref (xd Γ 0)), (2, .ref (xd Γ 58)), (3, .int (nI i))] [] := by
  refine w_aload_n 1 dL_law_1123 rfl rfl rfl ?_
  refine s_arg 1 hz hi hL (by decide) dL_law_1124 dL_law_1125 dL_law_1126 (by decide) dL_law_1127 dL_law_1128 rfl ?_
  refine k_X11_guard ml_RL_135 (Nat.le_of_ble_eq_true rfl) ⟨Nat.le_of_ble_eq_true rfl, Nat.le_of_ble_eq_true rfl⟩ dL_law_1129 rfl h1 ?_
  refine w_aload_n 2 dL_law_1132 rfl rfl rfl ?_
  refine s_arg 1 hz hi hL (by decide) dL_law_1133 dL_law_1134 dL_law_1135 (by decide) dL_law_1136 dL_law_1137 rfl ?_
  refine k_X12_guard ml_RL_138 (Nat.le_of_ble_eq_true rfl) ⟨Nat.le_of_ble_eq_true rfl, Nat.le_of_ble_eq_true rfl⟩ dL_law_1138 rfl h2 ?_
  refine w_icmp_eq (tgt := 2287) dL_law_1141 (by decide) rfl (fun _ => ?_) (fun q => absurd he q)
  exact h
theorem g_law_30 {Γ : CX} {b L i : Nat} {z : Nat → Int32} {σ s1 s2 : St} {r1 r2 : Int32} (hz : SCR Γ b L z) (hi : i + 6 ≤ L) (hL : L < 2 ^ 31) (h1 : f_X11_guarded (z (i + 1)) σ = some (r1, s1)) (h2 : f_X12_guarded (z (i + 1)) s1 = some (r2, s2)) (he : r1 = r2) (h : WW Γ cL_law 4 RL ret room_1 s2 2287 [(0, .ref b), (1, .ref (xd Γ 0)), (2, .ref (xd Γ 58)), (3, .int (nI i))] []) : WW Γ cL_law 4 RL ret room_1 σ 1146 [(0, .ref b), (1, .ref (xd Γ 0)), (2, .ref (xd Γ 58)), (3, .int (nI i))] [] := by
  refine w_aload_n 1 dL_law_1146 rfl rfl rfl ?_
  refine s_arg 1 hz hi hL (by decide) dL_law_1147 dL_law_1148 dL_law_1149 (by decide) dL_law_1150 dL_law_1151 rfl ?_
  refine k_X11_guarded ml_RL_139 (Nat.le_of_ble_eq_true rfl) ⟨Nat.le_of_ble_eq_true rfl, Nat.le_of_ble_eq_true rfl⟩ dL_law_1152 rfl h1 ?_
  refine w_aload_n 2 dL_law_1155 rfl rfl rfl ?_
  refine s_arg 1 hz hi hL (by decide) dL_law_1156 dL_law_1157 dL_law_1158 (by decide) dL_law_1159 dL_law_1160 rfl ?_
  refine k_X12_guarded ml_RL_142 (Nat.le_of_ble_eq_true rfl) ⟨Nat.le_of_ble_eq_true rfl, Nat.le_of_ble_eq_true rfl⟩ dL_law_1161 rfl h2 ?_
  refine w_icmp_eq (tgt := 2287) dL_law_1164 (by decide) rfl (fun _ => ?_) (fun q => absurd he q)
  exact h
theorem g_law_31 {Γ : CX} {b L i : Nat} {z : Nat → Int32} {σ s1 s2 : St} {r1 r2 : Int32} (hz : SCR Γ b L z) (hi : i + 6 ≤ L) (hL : L < 2 ^ 31) (h1 : f_X11_spoil (z (i + 1)) (z (i + 2)) σ = some (r1, s1)) (h2 : f_X12_spoil (z (i + 1)) (z (i + 2)) s1 = some (r2, s2)) (he : r1 = r2) (h : WW Γ cL_law 4 RL ret room_1 s2 2287 [(0, .ref b), (1, .ref (xd Γ 0)), (2, .ref (xd Γ 58)), (3, .int (nI i))] []) : WW Γ cL_law 4 RL ret room_1 σ 1169 [(0, .ref b), (1, .ref (xd Γ 0)), (2, .ref (xd Γ 58)), (3, .int (nI i))] [] := by
  refine w_aload_n 1 dL_law_1169 rfl rfl rfl ?_
  refine s_arg 1 hz hi hL (by decide) dL_law_1170 dL_law_1171 dL_law_1172 (by decide) dL_law_1173 dL_law_1174 rfl ?_
  refine s_arg 2 hz hi hL (by decide) dL_law_1175 dL_law_1176 dL_law_1177 (by decide) dL_law_1178 dL_law_1179 rfl ?_
  refine k_X11_spoil ml_RL_143 (Nat.le_of_ble_eq_true rfl) ⟨Nat.le_of_ble_eq_true rfl, Nat.le_of_ble_eq_true rfl⟩ dL_law_1180 rfl h1 ?_
  refine w_aload_n 2 dL_law_1183 rfl rfl rfl ?_
  refine s_arg 1 hz hi hL (by decide) dL_law_1184 dL_law_1185 dL_law_1186 (by decide) dL_law_1187 dL_law_1188 rfl ?_
  refine s_arg 2 hz hi hL (by decide) dL_law_1189 dL_law_1190 dL_law_1191 (by decide) dL_law_1192 dL_law_1193 rfl ?_
  refine k_X12_spoil ml_RL_146 (Nat.le_of_ble_eq_true rfl) ⟨Nat.le_of_ble_eq_true rfl, Nat.le_of_ble_eq_true rfl⟩ dL_law_1194 rfl h2 ?_
  refine w_icmp_eq (tgt := 2287) dL_law_1197 (by decide) rfl (fun _ => ?_) (fun q => absurd he q)
  exact h
theorem g_law_32 {Γ : CX} {b L i : Nat} {z : Nat → Int32} {σ s1 s2 : St} {r1 r2 : Int32} (hz : SCR Γ b L z) (hi : i + 6 ≤ L) (hL : L < 2 ^ 31) (h1 : f_X11_spoils (z (i + 1)) (z (i + 2)) σ = some (r1, s1)) (h2 : f_X12_spoils (z (i + 1)) (z (i + 2)) s1 = some (r2, s2)) (he : r1 = r2) (h : WW Γ cL_law 4 RL ret room_1 s2 2287 [(0, .ref b), (1, .ref (xd Γ 0)), (2, .ref (xd Γ 58)), (3, .int (nI i))] []) : WW Γ cL_law 4 RL ret room_1 σ 1202 [(0, .ref b), (1, .ref (xd Γ 0)), (2, .ref (xd Γ 58)), (3, .int (nI i))] [] := by
  refine w_aload_n 1 dL_law_1202 rfl rfl rfl ?_
  refine s_arg 1 hz hi hL (by decide) dL_law_1203 dL_law_1204 dL_law_1205 (by decide) dL_law_1206 dL_law_1207 rfl ?_
  refine s_arg 2 hz hi hL (by decide) dL_law_1208 dL_law_1209 dL_law_1210 (by decide) dL_law_1211 dL_law_1212 rfl ?_
  refine k_X11_spoils ml_RL_147 (Nat.le_of_ble_eq_true rfl) ⟨Nat.le_of_ble_eq_true rfl, Nat.le_of_ble_eq_true rfl⟩ dL_law_1213 rfl h1 ?_
  refine w_aload_n 2 dL_law_1216 rfl rfl rfl ?_
  refine s_arg 1 hz hi hL (by decide) dL_law_1217 dL_law_1218 dL_law_1219 (by decide) dL_law_1220 dL_law_1221 rfl ?_
  refine s_arg 2 hz hi hL (by decide) dL_law_1222 dL_law_1223 dL_law_1224 (by decide) dL_law_1225 dL_law_1226 rfl ?_
  refine k_X12_spoils ml_RL_150 (Nat.le_of_ble_eq_true rfl) ⟨Nat.le_of_ble_eq_true rfl, Nat.le_of_ble_eq_true rfl⟩ dL_law_1227 rfl h2 ?_
  refine w_icmp_eq (tgt := 2287) dL_law_1230 (by decide) rfl (fun _ => ?_) (fun q => absurd he q)
  exact h
theorem g_law_33 {Γ : CX} {b L i : Nat} {z : Nat → Int32} {σ s1 s2 : St} {r1 r2 : Int32} (hz : SCR Γ b L z) (hi : i + 6 ≤ L) (hL : L < 2 ^ 31) (h1 : f_X11_answer (z (i + 1)) (z (i + 2)) σ = some (r1, s1)) (h2 : f_X12_answer (z (i + 1)) (z (i + 2)) s1 = some (r2, s2)) (he : r1 = r2) (h : WW Γ cL_law 4 RL ret room_1 s2 2287 [(0, .ref b), (1, .ref (xd Γ 0)), (2, .ref (xd Γ 58)), (3, .int (nI i))] []) : WW Γ cL_law 4 RL ret room_1 σ 1235 [(0, .ref b), (1, .ref (xd Γ 0)), (2, .ref (xd Γ 58)), (3, .int (nI i))] [] := by
  refine w_aload_n 1 dL_law_1235 rfl rfl rfl ?_
  refine s_arg 1 hz hi hL (by decide) dL_law_1236 dL_law_1237 dL_law_1238 (by decide) dL_law_1239 dL_law_1240 rfl ?_
  refine s_arg 2 hz hi hL (by decide) dL_law_1241 dL_law_1242 dL_law_1243 (by decide) dL_law_1244 dL_law_1245 rfl ?_
  refine k_X11_answer ml_RL_151 (Nat.le_of_ble_eq_true rfl) ⟨Nat.le_of_ble_eq_true rfl, Nat.le_of_ble_eq_true rfl⟩ dL_law_1246 rfl h1 ?_
  refine w_aload_n 2 dL_law_1249 rfl rfl rfl ?_
  refine s_arg 1 hz hi hL (by decide) dL_law_1250 dL_law_1251 dL_law_1252 (by decide) dL_law_1253 dL_law_1254 rfl ?_
  refine s_arg 2 hz hi hL (by decide) dL_law_1255 dL_law_1256 dL_law_1257 (by decide) dL_law_1258 dL_law_1259 rfl ?_
  refine k_X12_answer ml_RL_154 (Nat.le_of_ble_eq_true rfl) ⟨Nat.le_of_ble_eq_true rfl, Nat.le_of_ble_eq_true rfl⟩ dL_law_1260 rfl h2 ?_
  refine w_icmp_eq (tgt := 2287) dL_law_1263 (by decide) rfl (fun _ => ?_) (fun q => absurd he q)
  exact h
theorem g_law_34 {Γ : CX} {b L i : Nat} {z : Nat → Int32} {σ s1 s2 : St} {r1 r2 : Int32} (hz : SCR Γ b L z) (hi : i + 6 ≤ L) (hL : L < 2 ^ 31) (h1 : f_X11_rests (z (i + 1)) σ = some (r1, s1)) (h2 : f_X12_rests (z (i + 1)) s1 = some (r2, s2)) (he : r1 = r2) (h : WW Γ cL_law 4 RL ret room_1 s2 2287 [(0, .ref b), (1, .ref (xd Γ 0)), (2, .ref (xd Γ 58)), (3, .int (nI i))] []) : WW Γ cL_law 4 RL ret room_1 σ 1268 [(0, .ref b), (1, .ref (xd Γ 0)), (2, .ref (xd Γ 58)), (3, .int (nI i))] [] := by
  refine w_aload_n 1 dL_law_1268 rfl rfl rfl ?_
  refine s_arg 1 hz hi hL (by decide) dL_law_1269 dL_law_1270 dL_law_1271 (by decide) dL_law_1272 dL_law_1273 rfl ?_
  refine k_X11_rests ml_RL_155 (Nat.le_of_ble_eq_true rfl) ⟨Nat.le_of_ble_eq_true rfl, Nat.le_of_ble_eq_true rfl⟩ dL_law_1274 rfl h1 ?_
  refine w_aload_n 2 dL_law_1277 rfl rfl rfl ?_
  refine s_arg 1 hz hi hL (by decide) dL_law_1278 dL_law_1279 dL_law_1280 (by decide) dL_law_1281 dL_law_1282 rfl ?_
  refine k_X12_rests ml_RL_158 (Nat.le_of_ble_eq_true rfl) ⟨Nat.le_of_ble_eq_true rfl, Nat.le_of_ble_eq_true rfl⟩ dL_law_1283 rfl h2 ?_
  refine w_icmp_eq (tgt := 2287) dL_law_1286 (by decide) rfl (fun _ => ?_) (fun q => absurd he q)
  exact h
theorem g_law_35 {Γ : CX} {b L i : Nat} {z : Nat → Int32} {σ s1 s2 : St} {r1 r2 : Int32} (hz : SCR Γ b L z) (hi : i + 6 ≤ L) (hL : L < 2 ^ 31) (h1 : f_X11_since (z (i + 1)) (z (i + 2)) σ = some (r1, s1)) (h2 : f_X12_since (z (i + 1)) (z (i + 2)) s1 = some (r2, s2)) (he : r1 = r2) (h : WW Γ cL_law 4 RL ret room_1 s2 2287 [(0, .ref b), (1, .ref (xd Γ 0)), (2, .ref (xd Γ 58)), (3, .int (nI i))] []) : WW Γ cL_law 4 RL ret room_1 σ 1291 [(0, .ref b), (1, .ref (xd Γ 0)), (2, .ref (xd Γ 58)), (3, .int (nI i))] [] := by
  refine w_aload_n 1 dL_law_1291 rfl rfl rfl ?_
  refine s_arg 1 hz hi hL (by decide) dL_law_1292 dL_law_1293 dL_law_1294 (by decide) dL_law_1295 dL_law_1296 rfl ?_
  refine s_arg 2 hz hi hL (by decide) dL_law_1297 dL_law_1298 dL_law_1299 (by decide) dL_law_1300 dL_law_1301 rfl ?_
  refine k_X11_since ml_RL_159 (Nat.le_of_ble_eq_true rfl) ⟨Nat.le_of_ble_eq_true rfl, Nat.le_of_ble_eq_true rfl⟩ dL_law_1302 rfl h1 ?_
  refine w_aload_n 2 dL_law_1305 rfl rfl rfl ?_
  refine s_arg 1 hz hi hL (by decide) dL_law_1306 dL_law_1307 dL_law_1308 (by decide) dL_law_1309 dL_law_1310 rfl ?_
  refine s_arg 2 hz hi hL (by decide) dL_law_1311 dL_law_1312 dL_law_1313 (by decide) dL_law_1314 dL_law_1315 rfl ?_
  refine k_X12_since ml_RL_162 (Nat.le_of_ble_eq_true rfl) ⟨Nat.le_of_ble_eq_true rfl, Nat.le_of_ble_eq_true rfl⟩ dL_law_1316 rfl h2 ?_
  refine w_icmp_eq (tgt := 2287) dL_law_1319 (by decide) rfl (fun _ => ?_) (fun q => absurd he q)
  exact h
theorem g_law_36 {Γ : CX} {b L i : Nat} {z : Nat → Int32} {σ s1 s2 : St} {r1 r2 : Int32} (hz : SCR Γ b L z) (hi : i + 6 ≤ L) (hL : L < 2 ^ 31) (h1 : f_X11_comes (z (i + 1)) (z (i + 2)) σ = some (r1, s1)) (h2 : f_X12_comes (z (i + 1)) (z (i + 2)) s1 = some (r2, s2)) (he : r1 = r2) (h : WW Γ cL_law 4 RL ret room_1 s2 2287 [(0, .ref b), (1, .ref (xd Γ 0)), (2, .ref (xd Γ 58)), (3, .int (nI i))] []) : WW Γ cL_law 4 RL ret room_1 σ 1324 [(0, .ref b), (1, .ref (xd Γ 0)), (2, .ref (xd Γ 58)), (3, .int (nI i))] [] := by
  refine w_aload_n 1 dL_law_1324 rfl rfl rfl ?_
  refine s_arg 1 hz hi hL (by decide) dL_law_1325 dL_law_1326 dL_law_1327 (by decide) dL_law_1328 dL_law_1329 rfl ?_
  refine s_arg 2 hz hi hL (by decide) dL_law_1330 dL_law_1331 dL_law_1332 (by decide) dL_law_1333 dL_law_1334 rfl ?_
  refine k_X11_comes ml_RL_163 (Nat.le_of_ble_eq_true rfl) ⟨Nat.le_of_ble_eq_true rfl, Nat.le_of_ble_eq_true rfl⟩ dL_law_1335 rfl h1 ?_
  refine w_aload_n 2 dL_law_1338 rfl rfl rfl ?_
  refine s_arg 1 hz hi hL (by decide) dL_law_1339 dL_law_1340 dL_law_1341 (by decide) dL_law_1342 dL_law_1343 rfl ?_
  refine s_arg 2 hz hi hL (by decide) dL_law_1344 dL_law_1345 dL_law_1346 (by decide) dL_law_1347 dL_law_1348 rfl ?_
  refine k_X12_comes ml_RL_166 (Nat.le_of_ble_eq_true rfl) ⟨Nat.le_of_ble_eq_true rfl, Nat.le_of_ble_eq_true rfl⟩ dL_law_1349 rfl h2 ?_
  refine w_icmp_eq (tgt := 2287) dL_law_1352 (by decide) rfl (fun _ => ?_) (fun q => absurd he q)
  exact h
theorem g_law_37 {Γ : CX} {b L i : Nat} {z : Nat → Int32} {σ s1 s2 : St} {r1 r2 : Int64} (hz : SCR Γ b L z) (hi : i + 6 ≤ L) (hL : L < 2 ^ 31) (h1 : f_X11_even (z (i + 1)) σ = some (r1, s1)) (h2 : f_X12_even (z (i + 1)) s1 = some (r2, s2)) (he : r1 = r2) (h : WW Γ cL_law 4 RL ret room_1 s2 2287 [(0, .ref b), (1, .ref (xd Γ 0)), (2, .ref (xd Γ 58)), (3, .int (nI i))] []) : WW Γ cL_law 4 RL ret room_1 σ 1357 [(0, .ref b), (1, .ref (xd Γ 0)), (2, .ref (xd Γ 58)), (3, .int (nI i))] [] := by
  refine w_aload_n 1 dL_law_1357 rfl rfl rfl ?_
  refine s_arg 1 hz hi hL (by decide) dL_law_1358 dL_law_1359 dL_law_1360 (by decide) dL_law_1361 dL_law_1362 rfl ?_
  refine k_X11_even ml_RL_167 (Nat.le_of_ble_eq_true rfl) ⟨Nat.le_of_ble_eq_true rfl, Nat.le_of_ble_eq_true rfl⟩ dL_law_1363 rfl h1 ?_
  refine w_aload_n 2 dL_law_1366 rfl rfl rfl ?_
  refine s_arg 1 hz hi hL (by decide) dL_law_1367 dL_law_1368 dL_law_1369 (by decide) dL_law_1370 dL_law_1371 rfl ?_
  refine k_X12_even ml_RL_171 (Nat.le_of_ble_eq_true rfl) ⟨Nat.le_of_ble_eq_true rfl, Nat.le_of_ble_eq_true rfl⟩ dL_law_1372 rfl h2 ?_
  refine w_lcmp dL_law_1375 rfl ?_
  refine w_if_eq (tgt := 2287) dL_law_1376 (by decide) rfl (fun _ => ?_) (fun q => absurd (lcmp_eq he) q)
  exact h
theorem g_law_38 {Γ : CX} {b L i : Nat} {z : Nat → Int32} {σ s1 s2 : St} {r1 r2 : Int32} (hz : SCR Γ b L z) (hi : i + 6 ≤ L) (hL : L < 2 ^ 31) (h1 : f_X11_hold (z (i + 1)) (z (i + 2)) σ = some (r1, s1)) (h2 : f_X12_hold (z (i + 1)) (z (i + 2)) s1 = some (r2, s2)) (he : r1 = r2) (h : WW Γ cL_law 4 RL ret room_1 s2 2287 [(0, .ref b), (1, .ref (xd Γ 0)), (2, .ref (xd Γ 58)), (3, .int (nI i))] []) : WW Γ cL_law 4 RL ret room_1 σ 1381 [(0, .ref b), (1, .ref (xd Γ 0)), (2, .ref (xd Γ 58)), (3, .int (nI i))] [] := by
  refine w_aload_n 1 dL_law_1381 rfl rfl rfl ?_
  refine s_arg 1 hz hi hL (by decide) dL_law_1382 dL_law_1383 dL_law_1384 (by decide) dL_law_1385 dL_law_1386 rfl ?_
  refine s_arg 2 hz hi hL (by decide) dL_law_1387 dL_law_1388 dL_law_1389 (by decide) dL_law_1390 dL_law_1391 rfl ?_
  refine k_X11_hold ml_RL_172 (Nat.le_of_ble_eq_true rfl) ⟨Nat.le_of_ble_eq_true rfl, Nat.le_of_ble_eq_true rfl⟩ dL_law_1392 rfl h1 ?_
  refine w_aload_n 2 dL_law_1395 rfl rfl rfl ?_
  refine s_arg 1 hz hi hL (by decide) dL_law_1396 dL_law_1397 dL_law_1398 (by decide) dL_law_1399 dL_law_1400 rfl ?_
  refine s_arg 2 hz hi hL (by decide) dL_law_1401 dL_law_1402 dL_law_1403 (by decide) dL_law_1404 dL_law_1405 rfl ?_
  refine k_X12_hold ml_RL_175 (Nat.le_of_ble_eq_true rfl) ⟨Nat.le_of_ble_eq_true rfl, Nat.le_of_ble_eq_true rfl⟩ dL_law_1406 rfl h2 ?_
  refine w_icmp_eq (tgt := 2287) dL_law_1409 (by decide) rfl (fun _ => ?_) (fun q => absurd he q)
  exact h
theorem g_law_39 {Γ : CX} {b L i : Nat} {z : Nat → Int32} {σ s1 s2 : St} {r1 r2 : Int32} (hz : SCR Γ b L z) (hi : i + 6 ≤ L) (hL : L < 2 ^ 31) (h1 : f_X11_holds (z (i + 1)) (z (i + 2)) (z (i + 3)) σ = some (r1, s1)) (h2 : f_X12_holds (z (i + 1)) (z (i + 2)) (z (i + 3)) s1 = some (r2, s2)) (he : r1 = r2) (h : WW Γ cL_law 4 RL ret room_1 s2 2287 [(0, .ref b), (1, .ref (xd Γ 0)), (2, .ref (xd Γ 58)), (3, .int (nI i))] []) : WW Γ cL_law 4 RL ret room_1 σ 1414 [(0, .ref b), (1, .ref (xd Γ 0)), (2, .ref (xd Γ 58)), (3, .int (nI i))] [] := by
  refine w_aload_n 1 dL_law_1414 rfl rfl rfl ?_
  refine s_arg 1 hz hi hL (by decide) dL_law_1415 dL_law_1416 dL_law_1417 (by decide) dL_law_1418 dL_law_1419 rfl ?_
  refine s_arg 2 hz hi hL (by decide) dL_law_1420 dL_law_1421 dL_law_1422 (by decide) dL_law_1423 dL_law_1424 rfl ?_
  refine s_arg 3 hz hi hL (by decide) dL_law_1425 dL_law_1426 dL_law_1427 (by decide) dL_law_1428 dL_law_1429 rfl ?_
  refine k_X11_holds ml_RL_176 (Nat.le_of_ble_eq_true rfl) ⟨Nat.le_of_ble_eq_true rfl, Nat.le_of_ble_eq_true rfl⟩ dL_law_1430 rfl h1 ?_
  refine w_aload_n 2 dL_law_1433 rfl rfl rfl ?_
  refine s_arg 1 hz hi hL (by decide) dL_law_1434 dL_law_1435 dL_law_1436 (by decide) dL_law_1437 dL_law_1438 rfl ?_
  refine s_arg 2 hz hi hL (by decide) dL_law_1439 dL_law_1440 dL_law_1441 (by decide) dL_law_1442 dL_law_1443 rfl ?_
  refine s_arg 3 hz hi hL (by decide) dL_law_1444 dL_law_1445 dL_law_1446 (by decide) dL_law_1447 dL_law_1448 rfl ?_
  refine k_X12_holds ml_RL_179 (Nat.le_of_ble_eq_true rfl) ⟨Nat.le_of_ble_eq_true rfl, Nat.le_of_ble_eq_true rfl⟩ dL_law_1449 rfl h2 ?_
  refine w_icmp_eq (tgt := 2287) dL_law_1452 (by decide) rfl (fun _ => ?_) (fun q => absurd he q)
  exact h
theorem g_law_40 {Γ : CX} {b L i : Nat} {z : Nat → Int32} {σ s1 s2 : St} {r1 r2 : Int32} (hz : SCR Γ b L z) (hi : i + 6 ≤ L) (hL : L < 2 ^ 31) (h1 : f_X11_reply (z (i + 1)) (z (i + 2)) (z (i + 3)) σ = some (r1, s1)) (h2 : f_X12_reply (z (i + 1)) (z (i + 2)) (z (i + 3)) s1 = some (r2, s2)) (he : r1 = r2) (h : WW Γ cL_law 4 RL ret room_1 s2 2287 [(0, .ref b), (1, .ref (xd Γ 0)), (2, .ref (xd Γ 58)), (3, .int (nI i))] []) : WW Γ cL_law 4 RL ret room_1 σ 1457 [(0, .ref b), (1, .ref (xd Γ 0)), (2, .ref (xd Γ 58)), (3, .int (nI i))] [] := by
  refine w_aload_n 1 dL_law_1457 rfl rfl rfl ?_
  refine s_arg 1 hz hi hL (by decide) dL_law_1458 dL_law_1459 dL_law_1460 (by decide) dL_law_1461 dL_law_1462 rfl ?_
  refine s_arg 2 hz hi hL (by decide) dL_law_1463 dL_law_1464 dL_law_1465 (by decide) dL_law_1466 dL_law_1467 rfl ?_
  refine s_arg 3 hz hi hL (by decide) dL_law_1468 dL_law_1469 dL_law_1470 (by decide) dL_law_1471 dL_law_1472 rfl ?_
  refine k_X11_reply ml_RL_180 (Nat.le_of_ble_eq_true rfl) ⟨Nat.le_of_ble_eq_true rfl, Nat.le_of_ble_eq_true rfl⟩ dL_law_1473 rfl h1 ?_
  refine w_aload_n 2 dL_law_1476 rfl rfl rfl ?_
  refine s_arg 1 hz hi hL (by decide) dL_law_1477 dL_law_1478 dL_law_1479 (by decide) dL_law_1480 dL_law_1481 rfl ?_
  refine s_arg 2 hz hi hL (by decide) dL_law_1482 dL_law_1483 dL_law_1484 (by decide) dL_law_1485 dL_law_1486 rfl ?_
  refine s_arg 3 hz hi hL (by decide) dL_law_1487 dL_law_1488 dL_law_1489 (by decide) dL_law_1490 dL_law_1491 rfl ?_
  refine k_X12_reply ml_RL_183 (Nat.le_of_ble_eq_true rfl) ⟨Nat.le_of_ble_eq_true rfl, Nat.le_of_ble_eq_true rfl⟩ dL_law_1492 rfl h2 ?_
  refine w_icmp_eq (tgt := 2287) dL_law_1495 (by decide) rfl (fun _ => ?_) (fun q => absurd he q)
  exact h
theorem g_law_41 {Γ : CX} {b L i : Nat} {z : Nat → Int32} {σ s1 s2 : St} {r1 r2 : Int32} (hz : SCR Γ b L z) (hi : i + 6 ≤ L) (hL : L < 2 ^ 31) (h1 : f_X11_readings (z (i + 1)) σ = some (r1, s1)) (h2 : f_X12_readings (z (i + 1)) s1 = some (r2, s2)) (he : r1 = r2) (h : WW Γ cL_law 4 RL ret room_1 s2 2287 [(0, .ref b), (1, .ref (xd Γ 0)), (2, .ref (xd Γ 58)), (3, .int (nI i))] []) : WW Γ cL_law 4 RL ret room_1 σ 1500 [(0, .ref b), (1, .ref (xd Γ 0)), (2, .ref (xd Γ 58)), (3, .int (nI i))] [] := by
  refine w_aload_n 1 dL_law_1500 rfl rfl rfl ?_
  refine s_arg 1 hz hi hL (by decide) dL_law_1501 dL_law_1502 dL_law_1503 (by decide) dL_law_1504 dL_law_1505 rfl ?_
  refine k_X11_readings ml_RL_184 (Nat.le_of_ble_eq_true rfl) ⟨Nat.le_of_ble_eq_true rfl, Nat.le_of_ble_eq_true rfl⟩ dL_law_1506 rfl h1 ?_
  refine w_aload_n 2 dL_law_1509 rfl rfl rfl ?_
  refine s_arg 1 hz hi hL (by decide) dL_law_1510 dL_law_1511 dL_law_1512 (by decide) dL_law_1513 dL_law_1514 rfl ?_
  refine k_X12_readings ml_RL_187 (Nat.le_of_ble_eq_true rfl) ⟨Nat.le_of_ble_eq_true rfl, Nat.le_of_ble_eq_true rfl⟩ dL_law_1515 rfl h2 ?_
  refine w_icmp_eq (tgt := 2287) dL_law_1518 (by decide) rfl (fun _ => ?_) (fun q => absurd he q)
  exact h
theorem g_law_42 {Γ : CX} {b L i : Nat} {z : Nat → Int32} {σ s1 s2 : St} {r1 r2 : Int64} (hz : SCR Γ b L z) (hi : i + 6 ≤ L) (hL : L < 2 ^ 31) (h1 : f_X11_loopholes σ = some (r1, s1)) (h2 : f_X12_loopholes s1 = some (r2, s2)) (he : r1 = r2) (h : WW Γ cL_law 4 RL ret room_1 s2 2287 [(0, .ref b), (1, .ref (xd Γ 0)), (2, .ref (xd Γ 58)), (3, .int (nI i))] []) : WW Γ cL_law 4 RL ret room_1 σ 1523 [(0, .ref b), (1, .ref (xd Γ 0)), (2, .ref (xd Γ 58)), (3, .int (nI i))] [] := by
  refine w_aload_n 1 dL_law_1523 rfl rfl rfl ?_
  refine k_X11_loopholes ml_RL_188 (Nat.le_of_ble_eq_true rfl) ⟨Nat.le_of_ble_eq_true rfl, Nat.le_of_ble_eq_true rfl⟩ dL_law_1524 rfl h1 ?_
  refine w_aload_n 2 dL_law_1527 rfl rfl rfl ?_
  refine k_X12_loopholes ml_RL_192 (Nat.le_of_ble_eq_true rfl) ⟨Nat.le_of_ble_eq_true rfl, Nat.le_of_ble_eq_true rfl⟩ dL_law_1528 rfl h2 ?_
  refine w_lcmp dL_law_1531 rfl ?_
  refine w_if_eq (tgt := 2287) dL_law_1532 (by decide) rfl (fun _ => ?_) (fun q => absurd (lcmp_eq he) q)
  exact h
theorem g_law_43 {Γ : CX} {b L i : Nat} {z : Nat → Int32} {σ s1 s2 : St} {r1 r2 : Int32} (hz : SCR Γ b L z) (hi : i + 6 ≤ L) (hL : L < 2 ^ 31) (h1 : f_X11_close (z (i + 1)) σ = some (r1, s1)) (h2 : f_X12_close (z (i + 1)) s1 = some (r2, s2)) (he : r1 = r2) (h : WW Γ cL_law 4 RL ret room_1 s2 2287 [(0, .ref b), (1, .ref (xd Γ 0)), (2, .ref (xd Γ 58)), (3, .int (nI i))] []) : WW Γ cL_law 4 RL ret room_1 σ 1537 [(0, .ref b), (1, .ref (xd Γ 0)), (2, .ref (xd Γ 58)), (3, .int (nI i))] [] := by
  refine w_aload_n 1 dL_law_1537 rfl rfl rfl ?_
  refine s_arg 1 hz hi hL (by decide) dL_law_1538 dL_law_1539 dL_law_1540 (by decide) dL_law_1541 dL_law_1542 rfl ?_
  refine k_X11_close ml_RL_193 (Nat.le_of_ble_eq_true rfl) ⟨Nat.le_of_ble_eq_true rfl, Nat.le_of_ble_eq_true rfl⟩ dL_law_1543 rfl h1 ?_
  refine w_aload_n 2 dL_law_1546 rfl rfl rfl ?_
  refine s_arg 1 hz hi hL (by decide) dL_law_1547 dL_law_1548 dL_law_1549 (by decide) dL_law_1550 dL_law_1551 rfl ?_
  refine k_X12_close ml_RL_196 (Nat.le_of_ble_eq_true rfl) ⟨Nat.le_of_ble_eq_true rfl, Nat.le_of_ble_eq_true rfl⟩ dL_law_1552 rfl h2 ?_
  refine w_icmp_eq (tgt := 2287) dL_law_1555 (by decide) rfl (fun _ => ?_) (fun q => absurd he q)
  exact h
theorem g_law_44 {Γ : CX} {b L i : Nat} {z : Nat → Int32} {σ s1 s2 : St} {r1 r2 : Int32} (hz : SCR Γ b L z) (hi : i + 6 ≤ L) (hL : L < 2 ^ 31) (h1 : f_X11_closed (z (i + 1)) σ = some (r1, s1)) (h2 : f_X12_closed (z (i + 1)) s1 = some (r2, s2)) (he : r1 = r2) (h : WW Γ cL_law 4 RL ret room_1 s2 2287 [(0, .ref b), (1, .ref (xd Γ 0)), (2, .ref (xd Γ 58)), (3, .int (nI i))] []) : WW Γ cL_law 4 RL ret room_1 σ 1560 [(0, .ref b), (1, .ref (xd Γ 0)), (2, .ref (xd Γ 58)), (3, .int (nI i))] [] := by
  refine w_aload_n 1 dL_law_1560 rfl rfl rfl ?_
  refine s_arg 1 hz hi hL (by decide) dL_law_1561 dL_law_1562 dL_law_1563 (by decide) dL_law_1564 dL_law_1565 rfl ?_
  refine k_X11_closed ml_RL_197 (Nat.le_of_ble_eq_true rfl) ⟨Nat.le_of_ble_eq_true rfl, Nat.le_of_ble_eq_true rfl⟩ dL_law_1566 rfl h1 ?_
  refine w_aload_n 2 dL_law_1569 rfl rfl rfl ?_
  refine s_arg 1 hz hi hL (by decide) dL_law_1570 dL_law_1571 dL_law_1572 (by decide) dL_law_1573 dL_law_1574 rfl ?_
  refine k_X12_closed ml_RL_200 (Nat.le_of_ble_eq_true rfl) ⟨Nat.le_of_ble_eq_true rfl, Nat.le_of_ble_eq_true rfl⟩ dL_law_1575 rfl h2 ?_
  refine w_icmp_eq (tgt := 2287) dL_law_1578 (by decide) rfl (fun _ => ?_) (fun q => absurd he q)
  exact h
theorem g_law_45 {Γ : CX} {b L i : Nat} {z : Nat → Int32} {σ s1 s2 : St} {r1 r2 : Int32} (hz : SCR Γ b L z) (hi : i + 6 ≤ L) (hL : L < 2 ^ 31) (h1 : f_X11_signs σ = some (r1, s1)) (h2 : f_X12_signs s1 = some (r2, s2)) (he : r1 = r2) (h : WW Γ cL_law 4 RL ret room_1 s2 2287 [(0, .ref b), (1, .ref (xd Γ 0)), (2, .ref (xd Γ 58)), (3, .int (nI i))] []) : WW Γ cL_law 4 RL ret room_1 σ 1583 [(0, .ref b), (1, .ref (xd Γ 0)), (2, .ref (xd Γ 58)), (3, .int (nI i))] [] := by
  refine w_aload_n 1 dL_law_1583 rfl rfl rfl ?_
  refine k_X11_signs ml_RL_201 (Nat.le_of_ble_eq_true rfl) ⟨Nat.le_of_ble_eq_true rfl, Nat.le_of_ble_eq_true rfl⟩ dL_law_1584 rfl h1 ?_
  refine w_aload_n 2 dL_law_1587 rfl rfl rfl ?_
  refine k_X12_signs ml_RL_204 (Nat.le_of_ble_eq_true rfl) ⟨Nat.le_of_ble_eq_true rfl, Nat.le_of_ble_eq_true rfl⟩ dL_law_1588 rfl h2 ?_
  refine w_icmp_eq (tgt := 2287) dL_law_1591 (by decide) rfl (fun _ => ?_) (fun q => absurd he q)
  exact h
theorem g_law_46 {Γ : CX} {b L i : Nat} {z : Nat → Int32} {σ s1 s2 : St} {r1 r2 : Int64} (hz : SCR Γ b L z) (hi : i + 6 ≤ L) (hL : L < 2 ^ 31) (h1 : f_X11_treaties (z (i + 1)) σ = some (r1, s1)) (h2 : f_X12_treaties (z (i + 1)) s1 = some (r2, s2)) (he : r1 = r2) (h : WW Γ cL_law 4 RL ret room_1 s2 2287 [(0, .ref b), (1, .ref (xd Γ 0)), (2, .ref (xd Γ 58)), (3, .int (nI i))] []) : WW Γ cL_law 4 RL ret room_1 σ 1596 [(0, .ref b), (1, .ref (xd Γ 0)), (2, .ref (xd Γ 58)), (3, .int (nI i))] [] := by
  refine w_aload_n 1 dL_law_1596 rfl rfl rfl ?_
  refine s_arg 1 hz hi hL (by decide) dL_law_1597 dL_law_1598 dL_law_1599 (by decide) dL_law_1600 dL_law_1601 rfl ?_
  refine k_X11_treaties ml_RL_205 (Nat.le_of_ble_eq_true rfl) ⟨Nat.le_of_ble_eq_true rfl, Nat.le_of_ble_eq_true rfl⟩ dL_law_1602 rfl h1 ?_
  refine w_aload_n 2 dL_law_1605 rfl rfl rfl ?_
  refine s_arg 1 hz hi hL (by decide) dL_law_1606 dL_law_1607 dL_law_1608 (by decide) dL_law_1609 dL_law_1610 rfl ?_
  refine k_X12_treaties ml_RL_208 (Nat.le_of_ble_eq_true rfl) ⟨Nat.le_of_ble_eq_true rfl, Nat.le_of_ble_eq_true rfl⟩ dL_law_1611 rfl h2 ?_
  refine w_lcmp dL_law_1614 rfl ?_
  refine w_if_eq (tgt := 2287) dL_law_1615 (by decide) rfl (fun _ => ?_) (fun q => absurd (lcmp_eq he) q)
  exact h
theorem g_law_47 {Γ : CX} {b L i : Nat} {z : Nat → Int32} {σ s1 s2 : St} {r1 r2 : Int32} (hz : SCR Γ b L z) (hi : i + 6 ≤ L) (hL : L < 2 ^ 31) (h1 : f_X11_price (z (i + 1)) (z (i + 2)) σ = some (r1, s1)) (h2 : f_X12_price (z (i + 1)) (z (i + 2)) s1 = some (r2, s2)) (he : r1 = r2) (h : WW Γ cL_law 4 RL ret room_1 s2 2287 [(0, .ref b), (1, .ref (xd Γ 0)), (2, .ref (xd Γ 58)), (3, .int (nI i))] []) : WW Γ cL_law 4 RL ret room_1 σ 1620 [(0, .ref b), (1, .ref (xd Γ 0)), (2, .ref (xd Γ 58)), (3, .int (nI i))] [] := by
  refine w_aload_n 1 dL_law_1620 rfl rfl rfl ?_
  refine s_arg 1 hz hi hL (by decide) dL_law_1621 dL_law_1622 dL_law_1623 (by decide) dL_law_1624 dL_law_1625 rfl ?_
  refine s_arg 2 hz hi hL (by decide) dL_law_1626 dL_law_1627 dL_law_1628 (by decide) dL_law_1629 dL_law_1630 rfl ?_
  refine k_X11_price ml_RL_209 (Nat.le_of_ble_eq_true rfl) ⟨Nat.le_of_ble_eq_true rfl, Nat.le_of_ble_eq_true rfl⟩ dL_law_1631 rfl h1 ?_
  refine w_aload_n 2 dL_law_1634 rfl rfl rfl ?_
  refine s_arg 1 hz hi hL (by decide) dL_law_1635 dL_law_1636 dL_law_1637 (by decide) dL_law_1638 dL_law_1639 rfl ?_
  refine s_arg 2 hz hi hL (by decide) dL_law_1640 dL_law_1641 dL_law_1642 (by decide) dL_law_1643 dL_law_1644 rfl ?_
  refine k_X12_price ml_RL_212 (Nat.le_of_ble_eq_true rfl) ⟨Nat.le_of_ble_eq_true rfl, Nat.le_of_ble_eq_true rfl⟩ dL_law_1645 rfl h2 ?_
  refine w_icmp_eq (tgt := 2287) dL_law_1648 (by decide) rfl (fun _ => ?_) (fun q => absurd he q)
  exact h
theorem g_law_48 {Γ : CX} {b L i : Nat} {z : Nat → Int32} {σ s1 s2 : St} {r1 r2 : Int32} (hz : SCR Γ b L z) (hi : i + 6 ≤ L) (hL : L < 2 ^ 31) (h1 : f_X11_spies (z (i + 1)) σ = some (r1, s1)) (h2 : f_X12_spies (z (i + 1)) s1 = some (r2, s2)) (he : r1 = r2) (h : WW Γ cL_law 4 RL ret room_1 s2 2287 [(0, .ref b), (1, .ref (xd Γ 0)), (2, .ref (xd Γ 58)), (3, .int (nI i))] []) : WW Γ cL_law 4 RL ret room_1 σ 1653 [(0, .ref b), (1, .ref (xd Γ 0)), (2, .ref (xd Γ 58)), (3, .int (nI i))] [] := by
  refine w_aload_n 1 dL_law_1653 rfl rfl rfl ?_
  refine s_arg 1 hz hi hL (by decide) dL_law_1654 dL_law_1655 dL_law_1656 (by decide) dL_law_1657 dL_law_1658 rfl ?_
  refine k_X11_spies ml_RL_213 (Nat.le_of_ble_eq_true rfl) ⟨Nat.le_of_ble_eq_true rfl, Nat.le_of_ble_eq_true rfl⟩ dL_law_1659 rfl h1 ?_
  refine w_aload_n 2 dL_law_1662 rfl rfl rfl ?_
  refine s_arg 1 hz hi hL (by decide) dL_law_1663 dL_law_1664 dL_law_1665 (by decide) dL_law_1666 dL_law_1667 rfl ?_
  refine k_X12_spies ml_RL_216 (Nat.le_of_ble_eq_true rfl) ⟨Nat.le_of_ble_eq_true rfl, Nat.le_of_ble_eq_true rfl⟩ dL_law_1668 rfl h2 ?_
  refine w_icmp_eq (tgt := 2287) dL_law_1671 (by decide) rfl (fun _ => ?_) (fun q => absurd he q)
  exact h
theorem g_law_49 {Γ : CX} {b L i : Nat} {z : Nat → Int32} {σ s1 s2 : St} {r1 r2 : Int32} (hz : SCR Γ b L z) (hi : i + 6 ≤ L) (hL : L < 2 ^ 31) (h1 : f_X11_watch (z (i + 1)) σ = some (r1, s1)) (h2 : f_X12_watch (z (i + 1)) s1 = some (r2, s2)) (he : r1 = r2) (h : WW Γ cL_law 4 RL ret room_1 s2 2287 [(0, .ref b), (1, .ref (xd Γ 0)), (2, .ref (xd Γ 58)), (3, .int (nI i))] []) : WW Γ cL_law 4 RL ret room_1 σ 1676 [(0, .ref b), (1, .ref (xd Γ 0)), (2, .ref (xd Γ 58)), (3, .int (nI i))] [] := by
  refine w_aload_n 1 dL_law_1676 rfl rfl rfl ?_
  refine s_arg 1 hz hi hL (by decide) dL_law_1677 dL_law_1678 dL_law_1679 (by decide) dL_law_1680 dL_law_1681 rfl ?_
  refine k_X11_watch ml_RL_217 (Nat.le_of_ble_eq_true rfl) ⟨Nat.le_of_ble_eq_true rfl, Nat.le_of_ble_eq_true rfl⟩ dL_law_1682 rfl h1 ?_
  refine w_aload_n 2 dL_law_1685 rfl rfl rfl ?_
  refine s_arg 1 hz hi hL (by decide) dL_law_1686 dL_law_1687 dL_law_1688 (by decide) dL_law_1689 dL_law_1690 rfl ?_
  refine k_X12_watch ml_RL_220 (Nat.le_of_ble_eq_true rfl) ⟨Nat.le_of_ble_eq_true rfl, Nat.le_of_ble_eq_true rfl⟩ dL_law_1691 rfl h2 ?_
  refine w_icmp_eq (tgt := 2287) dL_law_1694 (by decide) rfl (fun _ => ?_) (fun q => absurd he q)
  exact h
theorem g_law_50 {Γ : CX} {b L i : Nat} {z : Nat → Int32} {σ s1 s2 : St} {r1 r2 : Int32} (hz : SCR Γ b L z) (hi : i + 6 ≤ L) (hL : L < 2 ^ 31) (h1 : f_X11_leaves (z (i + 1)) σ = some (r1, s1)) (h2 : f_X12_leaves (z (i + 1)) s1 = some (r2, s2)) (he : r1 = r2) (h : WW Γ cL_law 4 RL ret room_1 s2 2287 [(0, .ref b), (1, .ref (xd Γ 0)), (2, .ref (xd Γ 58)), (3, .int (nI i))] []) : WW Γ cL_law 4 RL ret room_1 σ 1699 [(0, .ref b), (1, .ref (xd Γ 0)), (2, .ref (xd Γ 58)), (3, .int (nI i))] [] := by
  refine w_aload_n 1 dL_law_1699 rfl rfl rfl ?_
  refine s_arg 1 hz hi hL (by decide) dL_law_1700 dL_law_1701 dL_law_1702 (by decide) dL_law_1703 dL_law_1704 rfl ?_
  refine k_X11_leaves ml_RL_221 (Nat.le_of_ble_eq_true rfl) ⟨Nat.le_of_ble_eq_true rfl, Nat.le_of_ble_eq_true rfl⟩ dL_law_1705 rfl h1 ?_
  refine w_aload_n 2 dL_law_1708 rfl rfl rfl ?_
  refine s_arg 1 hz hi hL (by decide) dL_law_1709 dL_law_1710 dL_law_1711 (by decide) dL_law_1712 dL_law_1713 rfl ?_
  refine k_X12_leaves ml_RL_224 (Nat.le_of_ble_eq_true rfl) ⟨Nat.le_of_ble_eq_true rfl, Nat.le_of_ble_eq_true rfl⟩ dL_law_1714 rfl h2 ?_
  refine w_icmp_eq (tgt := 2287) dL_law_1717 (by decide) rfl (fun _ => ?_) (fun q => absurd he q)
  exact h
theorem g_law_51 {Γ : CX} {b L i : Nat} {z : Nat → Int32} {σ s1 s2 : St} {r1 r2 : Int32} (hz : SCR Γ b L z) (hi : i + 6 ≤ L) (hL : L < 2 ^ 31) (h1 : f_X11_known (z (i + 1)) (z (i + 2)) σ = some (r1, s1)) (h2 : f_X12_known (z (i + 1)) (z (i + 2)) s1 = some (r2, s2)) (he : r1 = r2) (h : WW Γ cL_law 4 RL ret room_1 s2 2287 [(0, .ref b), (1, .ref (xd Γ 0)), (2, .ref (xd Γ 58)), (3, .int (nI i))] []) : WW Γ cL_law 4 RL ret room_1 σ 1722 [(0, .ref b), (1, .ref (xd Γ 0)), (2, .ref (xd Γ 58)), (3, .int (nI i))] [] := by
  refine w_aload_n 1 dL_law_1722 rfl rfl rfl ?_
  refine s_arg 1 hz hi hL (by decide) dL_law_1723 dL_law_1724 dL_law_1725 (by decide) dL_law_1726 dL_law_1727 rfl ?_
  refine s_arg 2 hz hi hL (by decide) dL_law_1728 dL_law_1729 dL_law_1730 (by decide) dL_law_1731 dL_law_1732 rfl ?_
  refine k_X11_known ml_RL_225 (Nat.le_of_ble_eq_true rfl) ⟨Nat.le_of_ble_eq_true rfl, Nat.le_of_ble_eq_true rfl⟩ dL_law_1733 rfl h1 ?_
  refine w_aload_n 2 dL_law_1736 rfl rfl rfl ?_
  refine s_arg 1 hz hi hL (by decide) dL_law_1737 dL_law_1738 dL_law_1739 (by decide) dL_law_1740 dL_law_1741 rfl ?_
  refine s_arg 2 hz hi hL (by decide) dL_law_1742 dL_law_1743 dL_law_1744 (by decide) dL_law_1745 dL_law_1746 rfl ?_
  refine k_X12_known ml_RL_228 (Nat.le_of_ble_eq_true rfl) ⟨Nat.le_of_ble_eq_true rfl, Nat.le_of_ble_eq_true rfl⟩ dL_law_1747 rfl h2 ?_
  refine w_icmp_eq (tgt := 2287) dL_law_1750 (by decide) rfl (fun _ => ?_) (fun q => absurd he q)
  exact h
theorem g_law_52 {Γ : CX} {b L i : Nat} {z : Nat → Int32} {σ s1 s2 : St} {r1 r2 : Int32} (hz : SCR Γ b L z) (hi : i + 6 ≤ L) (hL : L < 2 ^ 31) (h1 : f_X11_grant σ = some (r1, s1)) (h2 : f_X12_grant s1 = some (r2, s2)) (he : r1 = r2) (h : WW Γ cL_law 4 RL ret room_1 s2 2287 [(0, .ref b), (1, .ref (xd Γ 0)), (2, .ref (xd Γ 58)), (3, .int (nI i))] []) : WW Γ cL_law 4 RL ret room_1 σ 1755 [(0, .ref b), (1, .ref (xd Γ 0)), (2, .ref (xd Γ 58)), (3, .int (nI i))] [] := by
  refine w_aload_n 1 dL_law_1755 rfl rfl rfl ?_
  refine k_X11_grant ml_RL_229 (Nat.le_of_ble_eq_true rfl) ⟨Nat.le_of_ble_eq_true rfl, Nat.le_of_ble_eq_true rfl⟩ dL_law_1756 rfl h1 ?_
  refine w_aload_n 2 dL_law_1759 rfl rfl rfl ?_
  refine k_X12_grant ml_RL_232 (Nat.le_of_ble_eq_true rfl) ⟨Nat.le_of_ble_eq_true rfl, Nat.le_of_ble_eq_true rfl⟩ dL_law_1760 rfl h2 ?_
  refine w_icmp_eq (tgt := 2287) dL_law_1763 (by decide) rfl (fun _ => ?_) (fun q => absurd he q)
  exact h
theorem g_law_53 {Γ : CX} {b L i : Nat} {z : Nat → Int32} {σ s1 s2 : St} {r1 r2 : Int32} (hz : SCR Γ b L z) (hi : i + 6 ≤ L) (hL : L < 2 ^ 31) (h1 : f_X11_granted σ = some (r1, s1)) (h2 : f_X12_granted s1 = some (r2, s2)) (he : r1 = r2) (h : WW Γ cL_law 4 RL ret room_1 s2 2287 [(0, .ref b), (1, .ref (xd Γ 0)), (2, .ref (xd Γ 58)), (3, .int (nI i))] []) : WW Γ cL_law 4 RL ret room_1 σ 1768 [(0, .ref b), (1, .ref (xd Γ 0)), (2, .ref (xd Γ 58)), (3, .int (nI i))] [] := by
  refine w_aload_n 1 dL_law_1768 rfl rfl rfl ?_
  refine k_X11_granted ml_RL_233 (Nat.le_of_ble_eq_true rfl) ⟨Nat.le_of_ble_eq_true rfl, Nat.le_of_ble_eq_true rfl⟩ dL_law_1769 rfl h1 ?_
  refine w_aload_n 2 dL_law_1772 rfl rfl rfl ?_
  refine k_X12_granted ml_RL_236 (Nat.le_of_ble_eq_true rfl) ⟨Nat.le_of_ble_eq_true rfl, Nat.le_of_ble_eq_true rfl⟩ dL_law_1773 rfl h2 ?_
  refine w_icmp_eq (tgt := 2287) dL_law_1776 (by decide) rfl (fun _ => ?_) (fun q => absurd he q)
  exact h
theorem g_law_54 {Γ : CX} {b L i : Nat} {z : Nat → Int32} {σ s1 s2 : St} {r1 r2 : Int32} (hz : SCR Γ b L z) (hi : i + 6 ≤ L) (hL : L < 2 ^ 31) (h1 : f_X11_halves σ = some (r1, s1)) (h2 : f_X12_halves s1 = some (r2, s2)) (he : r1 = r2) (h : WW Γ cL_law 4 RL ret room_1 s2 2287 [(0, .ref b), (1, .ref (xd Γ 0)), (2, .ref (xd Γ 58)), (3, .int (nI i))] []) : WW Γ cL_law 4 RL ret room_1 σ 1781 [(0, .ref b), (1, .ref (xd Γ 0)), (2, .ref (xd Γ 58)), (3, .int (nI i))] [] := by
  refine w_aload_n 1 dL_law_1781 rfl rfl rfl ?_
  refine k_X11_halves ml_RL_237 (Nat.le_of_ble_eq_true rfl) ⟨Nat.le_of_ble_eq_true rfl, Nat.le_of_ble_eq_true rfl⟩ dL_law_1782 rfl h1 ?_
  refine w_aload_n 2 dL_law_1785 rfl rfl rfl ?_
  refine k_X12_halves ml_RL_240 (Nat.le_of_ble_eq_true rfl) ⟨Nat.le_of_ble_eq_true rfl, Nat.le_of_ble_eq_true rfl⟩ dL_law_1786 rfl h2 ?_
  refine w_icmp_eq (tgt := 2287) dL_law_1789 (by decide) rfl (fun _ => ?_) (fun q => absurd he q)
  exact h
theorem g_law_55 {Γ : CX} {b L i : Nat} {z : Nat → Int32} {σ s1 s2 : St} {r1 r2 : Int32} (hz : SCR Γ b L z) (hi : i + 6 ≤ L) (hL : L < 2 ^ 31) (h1 : f_X11_halved σ = some (r1, s1)) (h2 : f_X12_halved s1 = some (r2, s2)) (he : r1 = r2) (h : WW Γ cL_law 4 RL ret room_1 s2 2287 [(0, .ref b), (1, .ref (xd Γ 0)), (2, .ref (xd Γ 58)), (3, .int (nI i))] []) : WW Γ cL_law 4 RL ret room_1 σ 1794 [(0, .ref b), (1, .ref (xd Γ 0)), (2, .ref (xd Γ 58)), (3, .int (nI i))] [] := by
  refine w_aload_n 1 dL_law_1794 rfl rfl rfl ?_
  refine k_X11_halved ml_RL_241 (Nat.le_of_ble_eq_true rfl) ⟨Nat.le_of_ble_eq_true rfl, Nat.le_of_ble_eq_true rfl⟩ dL_law_1795 rfl h1 ?_
  refine w_aload_n 2 dL_law_1798 rfl rfl rfl ?_
  refine k_X12_halved ml_RL_244 (Nat.le_of_ble_eq_true rfl) ⟨Nat.le_of_ble_eq_true rfl, Nat.le_of_ble_eq_true rfl⟩ dL_law_1799 rfl h2 ?_
  refine w_icmp_eq (tgt := 2287) dL_law_1802 (by decide) rfl (fun _ => ?_) (fun q => absurd he q)
  exact h
theorem g_law_56 {Γ : CX} {b L i : Nat} {z : Nat → Int32} {σ s1 s2 : St} {r1 r2 : Int64} (hz : SCR Γ b L z) (hi : i + 6 ≤ L) (hL : L < 2 ^ 31) (h1 : f_X11_dry (z (i + 1)) (z (i + 2)) (z (i + 3)) σ = some (r1, s1)) (h2 : f_X12_dry (z (i + 1)) (z (i + 2)) (z (i + 3)) s1 = some (r2, s2)) (he : r1 = r2) (h : WW Γ cL_law 4 RL ret room_1 s2 2287 [(0, .ref b), (1, .ref (xd Γ 0)), (2, .ref (xd Γ 58)), (3, .int (nI i))] []) : WW Γ cL_law 4 RL ret room_1 σ 1807 [(0, .ref b), (1, .ref (xd Γ 0)), (2, .ref (xd Γ 58)), (3, .int (nI i))] [] := by
  refine w_aload_n 1 dL_law_1807 rfl rfl rfl ?_
  refine s_arg 1 hz hi hL (by decide) dL_law_1808 dL_law_1809 dL_law_1810 (by decide) dL_law_1811 dL_law_1812 rfl ?_
  refine s_arg 2 hz hi hL (by decide) dL_law_1813 dL_law_1814 dL_law_1815 (by decide) dL_law_1816 dL_law_1817 rfl ?_
  refine s_arg 3 hz hi hL (by decide) dL_law_1818 dL_law_1819 dL_law_1820 (by decide) dL_law_1821 dL_law_1822 rfl ?_
  refine k_X11_dry ml_RL_245 (Nat.le_of_ble_eq_true rfl) ⟨Nat.le_of_ble_eq_true rfl, Nat.le_of_ble_eq_true rfl⟩ dL_law_1823 rfl h1 ?_
  refine w_aload_n 2 dL_law_1826 rfl rfl rfl ?_
  refine s_arg 1 hz hi hL (by decide) dL_law_1827 dL_law_1828 dL_law_1829 (by decide) dL_law_1830 dL_law_1831 rfl ?_
  refine s_arg 2 hz hi hL (by decide) dL_law_1832 dL_law_1833 dL_law_1834 (by decide) dL_law_1835 dL_law_1836 rfl ?_
  refine s_arg 3 hz hi hL (by decide) dL_law_1837 dL_law_1838 dL_law_1839 (by decide) dL_law_1840 dL_law_1841 rfl ?_
  refine k_X12_dry ml_RL_249 (Nat.le_of_ble_eq_true rfl) ⟨Nat.le_of_ble_eq_true rfl, Nat.le_of_ble_eq_true rfl⟩ dL_law_1842 rfl h2 ?_
  refine w_lcmp dL_law_1845 rfl ?_
  refine w_if_eq (tgt := 2287) dL_law_1846 (by decide) rfl (fun _ => ?_) (fun q => absurd (lcmp_eq he) q)
  exact h
theorem g_law_57 {Γ : CX} {b L i : Nat} {z : Nat → Int32} {σ s1 s2 : St} {r1 r2 : Int32} (hz : SCR Γ b L z) (hi : i + 6 ≤ L) (hL : L < 2 ^ 31) (h1 : f_X11_insist (z (i + 1)) σ = some (r1, s1)) (h2 : f_X12_insist (z (i + 1)) s1 = some (r2, s2)) (he : r1 = r2) (h : WW Γ cL_law 4 RL ret room_1 s2 2287 [(0, .ref b), (1, .ref (xd Γ 0)), (2, .ref (xd Γ 58)), (3, .int (nI i))] []) : WW Γ cL_law 4 RL ret room_1 σ 1851 [(0, .ref b), (1, .ref (xd Γ 0)), (2, .ref (xd Γ 58)), (3, .int (nI i))] [] := by
  refine w_aload_n 1 dL_law_1851 rfl rfl rfl ?_
  refine s_arg 1 hz hi hL (by decide) dL_law_1852 dL_law_1853 dL_law_1854 (by decide) dL_law_1855 dL_law_1856 rfl ?_
  refine k_X11_insist ml_RL_250 (Nat.le_of_ble_eq_true rfl) ⟨Nat.le_of_ble_eq_true rfl, Nat.le_of_ble_eq_true rfl⟩ dL_law_1857 rfl h1 ?_
  refine w_aload_n 2 dL_law_1860 rfl rfl rfl ?_
  refine s_arg 1 hz hi hL (by decide) dL_law_1861 dL_law_1862 dL_law_1863 (by decide) dL_law_1864 dL_law_1865 rfl ?_
  refine k_X12_insist ml_RL_253 (Nat.le_of_ble_eq_true rfl) ⟨Nat.le_of_ble_eq_true rfl, Nat.le_of_ble_eq_true rfl⟩ dL_law_1866 rfl h2 ?_
  refine w_icmp_eq (tgt := 2287) dL_law_1869 (by decide) rfl (fun _ => ?_) (fun q => absurd he q)
  exact h
theorem g_law_58 {Γ : CX} {b L i : Nat} {z : Nat → Int32} {σ s1 s2 : St} {r1 r2 : Int32} (hz : SCR Γ b L z) (hi : i + 6 ≤ L) (hL : L < 2 ^ 31) (h1 : f_X11_tell (z (i + 1)) (z (i + 2)) (z (i + 3)) σ = some (r1, s1)) (h2 : f_X12_tell (z (i + 1)) (z (i + 2)) (z (i + 3)) s1 = some (r2, s2)) (he : r1 = r2) (h : WW Γ cL_law 4 RL ret room_1 s2 2287 [(0, .ref b), (1, .ref (xd Γ 0)), (2, .ref (xd Γ 58)), (3, .int (nI i))] []) : WW Γ cL_law 4 RL ret room_1 σ 1874 [(0, .ref b), (1, .ref (xd Γ 0)), (2, .ref (xd Γ 58)), (3, .int (nI i))] [] := by
  refine w_aload_n 1 dL_law_1874 rfl rfl rfl ?_
  refine s_arg 1 hz hi hL (by decide) dL_law_1875 dL_law_1876 dL_law_1877 (by decide) dL_law_1878 dL_law_1879 rfl ?_
  refine s_arg 2 hz hi hL (by decide) dL_law_1880 dL_law_1881 dL_law_1882 (by decide) dL_law_1883 dL_law_1884 rfl ?_
  refine s_arg 3 hz hi hL (by decide) dL_law_1885 dL_law_1886 dL_law_1887 (by decide) dL_law_1888 dL_law_1889 rfl ?_
  refine k_X11_tell ml_RL_254 (Nat.le_of_ble_eq_true rfl) ⟨Nat.le_of_ble_eq_true rfl, Nat.le_of_ble_eq_true rfl⟩ dL_law_1890 rfl h1 ?_
  refine w_aload_n 2 dL_law_1893 rfl rfl rfl ?_
  refine s_arg 1 hz hi hL (by decide) dL_law_1894 dL_law_1895 dL_law_1896 (by decide) dL_law_1897 dL_law_1898 rfl ?_
  refine s_arg 2 hz hi hL (by decide) dL_law_1899 dL_law_1900 dL_law_1901 (by decide) dL_law_1902 dL_law_1903 rfl ?_
  refine s_arg 3 hz hi hL (by decide) dL_law_1904 dL_law_1905 dL_law_1906 (by decide) dL_law_1907 dL_law_1908 rfl ?_
  refine k_X12_tell ml_RL_257 (Nat.le_of_ble_eq_true rfl) ⟨Nat.le_of_ble_eq_true rfl, Nat.le_of_ble_eq_true rfl⟩ dL_law_1909 rfl h2 ?_
  refine w_icmp_eq (tgt := 2287) dL_law_1912 (by decide) rfl (fun _ => ?_) (fun q => absurd he q)
  exact h
theorem g_law_59 {Γ : CX} {b L i : Nat} {z : Nat → Int32} {σ s1 s2 : St} {r1 r2 : Int32} (hz : SCR Γ b L z) (hi : i + 6 ≤ L) (hL : L < 2 ^ 31) (h1 : f_X11_needs (z (i + 1)) (z (i + 2)) σ = some (r1, s1)) (h2 : f_X12_needs_ (z (i + 1)) (z (i + 2)) s1 = some (r2, s2)) (he : r1 = r2) (h : WW Γ cL_law 4 RL ret room_1 s2 2287 [(0, .ref b), (1, .ref (xd Γ 0)), (2, .ref (xd Γ 58)), (3, .int (nI i))] []) : WW Γ cL_law 4 RL ret room_1 σ 1917 [(0, .ref b), (1, .ref (xd Γ 0)), (2, .ref (xd Γ 58)), (3, .int (nI i))] [] := by
  refine w_aload_n 1 dL_law_1917 rfl rfl rfl ?_
  refine s_arg 1 hz hi hL (by decide) dL_law_1918 dL_law_1919 dL_law_1920 (by decide) dL_law_1921 dL_law_1922 rfl ?_
  refine s_arg 2 hz hi hL (by decide) dL_law_1923 dL_law_1924 dL_law_1925 (by decide) dL_law_1926 dL_law_1927 rfl ?_
  refine k_X11_needs ml_RL_258 (Nat.le_of_ble_eq_true rfl) ⟨Nat.le_of_ble_eq_true rfl, Nat.le_of_ble_eq_true rfl⟩ dL_law_1928 rfl h1 ?_
  refine w_aload_n 2 dL_law_1931 rfl rfl rfl ?_
  refine s_arg 1 hz hi hL (by decide) dL_law_1932 dL_law_1933 dL_law_1934 (by decide) dL_law_1935 dL_law_1936 rfl ?_
  refine s_arg 2 hz hi hL (by decide) dL_law_1937 dL_law_1938 dL_law_1939 (by decide) dL_law_1940 dL_law_1941 rfl ?_
  refine k_X12_needs_ ml_RL_261 (Nat.le_of_ble_eq_true rfl) ⟨Nat.le_of_ble_eq_true rfl, Nat.le_of_ble_eq_true rfl⟩ dL_law_1942 rfl h2 ?_
  refine w_icmp_eq (tgt := 2287) dL_law_1945 (by decide) rfl (fun _ => ?_) (fun q => absurd he q)
  exact h
theorem g_law_60 {Γ : CX} {b L i : Nat} {z : Nat → Int32} {σ s1 s2 : St} {r1 r2 : Int32} (hz : SCR Γ b L z) (hi : i + 6 ≤ L) (hL : L < 2 ^ 31) (h1 : f_X11_undo σ = some (r1, s1)) (h2 : f_X12_undo s1 = some (r2, s2)) (he : r1 = r2) (h : WW Γ cL_law 4 RL ret room_1 s2 2287 [(0, .ref b), (1, .ref (xd Γ 0)), (2, .ref (xd Γ 58)), (3, .int (nI i))] []) : WW Γ cL_law 4 RL ret room_1 σ 1950 [(0, .ref b), (1, .ref (xd Γ 0)), (2, .ref (xd Γ 58)), (3, .int (nI i))] [] := by
  refine w_aload_n 1 dL_law_1950 rfl rfl rfl ?_
  refine k_X11_undo ml_RL_262 (Nat.le_of_ble_eq_true rfl) ⟨Nat.le_of_ble_eq_true rfl, Nat.le_of_ble_eq_true rfl⟩ dL_law_1951 rfl h1 ?_
  refine w_aload_n 2 dL_law_1954 rfl rfl rfl ?_
  refine k_X12_undo ml_RL_265 (Nat.le_of_ble_eq_true rfl) ⟨Nat.le_of_ble_eq_true rfl, Nat.le_of_ble_eq_true rfl⟩ dL_law_1955 rfl h2 ?_
  refine w_icmp_eq (tgt := 2287) dL_law_1958 (by decide) rfl (fun _ => ?_) (fun q => absurd he q)
  exact h
theorem g_law_61 {Γ : CX} {b L i : Nat} {z : Nat → Int32} {σ s1 s2 : St} {r1 r2 : Int32} (hz : SCR Γ b L z) (hi : i + 6 ≤ L) (hL : L < 2 ^ 31) (h1 : f_X11_drawn (z (i + 1)) (z (i + 2)) σ = some (r1, s1)) (h2 : f_X12_drawn (z (i + 1)) (z (i + 2)) s1 = some (r2, s2)) (he : r1 = r2) (h : WW Γ cL_law 4 RL ret room_1 s2 2287 [(0, .ref b), (1, .ref (xd Γ 0)), (2, .ref (xd Γ 58)), (3, .int (nI i))] []) : WW Γ cL_law 4 RL ret room_1 σ 1963 [(0, .ref b), (1, .ref (xd Γ 0)), (2, .ref (xd Γ 58)), (3, .int (nI i))] [] := by
  refine w_aload_n 1 dL_law_1963 rfl rfl rfl ?_
  refine s_arg 1 hz hi hL (by decide) dL_law_1964 dL_law_1965 dL_law_1966 (by decide) dL_law_1967 dL_law_1968 rfl ?_
  refine s_arg 2 hz hi hL (by decide) dL_law_1969 dL_law_1970 dL_law_1971 (by decide) dL_law_1972 dL_law_1973 rfl ?_
  refine k_X11_drawn ml_RL_266 (Nat.le_of_ble_eq_true rfl) ⟨Nat.le_of_ble_eq_true rfl, Nat.le_of_ble_eq_true rfl⟩ dL_law_1974 rfl h1 ?_
  refine w_aload_n 2 dL_law_1977 rfl rfl rfl ?_
  refine s_arg 1 hz hi hL (by decide) dL_law_1978 dL_law_1979 dL_law_1980 (by decide) dL_law_1981 dL_law_1982 rfl ?_
  refine s_arg 2 hz hi hL (by decide) dL_law_1983 dL_law_1984 dL_law_1985 (by decide) dL_law_1986 dL_law_1987 rfl ?_
  refine k_X12_drawn ml_RL_269 (Nat.le_of_ble_eq_true rfl) ⟨Nat.le_of_ble_eq_true rfl, Nat.le_of_ble_eq_true rfl⟩ dL_law_1988 rfl h2 ?_
  refine w_icmp_eq (tgt := 2287) dL_law_1991 (by decide) rfl (fun _ => ?_) (fun q => absurd he q)
  exact h
theorem g_law_62 {Γ : CX} {b L i : Nat} {z : Nat → Int32} {σ s1 s2 : St} {r1 r2 : Int32} (hz : SCR Γ b L z) (hi : i + 6 ≤ L) (hL : L < 2 ^ 31) (h1 : f_X11_luck (z (i + 1)) (z (i + 2)) (z (i + 3)) σ = some (r1, s1)) (h2 : f_X12_luck (z (i + 1)) (z (i + 2)) (z (i + 3)) s1 = some (r2, s2)) (he : r1 = r2) (h : WW Γ cL_law 4 RL ret room_1 s2 2287 [(0, .ref b), (1, .ref (xd Γ 0)), (2, .ref (xd Γ 58)), (3, .int (nI i))] []) : WW Γ cL_law 4 RL ret room_1 σ 1996 [(0, .ref b), (1, .ref (xd Γ 0)), (2, .ref (xd Γ 58)), (3, .int (nI i))] [] := by
  refine w_aload_n 1 dL_law_1996 rfl rfl rfl ?_
  refine s_arg 1 hz hi hL (by decide) dL_law_1997 dL_law_1998 dL_law_1999 (by decide) dL_law_2000 dL_law_2001 rfl ?_
  refine s_arg 2 hz hi hL (by decide) dL_law_2002 dL_law_2003 dL_law_2004 (by decide) dL_law_2005 dL_law_2006 rfl ?_
  refine s_arg 3 hz hi hL (by decide) dL_law_2007 dL_law_2008 dL_law_2009 (by decide) dL_law_2010 dL_law_2011 rfl ?_
  refine k_X11_luck ml_RL_270 (Nat.le_of_ble_eq_true rfl) ⟨Nat.le_of_ble_eq_true rfl, Nat.le_of_ble_eq_true rfl⟩ dL_law_2012 rfl h1 ?_
  refine w_aload_n 2 dL_law_2015 rfl rfl rfl ?_
  refine s_arg 1 hz hi hL (by decide) dL_law_2016 dL_law_2017 dL_law_2018 (by decide) dL_law_2019 dL_law_2020 rfl ?_
  refine s_arg 2 hz hi hL (by decide) dL_law_2021 dL_law_2022 dL_law_2023 (by decide) dL_law_2024 dL_law_2025 rfl ?_
  refine s_arg 3 hz hi hL (by decide) dL_law_2026 dL_law_2027 dL_law_2028 (by decide) dL_law_2029 dL_law_2030 rfl ?_
  refine k_X12_luck ml_RL_273 (Nat.le_of_ble_eq_true rfl) ⟨Nat.le_of_ble_eq_true rfl, Nat.le_of_ble_eq_true rfl⟩ dL_law_2031 rfl h2 ?_
  refine w_icmp_eq (tgt := 2287) dL_law_2034 (by decide) rfl (fun _ => ?_) (fun q => absurd he q)
  exact h
theorem g_law_63 {Γ : CX} {b L i : Nat} {z : Nat → Int32} {σ s1 s2 : St} {r1 r2 : Int32} (hz : SCR Γ b L z) (hi : i + 6 ≤ L) (hL : L < 2 ^ 31) (h1 : f_X11_count (z (i + 1)) σ = some (r1, s1)) (h2 : f_X12_count (z (i + 1)) s1 = some (r2, s2)) (he : r1 = r2) (h : WW Γ cL_law 4 RL ret room_1 s2 2287 [(0, .ref b), (1, .ref (xd Γ 0)), (2, .ref (xd Γ 58)), (3, .int (nI i))] []) : WW Γ cL_law 4 RL ret room_1 σ 2039 [(0, .ref b), (1, .ref (xd Γ 0)), (2, .ref (xd Γ 58)), (3, .int (nI i))] [] := by
  refine w_aload_n 1 dL_law_2039 rfl rfl rfl ?_
  refine s_arg 1 hz hi hL (by decide) dL_law_2040 dL_law_2041 dL_law_2042 (by decide) dL_law_2043 dL_law_2044 rfl ?_
  refine k_X11_count ml_RL_274 (Nat.le_of_ble_eq_true rfl) ⟨Nat.le_of_ble_eq_true rfl, Nat.le_of_ble_eq_true rfl⟩ dL_law_2045 rfl h1 ?_
  refine w_aload_n 2 dL_law_2048 rfl rfl rfl ?_
  refine s_arg 1 hz hi hL (by decide) dL_law_2049 dL_law_2050 dL_law_2051 (by decide) dL_law_2052 dL_law_2053 rfl ?_
  refine k_X12_count ml_RL_277 (Nat.le_of_ble_eq_true rfl) ⟨Nat.le_of_ble_eq_true rfl, Nat.le_of_ble_eq_true rfl⟩ dL_law_2054 rfl h2 ?_
  refine w_icmp_eq (tgt := 2287) dL_law_2057 (by decide) rfl (fun _ => ?_) (fun q => absurd he q)
  exact h
theorem g_law_64 {Γ : CX} {b L i : Nat} {z : Nat → Int32} {σ s1 s2 : St} {r1 r2 : Int32} (hz : SCR Γ b L z) (hi : i + 6 ≤ L) (hL : L < 2 ^ 31) (hM : MI σ) (hn : gn σ ≤ 60) (hR2 : xk Γ + 14 ≤ room_1.cells ∧ xn Γ + 325 ≤ room_1.slots) (h1 : f_X11_image (z (i + 1)) σ = some (r1, s1)) (h2 : f_X12_image (z (i + 1)) s1 = some (r2, s2)) (he : r1 = r2) (h : ∀ ad' : Nat → Nat, (∀ j, j < nA σ ∨ 1000 ≤ j → ad' j = xd Γ j) → WW (bump (setAd Γ ad') 14 325) cL_law 4 RL ret room_1 s2 2287 [(0, .ref b), (1, .ref (ad' 0)), (2, .ref (ad' 58)), (3, .int (nI i))] []) : WW Γ cL_law 4 RL ret room_1 σ 2062 [(0, .ref b), (1, .ref (xd Γ 0)), (2, .ref (xd Γ 58)), (3, .int (nI i))] [] := by
  refine w_aload_n 1 dL_law_2062 rfl rfl rfl ?_
  refine s_arg 1 hz hi hL (by decide) dL_law_2063 dL_law_2064 dL_law_2065 (by decide) dL_law_2066 dL_law_2067 rfl ?_
  refine k_X11_image hM hn ml_RL_278 (Nat.le_of_ble_eq_true rfl) ⟨Nat.le_of_ble_eq_true rfl, Nat.le_of_ble_eq_true rfl⟩ hR2 dL_law_2068 rfl h1 (fun ad' had => ?_)
  have e0 : xd Γ 0 = ad' 0 := (had 0 (Or.inl (lt_lit (by decide)))).symm
  have e58 : xd Γ 58 = ad' 58 := (had 58 (Or.inl (lt_lit (by decide)))).symm
  rw [e0, e58]
  replace h := h ad' had
  refine w_aload_n 2 dL_law_2071 rfl rfl rfl ?_
  refine s_arg 1 hz hi hL (by decide) dL_law_2072 dL_law_2073 dL_law_2074 (by decide) dL_law_2075 dL_law_2076 rfl ?_
  refine k_X12_image ml_RL_281 (Nat.le_of_ble_eq_true rfl) ⟨Nat.le_of_ble_eq_true rfl, Nat.le_of_ble_eq_true rfl⟩ dL_law_2077 rfl h2 ?_
  refine w_icmp_eq (tgt := 2287) dL_law_2080 (by decide) rfl (fun _ => ?_) (fun q => absurd he q)
  exact h
theorem g_law_65 {Γ : CX} {b L i : Nat} {z : Nat → Int32} {σ s1 s2 : St} {r1 r2 : Int32} (hz : SCR Γ b L z) (hi : i + 6 ≤ L) (hL : L < 2 ^ 31) (h1 : f_X11_back (z (i + 1)) σ = some (r1, s1)) (h2 : f_X12_back (z (i + 1)) s1 = some (r2, s2)) (he : r1 = r2) (h : WW Γ cL_law 4 RL ret room_1 s2 2287 [(0, .ref b), (1, .ref (xd Γ 0)), (2, .ref (xd Γ 58)), (3, .int (nI i))] []) : WW Γ cL_law 4 RL ret room_1 σ 2085 [(0, .ref b), (1, .ref (xd Γ 0)), (2, .ref (xd Γ 58)), (3, .int (nI i))] [] := by
  refine w_aload_n 1 dL_law_2085 rfl rfl rfl ?_
  refine s_arg 1 hz hi hL (by decide) dL_law_2086 dL_law_2087 dL_law_2088 (by decide) dL_law_2089 dL_law_2090 rfl ?_
  refine k_X11_back ml_RL_282 (Nat.le_of_ble_eq_true rfl) ⟨Nat.le_of_ble_eq_true rfl, Nat.le_of_ble_eq_true rfl⟩ dL_law_2091 rfl h1 ?_
  refine w_aload_n 2 dL_law_2094 rfl rfl rfl ?_
  refine s_arg 1 hz hi hL (by decide) dL_law_2095 dL_law_2096 dL_law_2097 (by decide) dL_law_2098 dL_law_2099 rfl ?_
  refine k_X12_back ml_RL_285 (Nat.le_of_ble_eq_true rfl) ⟨Nat.le_of_ble_eq_true rfl, Nat.le_of_ble_eq_true rfl⟩ dL_law_2100 rfl h2 ?_
  refine w_icmp_eq (tgt := 2287) dL_law_2103 (by decide) rfl (fun _ => ?_) (fun q => absurd he q)
  exact h
theorem g_law_66 {Γ : CX} {b L i : Nat} {z : Nat → Int32} {σ s1 s2 : St} {r1 r2 : Int32} (hz : SCR Γ b L z) (hi : i + 6 ≤ L) (hL : L < 2 ^ 31) (h1 : f_X11_row (z (i + 1)) (z (i + 2)) (z (i + 3)) σ = some (r1, s1)) (h2 : f_X12_row (z (i + 1)) (z (i + 2)) (z (i + 3)) s1 = some (r2, s2)) (he : r1 = r2) (h : WW Γ cL_law 4 RL ret room_1 s2 2287 [(0, .ref b), (1, .ref (xd Γ 0)), (2, .ref (xd Γ 58)), (3, .int (nI i))] []) : WW Γ cL_law 4 RL ret room_1 σ 2108 [(0, .ref b), (1, .ref (xd Γ 0)), (2, .ref (xd Γ 58)), (3, .int (nI i))] [] := by
  refine w_aload_n 1 dL_law_2108 rfl rfl rfl ?_
  refine s_arg 1 hz hi hL (by decide) dL_law_2109 dL_law_2110 dL_law_2111 (by decide) dL_law_2112 dL_law_2113 rfl ?_
  refine s_arg 2 hz hi hL (by decide) dL_law_2114 dL_law_2115 dL_law_2116 (by decide) dL_law_2117 dL_law_2118 rfl ?_
  refine s_arg 3 hz hi hL (by decide) dL_law_2119 dL_law_2120 dL_law_2121 (by decide) dL_law_2122 dL_law_2123 rfl ?_
  refine k_X11_row ml_RL_286 (Nat.le_of_ble_eq_true rfl) ⟨Nat.le_of_ble_eq_true rfl, Nat.le_of_ble_eq_true rfl⟩ dL_law_2124 rfl h1 ?_
  refine w_aload_n 2 dL_law_2127 rfl rfl rfl ?_
  refine s_arg 1 hz hi hL (by decide) dL_law_2128 dL_law_2129 dL_law_2130 (by decide) dL_law_2131 dL_law_2132 rfl ?_
  refine s_arg 2 hz hi hL (by decide) dL_law_2133 dL_law_2134 dL_law_2135 (by decide) dL_law_2136 dL_law_2137 rfl ?_
  refine s_arg 3 hz hi hL (by decide) dL_law_2138 dL_law_2139 dL_law_2140 (by decide) dL_law_2141 dL_law_2142 rfl ?_
  refine k_X12_row ml_RL_289 (Nat.le_of_ble_eq_true rfl) ⟨Nat.le_of_ble_eq_true rfl, Nat.le_of_ble_eq_true rfl⟩ dL_law_2143 rfl h2 ?_
  refine w_icmp_eq (tgt := 2287) dL_law_2146 (by decide) rfl (fun _ => ?_) (fun q => absurd he q)
  exact h
theorem g_law_67 {Γ : CX} {b L i : Nat} {z : Nat → Int32} {σ s1 s2 : St} {r1 r2 : Int32} (hz : SCR Γ b L z) (hi : i + 6 ≤ L) (hL : L < 2 ^ 31) (h1 : f_X11_write (z (i + 1)) (z (i + 2)) (((z (i + 3)).toInt64 <<< ((32 : Int32).toInt64 &&& 63)) ||| ((z (i + 4)).toInt64 &&& (4294967295 : Int64))) σ = some (r1, s1)) (h2 : f_X12_write (z (i + 1)) (z (i + 2)) (((z (i + 3)).toInt64 <<< ((32 : Int32).toInt64 &&& 63)) ||| ((z (i + 4)).toInt64 &&& (4294967295 : Int64))) s1 = some (r2, s2)) (he : r1 = r2) (h : WW Γ cL_law 4 RL ret room_1 s2 2287 [(0, .ref b), (1, .ref (xd Γ 0)), (2, .ref (xd Γ 58)), (3, .int (nI i))] []) : WW Γ cL_law 4 RL ret room_1 σ 2151 [(0, .ref b), (1, .ref (xd Γ 0)), (2, .ref (xd Γ 58)), (3, .int (nI i))] [] := by
  refine w_aload_n 1 dL_law_2151 rfl rfl rfl ?_
  refine s_arg 1 hz hi hL (by decide) dL_law_2152 dL_law_2153 dL_law_2154 (by decide) dL_law_2155 dL_law_2156 rfl ?_
  refine s_arg 2 hz hi hL (by decide) dL_law_2157 dL_law_2158 dL_law_2159 (by decide) dL_law_2160 dL_law_2161 rfl ?_
  refine s_arg 3 hz hi hL (by decide) dL_law_2162 dL_law_2163 dL_law_2164 (by decide) dL_law_2165 dL_law_2166 rfl ?_
  refine w_i2l dL_law_2167 rfl ?_
  refine w_bipush (32 : Int32) dL_law_2168 ic_bipush_32 rfl ?_
  refine w_lshl dL_law_2170 rfl ?_
  refine s_arg 4 hz hi hL (by decide) dL_law_2171 dL_law_2172 dL_law_2173 (by decide) dL_law_2174 dL_law_2175 rfl ?_
  refine w_i2l dL_law_2176 rfl ?_
  refine w_ldc2_w (4294967295 : Int64) dL_law_2177 cl_RL_290 rfl ?_
  refine w_land dL_law_2180 rfl ?_
  refine w_lor dL_law_2181 rfl ?_
  refine k_X11_write ml_RL_292 (Nat.le_of_ble_eq_true rfl) ⟨Nat.le_of_ble_eq_true rfl, Nat.le_of_ble_eq_true rfl⟩ dL_law_2182 rfl h1 ?_
  refine w_aload_n 2 dL_law_2185 rfl rfl rfl ?_
  refine s_arg 1 hz hi hL (by decide) dL_law_2186 dL_law_2187 dL_law_2188 (by decide) dL_law_2189 dL_law_2190 rfl ?_
  refine s_arg 2 hz hi hL (by decide) dL_law_2191 dL_law_2192 dL_law_2193 (by decide) dL_law_2194 dL_law_2195 rfl ?_
  refine s_arg 3 hz hi hL (by decide) dL_law_2196 dL_law_2197 dL_law_2198 (by decide) dL_law_2199 dL_law_2200 rfl ?_
  refine w_i2l dL_law_2201 rfl ?_
  refine w_bipush (32 : Int32) dL_law_2202 ic_bipush_32 rfl ?_
  refine w_lshl dL_law_2204 rfl ?_
  refine s_arg 4 hz hi hL (by decide) dL_law_2205 dL_law_2206 dL_law_2207 (by decide) dL_law_2208 dL_law_2209 rfl ?_
  refine w_i2l dL_law_2210 rfl ?_
  refine w_ldc2_w (4294967295 : Int64) dL_law_2211 cl_RL_290 rfl ?_
  refine w_land dL_law_2214 rfl ?_
  refine w_lor dL_law_2215 rfl ?_
  refine k_X12_write ml_RL_296 (Nat.le_of_ble_eq_true rfl) ⟨Nat.le_of_ble_eq_true rfl, Nat.le_of_ble_eq_true rfl⟩ dL_law_2216 rfl h2 ?_
  refine w_icmp_eq (tgt := 2287) dL_law_2219 (by decide) rfl (fun _ => ?_) (fun q => absurd he q)
  exact h
theorem g_law_68 {Γ : CX} {b L i : Nat} {z : Nat → Int32} {σ s1 s2 : St} {r1 r2 : Int32} (hz : SCR Γ b L z) (hi : i + 6 ≤ L) (hL : L < 2 ^ 31) (h1 : f_X11_paste (z (i + 1)) (z (i + 2)) (z (i + 3)) (z (i + 4)) (z (i + 5)) σ = some (r1, s1)) (h2 : f_X12_paste (z (i + 1)) (z (i + 2)) (z (i + 3)) (z (i + 4)) (z (i + 5)) s1 = some (r2, s2)) (he : r1 = r2) (h : WW Γ cL_law 4 RL ret room_1 s2 2287 [(0, .ref b), (1, .ref (xd Γ 0)), (2, .ref (xd Γ 58)), (3, .int (nI i))] []) : WW Γ cL_law 4 RL ret room_1 σ 2224 [(0, .ref b), (1, .ref (xd Γ 0)), (2, .ref (xd Γ 58)), (3, .int (nI i))] [] := by
  refine w_aload_n 1 dL_law_2224 rfl rfl rfl ?_
  refine s_arg 1 hz hi hL (by decide) dL_law_2225 dL_law_2226 dL_law_2227 (by decide) dL_law_2228 dL_law_2229 rfl ?_
  refine s_arg 2 hz hi hL (by decide) dL_law_2230 dL_law_2231 dL_law_2232 (by decide) dL_law_2233 dL_law_2234 rfl ?_
  refine s_arg 3 hz hi hL (by decide) dL_law_2235 dL_law_2236 dL_law_2237 (by decide) dL_law_2238 dL_law_2239 rfl ?_
  refine s_arg 4 hz hi hL (by decide) dL_law_2240 dL_law_2241 dL_law_2242 (by decide) dL_law_2243 dL_law_2244 rfl ?_
  refine s_arg 5 hz hi hL (by decide) dL_law_2245 dL_law_2246 dL_law_2247 (by decide) dL_law_2248 dL_law_2249 rfl ?_
  refine k_X11_paste ml_RL_297 (Nat.le_of_ble_eq_true rfl) ⟨Nat.le_of_ble_eq_true rfl, Nat.le_of_ble_eq_true rfl⟩ dL_law_2250 rfl h1 ?_
  refine w_aload_n 2 dL_law_2253 rfl rfl rfl ?_
  refine s_arg 1 hz hi hL (by decide) dL_law_2254 dL_law_2255 dL_law_2256 (by decide) dL_law_2257 dL_law_2258 rfl ?_
  refine s_arg 2 hz hi hL (by decide) dL_law_2259 dL_law_2260 dL_law_2261 (by decide) dL_law_2262 dL_law_2263 rfl ?_
  refine s_arg 3 hz hi hL (by decide) dL_law_2264 dL_law_2265 dL_law_2266 (by decide) dL_law_2267 dL_law_2268 rfl ?_
  refine s_arg 4 hz hi hL (by decide) dL_law_2269 dL_law_2270 dL_law_2271 (by decide) dL_law_2272 dL_law_2273 rfl ?_
  refine s_arg 5 hz hi hL (by decide) dL_law_2274 dL_law_2275 dL_law_2276 (by decide) dL_law_2277 dL_law_2278 rfl ?_
  refine k_X12_paste ml_RL_300 (Nat.le_of_ble_eq_true rfl) ⟨Nat.le_of_ble_eq_true rfl, Nat.le_of_ble_eq_true rfl⟩ dL_law_2279 rfl h2 ?_
  refine w_icmp_eq (tgt := 2287) dL_law_2282 (by decide) rfl (fun _ => ?_) (fun q => absurd he q)
  exact h
