/-! ===== the law: links, script, cases ===== -/
theorem w_pop2 {Γ : CX} {cc : ByteArray} {nL : Nat} {own : String} {ret : Option FieldType} {rm : Room} {ws : va_W} {pc pc' : Nat} {lv : List (Nat × Value)} {st : List Value} {v : Value} (hd : decode cc pc = .ok (.pop2, 1)) (hc : v.category = 2) (hp : pc + 1 = pc') (h : WL Γ cc nL own ret rm ws pc' lv st) : WL Γ cc nL own ret rm ws pc lv (v :: st) := by
  subst hp
  exact fun X H locs ls hP hD hS hl => lv_pop2_2 X.1 X.2.1 hd hc (h X H locs ls hP hD hS hl)
theorem ic_bipush_127 : (Int8.ofInt (127)).toInt32 = (127 : Int32) := by decide
theorem ml_RL_9 : Cond.methodLink RL 9 yX11_init ∈ TB := tb_m (bk_1 (List.mem_of_getElem? (i := 24) rfl)) rfl
set_option maxRecDepth 8000 in
theorem ml_RL_12 : Cond.methodLink RL 12 yX12_init ∈ TB := tb_m (bk_6 (List.mem_of_getElem? (i := 124) rfl)) rfl
theorem ml_RL_13 : Cond.methodLink RL 13 yX11_feed ∈ TB := tb_m (bk_2 (List.mem_of_getElem? (i := 106) rfl)) rfl
set_option maxRecDepth 8000 in
theorem ml_RL_17 : Cond.methodLink RL 17 yX12_feed ∈ TB := tb_m (bk_6 (List.mem_of_getElem? (i := 236) rfl)) rfl
theorem ml_RL_18 : Cond.methodLink RL 18 yX11_end ∈ TB := tb_m (bk_2 (List.mem_of_getElem? (i := 118) rfl)) rfl
theorem ml_RL_22 : Cond.methodLink RL 22 yX12_end ∈ TB := tb_m (bk_7 (List.mem_of_getElem? (i := 0) rfl)) rfl
set_option maxRecDepth 8000 in
theorem ml_RL_23 : Cond.methodLink RL 23 yX11_war ∈ TB := tb_m (bk_2 (List.mem_of_getElem? (i := 126) rfl)) rfl
theorem ml_RL_27 : Cond.methodLink RL 27 yX12_war ∈ TB := tb_m (bk_7 (List.mem_of_getElem? (i := 8) rfl)) rfl
theorem ml_RL_28 : Cond.methodLink RL 28 yX11_fault ∈ TB := tb_m (bk_3 (List.mem_of_getElem? (i := 76) rfl)) rfl
theorem ml_RL_31 : Cond.methodLink RL 31 yX12_fault ∈ TB := tb_m (bk_7 (List.mem_of_getElem? (i := 4) rfl)) rfl
theorem ml_RL_32 : Cond.methodLink RL 32 yX11_train ∈ TB := tb_m (bk_3 (List.mem_of_getElem? (i := 80) rfl)) rfl
theorem ml_RL_36 : Cond.methodLink RL 36 yX12_train ∈ TB := tb_m (bk_7 (List.mem_of_getElem? (i := 109) rfl)) rfl
theorem ml_RL_37 : Cond.methodLink RL 37 yX11_need ∈ TB := tb_m (bk_3 (List.mem_of_getElem? (i := 85) rfl)) rfl
set_option maxRecDepth 8000 in
theorem ml_RL_40 : Cond.methodLink RL 40 yX12_need ∈ TB := tb_m (bk_7 (List.mem_of_getElem? (i := 122) rfl)) rfl
theorem ml_RL_41 : Cond.methodLink RL 41 yX11_tea ∈ TB := tb_m (bk_3 (List.mem_of_getElem? (i := 101) rfl)) rfl
set_option maxRecDepth 8000 in
theorem ml_RL_44 : Cond.methodLink RL 44 yX12_tea ∈ TB := tb_m (bk_7 (List.mem_of_getElem? (i := 134) rfl)) rfl
theorem ml_RL_45 : Cond.methodLink RL 45 yX11_cannon ∈ TB := tb_m (bk_3 (List.mem_of_getElem? (i := 111) rfl)) rfl
set_option maxRecDepth 8000 in
theorem ml_RL_48 : Cond.methodLink RL 48 yX12_cannon ∈ TB := tb_m (bk_7 (List.mem_of_getElem? (i := 142) rfl)) rfl
theorem ml_RL_49 : Cond.methodLink RL 49 yX11_rule ∈ TB := tb_m (bk_3 (List.mem_of_getElem? (i := 115) rfl)) rfl
set_option maxRecDepth 8000 in
theorem ml_RL_52 : Cond.methodLink RL 52 yX12_rule ∈ TB := tb_m (bk_7 (List.mem_of_getElem? (i := 147) rfl)) rfl
theorem ml_RL_53 : Cond.methodLink RL 53 yX11_spy ∈ TB := tb_m (bk_3 (List.mem_of_getElem? (i := 119) rfl)) rfl
set_option maxRecDepth 8000 in
theorem ml_RL_56 : Cond.methodLink RL 56 yX12_spy ∈ TB := tb_m (bk_7 (List.mem_of_getElem? (i := 151) rfl)) rfl
set_option maxRecDepth 8000 in
theorem ml_RL_57 : Cond.methodLink RL 57 yX11_men ∈ TB := tb_m (bk_3 (List.mem_of_getElem? (i := 123) rfl)) rfl
set_option maxRecDepth 8000 in
theorem ml_RL_61 : Cond.methodLink RL 61 yX12_men ∈ TB := tb_m (bk_7 (List.mem_of_getElem? (i := 155) rfl)) rfl
set_option maxRecDepth 8000 in
theorem ml_RL_62 : Cond.methodLink RL 62 yX11_front ∈ TB := tb_m (bk_3 (List.mem_of_getElem? (i := 150) rfl)) rfl
set_option maxRecDepth 8000 in
theorem ml_RL_65 : Cond.methodLink RL 65 yX12_front ∈ TB := tb_m (bk_7 (List.mem_of_getElem? (i := 182) rfl)) rfl
set_option maxRecDepth 8000 in
theorem ml_RL_66 : Cond.methodLink RL 66 yX11_late ∈ TB := tb_m (bk_3 (List.mem_of_getElem? (i := 171) rfl)) rfl
set_option maxRecDepth 8000 in
theorem ml_RL_69 : Cond.methodLink RL 69 yX12_late ∈ TB := tb_m (bk_7 (List.mem_of_getElem? (i := 190) rfl)) rfl
set_option maxRecDepth 8000 in
theorem ml_RL_70 : Cond.methodLink RL 70 yX11_wins ∈ TB := tb_m (bk_3 (List.mem_of_getElem? (i := 180) rfl)) rfl
set_option maxRecDepth 8000 in
theorem ml_RL_73 : Cond.methodLink RL 73 yX12_wins ∈ TB := tb_m (bk_7 (List.mem_of_getElem? (i := 198) rfl)) rfl
set_option maxRecDepth 8000 in
theorem ml_RL_74 : Cond.methodLink RL 74 yX11_peak ∈ TB := tb_m (bk_3 (List.mem_of_getElem? (i := 194) rfl)) rfl
set_option maxRecDepth 8000 in
theorem ml_RL_77 : Cond.methodLink RL 77 yX12_peak ∈ TB := tb_m (bk_7 (List.mem_of_getElem? (i := 210) rfl)) rfl
set_option maxRecDepth 8000 in
theorem ml_RL_78 : Cond.methodLink RL 78 yX11_swings ∈ TB := tb_m (bk_3 (List.mem_of_getElem? (i := 205) rfl)) rfl
set_option maxRecDepth 8000 in
theorem ml_RL_81 : Cond.methodLink RL 81 yX12_swings ∈ TB := tb_m (bk_7 (List.mem_of_getElem? (i := 217) rfl)) rfl
set_option maxRecDepth 8000 in
theorem ml_RL_82 : Cond.methodLink RL 82 yX11_worst ∈ TB := tb_m (bk_3 (List.mem_of_getElem? (i := 213) rfl)) rfl
set_option maxRecDepth 8000 in
theorem ml_RL_85 : Cond.methodLink RL 85 yX12_worst ∈ TB := tb_m (bk_7 (List.mem_of_getElem? (i := 234) rfl)) rfl
theorem ml_RL_86 : Cond.methodLink RL 86 yX11_by ∈ TB := tb_m (bk_4 (List.mem_of_getElem? (i := 30) rfl)) rfl
theorem ml_RL_89 : Cond.methodLink RL 89 yX12_by ∈ TB := tb_m (bk_8 (List.mem_of_getElem? (i := 6) rfl)) rfl
theorem ml_RL_90 : Cond.methodLink RL 90 yX11_ways ∈ TB := tb_m (bk_4 (List.mem_of_getElem? (i := 34) rfl)) rfl
theorem ml_RL_93 : Cond.methodLink RL 93 yX12_ways ∈ TB := tb_m (bk_8 (List.mem_of_getElem? (i := 10) rfl)) rfl
theorem ml_RL_94 : Cond.methodLink RL 94 yX11_idle ∈ TB := tb_m (bk_4 (List.mem_of_getElem? (i := 46) rfl)) rfl
theorem ml_RL_97 : Cond.methodLink RL 97 yX12_idle ∈ TB := tb_m (bk_8 (List.mem_of_getElem? (i := 14) rfl)) rfl
theorem ml_RL_98 : Cond.methodLink RL 98 yX11_enough ∈ TB := tb_m (bk_4 (List.mem_of_getElem? (i := 58) rfl)) rfl
theorem ml_RL_102 : Cond.methodLink RL 102 yX12_enough ∈ TB := tb_m (bk_8 (List.mem_of_getElem? (i := 18) rfl)) rfl
theorem ml_RL_103 : Cond.methodLink RL 103 yX11_chance ∈ TB := tb_m (bk_4 (List.mem_of_getElem? (i := 105) rfl)) rfl
theorem ml_RL_106 : Cond.methodLink RL 106 yX12_chance ∈ TB := tb_m (bk_8 (List.mem_of_getElem? (i := 37) rfl)) rfl
theorem ml_RL_107 : Cond.methodLink RL 107 yX11_send ∈ TB := tb_m (bk_4 (List.mem_of_getElem? (i := 118) rfl)) rfl
theorem ml_RL_110 : Cond.methodLink RL 110 yX12_send ∈ TB := tb_m (bk_8 (List.mem_of_getElem? (i := 41) rfl)) rfl
set_option maxRecDepth 8000 in
theorem ml_RL_111 : Cond.methodLink RL 111 yX11_sent ∈ TB := tb_m (bk_4 (List.mem_of_getElem? (i := 150) rfl)) rfl
theorem ml_RL_114 : Cond.methodLink RL 114 yX12_sent ∈ TB := tb_m (bk_8 (List.mem_of_getElem? (i := 73) rfl)) rfl
set_option maxRecDepth 8000 in
theorem ml_RL_115 : Cond.methodLink RL 115 yX11_fewest ∈ TB := tb_m (bk_4 (List.mem_of_getElem? (i := 154) rfl)) rfl
theorem ml_RL_118 : Cond.methodLink RL 118 yX12_fewest ∈ TB := tb_m (bk_8 (List.mem_of_getElem? (i := 77) rfl)) rfl
set_option maxRecDepth 8000 in
theorem ml_RL_119 : Cond.methodLink RL 119 yX11_risk ∈ TB := tb_m (bk_4 (List.mem_of_getElem? (i := 162) rfl)) rfl
theorem ml_RL_122 : Cond.methodLink RL 122 yX12_risk ∈ TB := tb_m (bk_8 (List.mem_of_getElem? (i := 81) rfl)) rfl
set_option maxRecDepth 8000 in
theorem ml_RL_123 : Cond.methodLink RL 123 yX11_risked ∈ TB := tb_m (bk_4 (List.mem_of_getElem? (i := 174) rfl)) rfl
theorem ml_RL_126 : Cond.methodLink RL 126 yX12_risked ∈ TB := tb_m (bk_8 (List.mem_of_getElem? (i := 97) rfl)) rfl
set_option maxRecDepth 8000 in
theorem ml_RL_127 : Cond.methodLink RL 127 yX11_bribe ∈ TB := tb_m (bk_4 (List.mem_of_getElem? (i := 178) rfl)) rfl
theorem ml_RL_130 : Cond.methodLink RL 130 yX12_bribe ∈ TB := tb_m (bk_8 (List.mem_of_getElem? (i := 101) rfl)) rfl
set_option maxRecDepth 8000 in
theorem ml_RL_131 : Cond.methodLink RL 131 yX11_bribed ∈ TB := tb_m (bk_4 (List.mem_of_getElem? (i := 191) rfl)) rfl
theorem ml_RL_134 : Cond.methodLink RL 134 yX12_bribed ∈ TB := tb_m (bk_8 (List.mem_of_getElem? (i := 109) rfl)) rfl
set_option maxRecDepth 8000 in
theorem ml_RL_135 : Cond.methodLink RL 135 yX11_guard ∈ TB := tb_m (bk_4 (List.mem_of_getElem? (i := 195) rfl)) rfl
theorem ml_RL_138 : Cond.methodLink RL 138 yX12_guard ∈ TB := tb_m (bk_8 (List.mem_of_getElem? (i := 113) rfl)) rfl
set_option maxRecDepth 8000 in
theorem ml_RL_139 : Cond.methodLink RL 139 yX11_guarded ∈ TB := tb_m (bk_4 (List.mem_of_getElem? (i := 208) rfl)) rfl
set_option maxRecDepth 8000 in
theorem ml_RL_142 : Cond.methodLink RL 142 yX12_guarded ∈ TB := tb_m (bk_8 (List.mem_of_getElem? (i := 121) rfl)) rfl
set_option maxRecDepth 8000 in
theorem ml_RL_143 : Cond.methodLink RL 143 yX11_spoil ∈ TB := tb_m (bk_4 (List.mem_of_getElem? (i := 212) rfl)) rfl
set_option maxRecDepth 8000 in
theorem ml_RL_146 : Cond.methodLink RL 146 yX12_spoil ∈ TB := tb_m (bk_8 (List.mem_of_getElem? (i := 125) rfl)) rfl
set_option maxRecDepth 8000 in
theorem ml_RL_147 : Cond.methodLink RL 147 yX11_spoils ∈ TB := tb_m (bk_4 (List.mem_of_getElem? (i := 226) rfl)) rfl
set_option maxRecDepth 8000 in
theorem ml_RL_150 : Cond.methodLink RL 150 yX12_spoils ∈ TB := tb_m (bk_8 (List.mem_of_getElem? (i := 145) rfl)) rfl
set_option maxRecDepth 8000 in
theorem ml_RL_151 : Cond.methodLink RL 151 yX11_answer ∈ TB := tb_m (bk_4 (List.mem_of_getElem? (i := 230) rfl)) rfl
set_option maxRecDepth 8000 in
theorem ml_RL_154 : Cond.methodLink RL 154 yX12_answer ∈ TB := tb_m (bk_8 (List.mem_of_getElem? (i := 149) rfl)) rfl
theorem ml_RL_155 : Cond.methodLink RL 155 yX11_rests ∈ TB := tb_m (bk_5 (List.mem_of_getElem? (i := 10) rfl)) rfl
set_option maxRecDepth 8000 in
theorem ml_RL_158 : Cond.methodLink RL 158 yX12_rests ∈ TB := tb_m (bk_8 (List.mem_of_getElem? (i := 159) rfl)) rfl
theorem ml_RL_159 : Cond.methodLink RL 159 yX11_since ∈ TB := tb_m (bk_5 (List.mem_of_getElem? (i := 18) rfl)) rfl
set_option maxRecDepth 8000 in
theorem ml_RL_162 : Cond.methodLink RL 162 yX12_since ∈ TB := tb_m (bk_7 (List.mem_of_getElem? (i := 221) rfl)) rfl
theorem ml_RL_163 : Cond.methodLink RL 163 yX11_comes ∈ TB := tb_m (bk_5 (List.mem_of_getElem? (i := 22) rfl)) rfl
set_option maxRecDepth 8000 in
theorem ml_RL_166 : Cond.methodLink RL 166 yX12_comes ∈ TB := tb_m (bk_7 (List.mem_of_getElem? (i := 225) rfl)) rfl
theorem ml_RL_167 : Cond.methodLink RL 167 yX11_even ∈ TB := tb_m (bk_5 (List.mem_of_getElem? (i := 27) rfl)) rfl
set_option maxRecDepth 8000 in
theorem ml_RL_171 : Cond.methodLink RL 171 yX12_even ∈ TB := tb_m (bk_7 (List.mem_of_getElem? (i := 229) rfl)) rfl
theorem ml_RL_172 : Cond.methodLink RL 172 yX11_hold ∈ TB := tb_m (bk_5 (List.mem_of_getElem? (i := 32) rfl)) rfl
set_option maxRecDepth 8000 in
theorem ml_RL_175 : Cond.methodLink RL 175 yX12_hold ∈ TB := tb_m (bk_8 (List.mem_of_getElem? (i := 163) rfl)) rfl
theorem ml_RL_176 : Cond.methodLink RL 176 yX11_holds ∈ TB := tb_m (bk_5 (List.mem_of_getElem? (i := 51) rfl)) rfl
set_option maxRecDepth 8000 in
theorem ml_RL_179 : Cond.methodLink RL 179 yX12_holds ∈ TB := tb_m (bk_8 (List.mem_of_getElem? (i := 182) rfl)) rfl
theorem ml_RL_180 : Cond.methodLink RL 180 yX11_reply ∈ TB := tb_m (bk_5 (List.mem_of_getElem? (i := 58) rfl)) rfl
set_option maxRecDepth 8000 in
theorem ml_RL_183 : Cond.methodLink RL 183 yX12_reply ∈ TB := tb_m (bk_8 (List.mem_of_getElem? (i := 186) rfl)) rfl
theorem ml_RL_184 : Cond.methodLink RL 184 yX11_readings ∈ TB := tb_m (bk_5 (List.mem_of_getElem? (i := 62) rfl)) rfl
set_option maxRecDepth 8000 in
theorem ml_RL_187 : Cond.methodLink RL 187 yX12_readings ∈ TB := tb_m (bk_8 (List.mem_of_getElem? (i := 190) rfl)) rfl
theorem ml_RL_188 : Cond.methodLink RL 188 yX11_loopholes ∈ TB := tb_m (bk_5 (List.mem_of_getElem? (i := 84) rfl)) rfl
set_option maxRecDepth 8000 in
theorem ml_RL_192 : Cond.methodLink RL 192 yX12_loopholes ∈ TB := tb_m (bk_8 (List.mem_of_getElem? (i := 211) rfl)) rfl
theorem ml_RL_193 : Cond.methodLink RL 193 yX11_close ∈ TB := tb_m (bk_5 (List.mem_of_getElem? (i := 92) rfl)) rfl
set_option maxRecDepth 8000 in
theorem ml_RL_196 : Cond.methodLink RL 196 yX12_close ∈ TB := tb_m (bk_8 (List.mem_of_getElem? (i := 215) rfl)) rfl
theorem ml_RL_197 : Cond.methodLink RL 197 yX11_closed ∈ TB := tb_m (bk_5 (List.mem_of_getElem? (i := 101) rfl)) rfl
set_option maxRecDepth 8000 in
theorem ml_RL_200 : Cond.methodLink RL 200 yX12_closed ∈ TB := tb_m (bk_8 (List.mem_of_getElem? (i := 223) rfl)) rfl
theorem ml_RL_201 : Cond.methodLink RL 201 yX11_signs ∈ TB := tb_m (bk_5 (List.mem_of_getElem? (i := 105) rfl)) rfl
set_option maxRecDepth 8000 in
theorem ml_RL_204 : Cond.methodLink RL 204 yX12_signs ∈ TB := tb_m (bk_8 (List.mem_of_getElem? (i := 227) rfl)) rfl
theorem ml_RL_205 : Cond.methodLink RL 205 yX11_treaties ∈ TB := tb_m (bk_5 (List.mem_of_getElem? (i := 113) rfl)) rfl
set_option maxRecDepth 8000 in
theorem ml_RL_208 : Cond.methodLink RL 208 yX12_treaties ∈ TB := tb_m (bk_8 (List.mem_of_getElem? (i := 231) rfl)) rfl
set_option maxRecDepth 8000 in
theorem ml_RL_209 : Cond.methodLink RL 209 yX11_price ∈ TB := tb_m (bk_5 (List.mem_of_getElem? (i := 129) rfl)) rfl
theorem ml_RL_212 : Cond.methodLink RL 212 yX12_price ∈ TB := tb_m (bk_9 (List.mem_of_getElem? (i := 0) rfl)) rfl
set_option maxRecDepth 8000 in
theorem ml_RL_213 : Cond.methodLink RL 213 yX11_spies ∈ TB := tb_m (bk_5 (List.mem_of_getElem? (i := 134) rfl)) rfl
theorem ml_RL_216 : Cond.methodLink RL 216 yX12_spies ∈ TB := tb_m (bk_9 (List.mem_of_getElem? (i := 4) rfl)) rfl
set_option maxRecDepth 8000 in
theorem ml_RL_217 : Cond.methodLink RL 217 yX11_watch ∈ TB := tb_m (bk_5 (List.mem_of_getElem? (i := 147) rfl)) rfl
theorem ml_RL_220 : Cond.methodLink RL 220 yX12_watch ∈ TB := tb_m (bk_9 (List.mem_of_getElem? (i := 12) rfl)) rfl
set_option maxRecDepth 8000 in
theorem ml_RL_221 : Cond.methodLink RL 221 yX11_leaves ∈ TB := tb_m (bk_5 (List.mem_of_getElem? (i := 163) rfl)) rfl
theorem ml_RL_224 : Cond.methodLink RL 224 yX12_leaves ∈ TB := tb_m (bk_9 (List.mem_of_getElem? (i := 24) rfl)) rfl
set_option maxRecDepth 8000 in
theorem ml_RL_225 : Cond.methodLink RL 225 yX11_known ∈ TB := tb_m (bk_5 (List.mem_of_getElem? (i := 168) rfl)) rfl
theorem ml_RL_228 : Cond.methodLink RL 228 yX12_known ∈ TB := tb_m (bk_9 (List.mem_of_getElem? (i := 28) rfl)) rfl
set_option maxRecDepth 8000 in
theorem ml_RL_229 : Cond.methodLink RL 229 yX11_grant ∈ TB := tb_m (bk_5 (List.mem_of_getElem? (i := 181) rfl)) rfl
theorem ml_RL_232 : Cond.methodLink RL 232 yX12_grant ∈ TB := tb_m (bk_9 (List.mem_of_getElem? (i := 32) rfl)) rfl
set_option maxRecDepth 8000 in
theorem ml_RL_233 : Cond.methodLink RL 233 yX11_granted ∈ TB := tb_m (bk_5 (List.mem_of_getElem? (i := 204) rfl)) rfl
theorem ml_RL_236 : Cond.methodLink RL 236 yX12_granted ∈ TB := tb_m (bk_9 (List.mem_of_getElem? (i := 56) rfl)) rfl
set_option maxRecDepth 8000 in
theorem ml_RL_237 : Cond.methodLink RL 237 yX11_halves ∈ TB := tb_m (bk_5 (List.mem_of_getElem? (i := 208) rfl)) rfl
theorem ml_RL_240 : Cond.methodLink RL 240 yX12_halves ∈ TB := tb_m (bk_9 (List.mem_of_getElem? (i := 60) rfl)) rfl
set_option maxRecDepth 8000 in
theorem ml_RL_241 : Cond.methodLink RL 241 yX11_halved ∈ TB := tb_m (bk_5 (List.mem_of_getElem? (i := 212) rfl)) rfl
theorem ml_RL_244 : Cond.methodLink RL 244 yX12_halved ∈ TB := tb_m (bk_9 (List.mem_of_getElem? (i := 64) rfl)) rfl
set_option maxRecDepth 8000 in
theorem ml_RL_245 : Cond.methodLink RL 245 yX11_dry ∈ TB := tb_m (bk_5 (List.mem_of_getElem? (i := 216) rfl)) rfl
theorem ml_RL_249 : Cond.methodLink RL 249 yX12_dry ∈ TB := tb_m (bk_9 (List.mem_of_getElem? (i := 68) rfl)) rfl
set_option maxRecDepth 8000 in
theorem ml_RL_250 : Cond.methodLink RL 250 yX11_insist ∈ TB := tb_m (bk_5 (List.mem_of_getElem? (i := 226) rfl)) rfl
theorem ml_RL_253 : Cond.methodLink RL 253 yX12_insist ∈ TB := tb_m (bk_9 (List.mem_of_getElem? (i := 72) rfl)) rfl
set_option maxRecDepth 8000 in
theorem ml_RL_254 : Cond.methodLink RL 254 yX11_tell ∈ TB := tb_m (bk_5 (List.mem_of_getElem? (i := 234) rfl)) rfl
theorem ml_RL_257 : Cond.methodLink RL 257 yX12_tell ∈ TB := tb_m (bk_9 (List.mem_of_getElem? (i := 76) rfl)) rfl
theorem ml_RL_258 : Cond.methodLink RL 258 yX11_needs ∈ TB := tb_m (bk_6 (List.mem_of_getElem? (i := 25) rfl)) rfl
theorem ml_RL_261 : Cond.methodLink RL 261 yX12_needs_ ∈ TB := tb_m (bk_9 (List.mem_of_getElem? (i := 88) rfl)) rfl
theorem ml_RL_262 : Cond.methodLink RL 262 yX11_undo ∈ TB := tb_m (bk_6 (List.mem_of_getElem? (i := 29) rfl)) rfl
theorem ml_RL_265 : Cond.methodLink RL 265 yX12_undo ∈ TB := tb_m (bk_9 (List.mem_of_getElem? (i := 92) rfl)) rfl
theorem ml_RL_266 : Cond.methodLink RL 266 yX11_drawn ∈ TB := tb_m (bk_6 (List.mem_of_getElem? (i := 41) rfl)) rfl
theorem ml_RL_269 : Cond.methodLink RL 269 yX12_drawn ∈ TB := tb_m (bk_9 (List.mem_of_getElem? (i := 96) rfl)) rfl
theorem ml_RL_270 : Cond.methodLink RL 270 yX11_luck ∈ TB := tb_m (bk_6 (List.mem_of_getElem? (i := 64) rfl)) rfl
theorem ml_RL_273 : Cond.methodLink RL 273 yX12_luck ∈ TB := tb_m (bk_9 (List.mem_of_getElem? (i := 113) rfl)) rfl
theorem ml_RL_274 : Cond.methodLink RL 274 yX11_count ∈ TB := tb_m (bk_6 (List.mem_of_getElem? (i := 68) rfl)) rfl
theorem ml_RL_277 : Cond.methodLink RL 277 yX12_count ∈ TB := tb_m (bk_9 (List.mem_of_getElem? (i := 118) rfl)) rfl
theorem ml_RL_278 : Cond.methodLink RL 278 yX11_image ∈ TB := tb_m (bk_6 (List.mem_of_getElem? (i := 76) rfl)) rfl
set_option maxRecDepth 8000 in
theorem ml_RL_281 : Cond.methodLink RL 281 yX12_image ∈ TB := tb_m (bk_6 (List.mem_of_getElem? (i := 224) rfl)) rfl
theorem ml_RL_282 : Cond.methodLink RL 282 yX11_back ∈ TB := tb_m (bk_6 (List.mem_of_getElem? (i := 83) rfl)) rfl
set_option maxRecDepth 8000 in
theorem ml_RL_285 : Cond.methodLink RL 285 yX12_back ∈ TB := tb_m (bk_6 (List.mem_of_getElem? (i := 232) rfl)) rfl
theorem ml_RL_286 : Cond.methodLink RL 286 yX11_row ∈ TB := tb_m (bk_6 (List.mem_of_getElem? (i := 87) rfl)) rfl
set_option maxRecDepth 8000 in
theorem ml_RL_289 : Cond.methodLink RL 289 yX12_row ∈ TB := tb_m (bk_9 (List.mem_of_getElem? (i := 122) rfl)) rfl
theorem ml_RL_292 : Cond.methodLink RL 292 yX11_write ∈ TB := tb_m (bk_6 (List.mem_of_getElem? (i := 98) rfl)) rfl
set_option maxRecDepth 8000 in
theorem ml_RL_296 : Cond.methodLink RL 296 yX12_write ∈ TB := tb_m (bk_9 (List.mem_of_getElem? (i := 129) rfl)) rfl
theorem ml_RL_297 : Cond.methodLink RL 297 yX11_paste ∈ TB := tb_m (bk_6 (List.mem_of_getElem? (i := 109) rfl)) rfl
set_option maxRecDepth 8000 in
theorem ml_RL_300 : Cond.methodLink RL 300 yX12_paste ∈ TB := tb_m (bk_9 (List.mem_of_getElem? (i := 136) rfl)) rfl
set_option maxRecDepth 8000 in
theorem cl_RL_290 : Cond.constantLong RL 290 (4294967295) ∈ TB := tb_m (bk_9 (List.mem_of_getElem? (i := 140) rfl)) rfl
theorem kl_RL_7 : Cond.classLink RL 7 RX11 ∈ TB := tb_m (bk_1 (List.mem_of_getElem? (i := 22) rfl)) rfl
set_option maxRecDepth 8000 in
theorem kl_RL_10 : Cond.classLink RL 10 RX12 ∈ TB := tb_m (bk_6 (List.mem_of_getElem? (i := 122) rfl)) rfl
/-- the law's own script -/
def SCR (Γ : CX) (b L : Nat) (z : Nat → Int32) : Prop := va_X b L z (xs Γ) (xs Γ).heap ∧ b < (xs Γ).heap.size ∧ ¬ xA Γ b
section SC
variable {Γ : CX} {cc : ByteArray} {nL : Nat} {own : String} {ret : Option FieldType} {rm : Room} {ws : va_W} {pc pc' : Nat} {lv : List (Nat × Value)} {st : List Value} {b L : Nat} {z : Nat → Int32}
theorem s_ld {x : Int32} (hz : SCR Γ b L z) (hin : vp_in x L) (hd : decode cc pc = .ok (.iaload, 1)) (hp : pc + 1 = pc') (h : WL Γ cc nL own ret rm ws pc' lv (.int (z x.toNatClampNeg) :: st)) : WL Γ cc nL own ret rm ws pc lv (.int x :: .ref b :: st) := by
  subst hp
  exact fun X H locs ls hP hD hS hl => va_sld X.1 X.2.1 hz.1 hz.2.1 hz.2.2 hS hin hd (h X H locs ls hP hD hS hl)
theorem s_len (hz : SCR Γ b L z) (hd : decode cc pc = .ok (.arraylength, 1)) (hp : pc + 1 = pc') (h : WL Γ cc nL own ret rm ws pc' lv (.int (nI L) :: st)) : WL Γ cc nL own ret rm ws pc lv (.ref b :: st) := by
  subst hp
  exact fun X H locs ls hP hD hS hl => va_slen X.1 X.2.1 hz.1 hz.2.1 hz.2.2 hS hd (h X H locs ls hP hD hS hl)
theorem s_arg {i : Nat} {x y : Nat} (c : Nat) {n : Int} (hz : SCR Γ b L z) (hi : i + 6 ≤ L) (hL : L < 2 ^ 31) (hc : c < 6) (d0 : decode cc pc = .ok (.aload_n 0, 1)) (d1 : decode cc (pc + 1) = .ok (.iload_n 3, 1)) (d2 : decode cc (pc + 2) = .ok (.iconst n, 1)) (hn : Int32.ofInt n = nI c) (d3 : decode cc (pc + 3) = .ok (.iadd, 1)) (d4 : decode cc (pc + 4) = .ok (.iaload, 1)) (hp : pc + 5 = pc')
    (h : WL Γ cc nL own ret rm ws pc' [(0, .ref b), (1, .ref x), (2, .ref y), (3, .int (nI i))] (.int (z (i + c)) :: st)) : WL Γ cc nL own ret rm ws pc [(0, .ref b), (1, .ref x), (2, .ref y), (3, .int (nI i))] st := by
  refine w_aload_n 0 d0 rfl rfl rfl ?_
  refine w_iload_n 3 d1 rfl rfl rfl ?_
  refine w_iconst (nI c) d2 hn rfl ?_
  refine w_iadd d3 rfl ?_
  rw [nI_add]
  refine s_ld hz (vp_in_nI (by omega) hL) d4 hp ?_
  rw [nI_clamp (by omega)]
  exact h
end SC
theorem lcmp_eq {x y : Int64} (h : x = y) : lg_cmp x y = 0 := by
  subst h
  simp [lg_cmp]
theorem law_gt {i L : Nat} (hi : i < 2 ^ 31) (hL : L < 2 ^ 31) : (nI L - 6 < nI i) ↔ L < i + 6 := by
  have a : (nI L - 6).toInt = (L : Int) - 6 := by
    rw [Int32.toInt_sub, nI_toInt hL]
    show ((L : Int) - 6).bmod (2 ^ 32) = _
    rw [Int.bmod_eq_of_le (by omega) (by omega)]
  rw [Int32.lt_iff_toInt_lt, a, nI_toInt hi]
  omega
theorem g_law_0 {Γ : CX} {b L i : Nat} {z : Nat → Int32} {σ s1 s2 : St} {r1 r2 : Int32} (hz : SCR Γ b L z) (hi : i + 6 ≤ L) (hL : L < 2 ^ 31) (h1 : f_X11_feed (z (i + 1)) (z (i + 2)) (z (i + 3)) (z (i + 4)) (z (i + 5)) σ = some (r1, s1)) (h2 : f_X12_feed (z (i + 1)) (z (i + 2)) (z (i + 3)) (z (i + 4)) (z (i + 5)) s1 = some (r2, s2)) (h : WW Γ cL_law 4 RL ret room_1 s2 2281 [(0, .ref b), (1, .ref (xd Γ 0)), (2, .ref (xd Γ 58)), (3, .int (nI i))] []) : WW Γ cL_law 4 RL ret room_1 σ 324 [(0, .ref b), (1, .ref (xd Γ 0)), (2, .ref (xd Γ 58)), (3, .int (nI i))] [] := by
  refine w_aload_n 1 dL_law_324 rfl rfl rfl ?_
  refine s_arg 1 hz hi hL (by decide) dL_law_325 dL_law_326 dL_law_327 (by decide) dL_law_328 dL_law_329 rfl ?_
  refine s_arg 2 hz hi hL (by decide) dL_law_330 dL_law_331 dL_law_332 (by decide) dL_law_333 dL_law_334 rfl ?_
  refine s_arg 3 hz hi hL (by decide) dL_law_335 dL_law_336 dL_law_337 (by decide) dL_law_338 dL_law_339 rfl ?_
  refine s_arg 4 hz hi hL (by decide) dL_law_340 dL_law_341 dL_law_342 (by decide) dL_law_343 dL_law_344 rfl ?_
  refine s_arg 5 hz hi hL (by decide) dL_law_345 dL_law_346 dL_law_347 (by decide) dL_law_348 dL_law_349 rfl ?_
  refine k_X11_feed ml_RL_13 (Nat.le_of_ble_eq_true rfl) ⟨Nat.le_of_ble_eq_true rfl, Nat.le_of_ble_eq_true rfl⟩ dL_law_350 rfl h1 ?_
  refine w_pop dL_law_353 rfl rfl ?_
  refine w_aload_n 2 dL_law_354 rfl rfl rfl ?_
  refine s_arg 1 hz hi hL (by decide) dL_law_355 dL_law_356 dL_law_357 (by decide) dL_law_358 dL_law_359 rfl ?_
  refine s_arg 2 hz hi hL (by decide) dL_law_360 dL_law_361 dL_law_362 (by decide) dL_law_363 dL_law_364 rfl ?_
  refine s_arg 3 hz hi hL (by decide) dL_law_365 dL_law_366 dL_law_367 (by decide) dL_law_368 dL_law_369 rfl ?_
  refine s_arg 4 hz hi hL (by decide) dL_law_370 dL_law_371 dL_law_372 (by decide) dL_law_373 dL_law_374 rfl ?_
  refine s_arg 5 hz hi hL (by decide) dL_law_375 dL_law_376 dL_law_377 (by decide) dL_law_378 dL_law_379 rfl ?_
  refine k_X12_feed ml_RL_17 (Nat.le_of_ble_eq_true rfl) ⟨Nat.le_of_ble_eq_true rfl, Nat.le_of_ble_eq_true rfl⟩ dL_law_380 rfl h2 ?_
  refine w_pop dL_law_383 rfl rfl ?_
  refine w_goto (tgt := 2281) dL_law_384 (by decide) ?_
  exact h
theorem g_law_1 {Γ : CX} {b L i : Nat} {z : Nat → Int32} {σ s1 s2 : St} {r1 r2 : Int32} (hz : SCR Γ b L z) (hi : i + 6 ≤ L) (hL : L < 2 ^ 31) (h1 : f_X11_end (z (i + 1)) σ = some (r1, s1)) (h2 : f_X12_end (z (i + 1)) s1 = some (r2, s2)) (h : WW Γ cL_law 4 RL ret room_1 s2 2281 [(0, .ref b), (1, .ref (xd Γ 0)), (2, .ref (xd Γ 58)), (3, .int (nI i))] []) : WW Γ cL_law 4 RL ret room_1 σ 387 [(0, .ref b), (1, .ref (xd Γ 0)), (2, .ref (xd Γ 58)), (3, .int (nI i))] [] := by
  refine w_aload_n 1 dL_law_387 rfl rfl rfl ?_
  refine s_arg 1 hz hi hL (by decide) dL_law_388 dL_law_389 dL_law_390 (by decide) dL_law_391 dL_law_392 rfl ?_
  refine k_X11_end ml_RL_18 (Nat.le_of_ble_eq_true rfl) ⟨Nat.le_of_ble_eq_true rfl, Nat.le_of_ble_eq_true rfl⟩ dL_law_393 rfl h1 ?_
  refine w_pop dL_law_396 rfl rfl ?_
  refine w_aload_n 2 dL_law_397 rfl rfl rfl ?_
  refine s_arg 1 hz hi hL (by decide) dL_law_398 dL_law_399 dL_law_400 (by decide) dL_law_401 dL_law_402 rfl ?_
  refine k_X12_end ml_RL_22 (Nat.le_of_ble_eq_true rfl) ⟨Nat.le_of_ble_eq_true rfl, Nat.le_of_ble_eq_true rfl⟩ dL_law_403 rfl h2 ?_
  refine w_pop dL_law_406 rfl rfl ?_
  refine w_goto (tgt := 2281) dL_law_407 (by decide) ?_
  exact h
theorem g_law_2 {Γ : CX} {b L i : Nat} {z : Nat → Int32} {σ s1 s2 : St} {r1 r2 : Int32} (hz : SCR Γ b L z) (hi : i + 6 ≤ L) (hL : L < 2 ^ 31) (h1 : f_X11_war σ = some (r1, s1)) (h2 : f_X12_war s1 = some (r2, s2)) (h : WW Γ cL_law 4 RL ret room_1 s2 2281 [(0, .ref b), (1, .ref (xd Γ 0)), (2, .ref (xd Γ 58)), (3, .int (nI i))] []) : WW Γ cL_law 4 RL ret room_1 σ 410 [(0, .ref b), (1, .ref (xd Γ 0)), (2, .ref (xd Γ 58)), (3, .int (nI i))] [] := by
  refine w_aload_n 1 dL_law_410 rfl rfl rfl ?_
  refine k_X11_war ml_RL_23 (Nat.le_of_ble_eq_true rfl) ⟨Nat.le_of_ble_eq_true rfl, Nat.le_of_ble_eq_true rfl⟩ dL_law_411 rfl h1 ?_
  refine w_pop dL_law_414 rfl rfl ?_
  refine w_aload_n 2 dL_law_415 rfl rfl rfl ?_
  refine k_X12_war ml_RL_27 (Nat.le_of_ble_eq_true rfl) ⟨Nat.le_of_ble_eq_true rfl, Nat.le_of_ble_eq_true rfl⟩ dL_law_416 rfl h2 ?_
  refine w_pop dL_law_419 rfl rfl ?_
  refine w_goto (tgt := 2281) dL_law_420 (by decide) ?_
  exact h
theorem g_law_3 {Γ : CX} {b L i : Nat} {z : Nat → Int32} {σ s1 s2 : St} {r1 r2 : Int32} (hz : SCR Γ b L z) (hi : i + 6 ≤ L) (hL : L < 2 ^ 31) (h1 : f_X11_fault (z (i + 1)) σ = some (r1, s1)) (h2 : f_X12_fault (z (i + 1)) s1 = some (r2, s2)) (h : WW Γ cL_law 4 RL ret room_1 s2 2281 [(0, .ref b), (1, .ref (xd Γ 0)), (2, .ref (xd Γ 58)), (3, .int (nI i))] []) : WW Γ cL_law 4 RL ret room_1 σ 423 [(0, .ref b), (1, .ref (xd Γ 0)), (2, .ref (xd Γ 58)), (3, .int (nI i))] [] := by
  refine w_aload_n 1 dL_law_423 rfl rfl rfl ?_
  refine s_arg 1 hz hi hL (by decide) dL_law_424 dL_law_425 dL_law_426 (by decide) dL_law_427 dL_law_428 rfl ?_
  refine k_X11_fault ml_RL_28 (Nat.le_of_ble_eq_true rfl) ⟨Nat.le_of_ble_eq_true rfl, Nat.le_of_ble_eq_true rfl⟩ dL_law_429 rfl h1 ?_
  refine w_pop dL_law_432 rfl rfl ?_
  refine w_aload_n 2 dL_law_433 rfl rfl rfl ?_
  refine s_arg 1 hz hi hL (by decide) dL_law_434 dL_law_435 dL_law_436 (by decide) dL_law_437 dL_law_438 rfl ?_
  refine k_X12_fault ml_RL_31 (Nat.le_of_ble_eq_true rfl) ⟨Nat.le_of_ble_eq_true rfl, Nat.le_of_ble_eq_true rfl⟩ dL_law_439 rfl h2 ?_
  refine w_pop dL_law_442 rfl rfl ?_
  refine w_goto (tgt := 2281) dL_law_443 (by decide) ?_
  exact h
theorem g_law_4 {Γ : CX} {b L i : Nat} {z : Nat → Int32} {σ s1 s2 : St} {r1 r2 : Int32} (hz : SCR Γ b L z) (hi : i + 6 ≤ L) (hL : L < 2 ^ 31) (h1 : f_X11_train (z (i + 1)) (z (i + 2)) σ = some (r1, s1)) (h2 : f_X12_train (z (i + 1)) (z (i + 2)) s1 = some (r2, s2)) (h : WW Γ cL_law 4 RL ret room_1 s2 2281 [(0, .ref b), (1, .ref (xd Γ 0)), (2, .ref (xd Γ 58)), (3, .int (nI i))] []) : WW Γ cL_law 4 RL ret room_1 σ 446 [(0, .ref b), (1, .ref (xd Γ 0)), (2, .ref (xd Γ 58)), (3, .int (nI i))] [] := by
  refine w_aload_n 1 dL_law_446 rfl rfl rfl ?_
  refine s_arg 1 hz hi hL (by decide) dL_law_447 dL_law_448 dL_law_449 (by decide) dL_law_450 dL_law_451 rfl ?_
  refine s_arg 2 hz hi hL (by decide) dL_law_452 dL_law_453 dL_law_454 (by decide) dL_law_455 dL_law_456 rfl ?_
  refine k_X11_train ml_RL_32 (Nat.le_of_ble_eq_true rfl) ⟨Nat.le_of_ble_eq_true rfl, Nat.le_of_ble_eq_true rfl⟩ dL_law_457 rfl h1 ?_
  refine w_pop dL_law_460 rfl rfl ?_
  refine w_aload_n 2 dL_law_461 rfl rfl rfl ?_
  refine s_arg 1 hz hi hL (by decide) dL_law_462 dL_law_463 dL_law_464 (by decide) dL_law_465 dL_law_466 rfl ?_
  refine s_arg 2 hz hi hL (by decide) dL_law_467 dL_law_468 dL_law_469 (by decide) dL_law_470 dL_law_471 rfl ?_
  refine k_X12_train ml_RL_36 (Nat.le_of_ble_eq_true rfl) ⟨Nat.le_of_ble_eq_true rfl, Nat.le_of_ble_eq_true rfl⟩ dL_law_472 rfl h2 ?_
  refine w_pop dL_law_475 rfl rfl ?_
  refine w_goto (tgt := 2281) dL_law_476 (by decide) ?_
  exact h
theorem g_law_5 {Γ : CX} {b L i : Nat} {z : Nat → Int32} {σ s1 s2 : St} {r1 r2 : Int32} (hz : SCR Γ b L z) (hi : i + 6 ≤ L) (hL : L < 2 ^ 31) (h1 : f_X11_need (z (i + 1)) σ = some (r1, s1)) (h2 : f_X12_need (z (i + 1)) s1 = some (r2, s2)) (h : WW Γ cL_law 4 RL ret room_1 s2 2281 [(0, .ref b), (1, .ref (xd Γ 0)), (2, .ref (xd Γ 58)), (3, .int (nI i))] []) : WW Γ cL_law 4 RL ret room_1 σ 479 [(0, .ref b), (1, .ref (xd Γ 0)), (2, .ref (xd Γ 58)), (3, .int (nI i))] [] := by
  refine w_aload_n 1 dL_law_479 rfl rfl rfl ?_
  refine s_arg 1 hz hi hL (by decide) dL_law_480 dL_law_481 dL_law_482 (by decide) dL_law_483 dL_law_484 rfl ?_
  refine k_X11_need ml_RL_37 (Nat.le_of_ble_eq_true rfl) ⟨Nat.le_of_ble_eq_true rfl, Nat.le_of_ble_eq_true rfl⟩ dL_law_485 rfl h1 ?_
  refine w_pop dL_law_488 rfl rfl ?_
  refine w_aload_n 2 dL_law_489 rfl rfl rfl ?_
  refine s_arg 1 hz hi hL (by decide) dL_law_490 dL_law_491 dL_law_492 (by decide) dL_law_493 dL_law_494 rfl ?_
  refine k_X12_need ml_RL_40 (Nat.le_of_ble_eq_true rfl) ⟨Nat.le_of_ble_eq_true rfl, Nat.le_of_ble_eq_true rfl⟩ dL_law_495 rfl h2 ?_
  refine w_pop dL_law_498 rfl rfl ?_
  refine w_goto (tgt := 2281) dL_law_499 (by decide) ?_
  exact h
theorem g_law_6 {Γ : CX} {b L i : Nat} {z : Nat → Int32} {σ s1 s2 : St} {r1 r2 : Int32} (hz : SCR Γ b L z) (hi : i + 6 ≤ L) (hL : L < 2 ^ 31) (h1 : f_X11_tea (z (i + 1)) σ = some (r1, s1)) (h2 : f_X12_tea (z (i + 1)) s1 = some (r2, s2)) (h : WW Γ cL_law 4 RL ret room_1 s2 2281 [(0, .ref b), (1, .ref (xd Γ 0)), (2, .ref (xd Γ 58)), (3, .int (nI i))] []) : WW Γ cL_law 4 RL ret room_1 σ 502 [(0, .ref b), (1, .ref (xd Γ 0)), (2, .ref (xd Γ 58)), (3, .int (nI i))] [] := by
  refine w_aload_n 1 dL_law_502 rfl rfl rfl ?_
  refine s_arg 1 hz hi hL (by decide) dL_law_503 dL_law_504 dL_law_505 (by decide) dL_law_506 dL_law_507 rfl ?_
  refine k_X11_tea ml_RL_41 (Nat.le_of_ble_eq_true rfl) ⟨Nat.le_of_ble_eq_true rfl, Nat.le_of_ble_eq_true rfl⟩ dL_law_508 rfl h1 ?_
  refine w_pop dL_law_511 rfl rfl ?_
  refine w_aload_n 2 dL_law_512 rfl rfl rfl ?_
  refine s_arg 1 hz hi hL (by decide) dL_law_513 dL_law_514 dL_law_515 (by decide) dL_law_516 dL_law_517 rfl ?_
  refine k_X12_tea ml_RL_44 (Nat.le_of_ble_eq_true rfl) ⟨Nat.le_of_ble_eq_true rfl, Nat.le_of_ble_eq_true rfl⟩ dL_law_518 rfl h2 ?_
  refine w_pop dL_law_521 rfl rfl ?_
  refine w_goto (tgt := 2281) dL_law_522 (by decide) ?_
  exact h
theorem g_law_7 {Γ : CX} {b L i : Nat} {z : Nat → Int32} {σ s1 s2 : St} {r1 r2 : Int32} (hz : SCR Γ b L z) (hi : i + 6 ≤ L) (hL : L < 2 ^ 31) (h1 : f_X11_cannon (z (i + 1)) (z (i + 2)) σ = some (r1, s1)) (h2 : f_X12_cannon (z (i + 1)) (z (i + 2)) s1 = some (r2, s2)) (h : WW Γ cL_law 4 RL ret room_1 s2 2281 [(0, .ref b), (1, .ref (xd Γ 0)), (2, .ref (xd Γ 58)), (3, .int (nI i))] []) : WW Γ cL_law 4 RL ret room_1 σ 525 [(0, .ref b), (1, .ref (xd Γ 0)), (2, .ref (xd Γ 58)), (3, .int (nI i))] [] := by
  refine w_aload_n 1 dL_law_525 rfl rfl rfl ?_
  refine s_arg 1 hz hi hL (by decide) dL_law_526 dL_law_527 dL_law_528 (by decide) dL_law_529 dL_law_530 rfl ?_
  refine s_arg 2 hz hi hL (by decide) dL_law_531 dL_law_532 dL_law_533 (by decide) dL_law_534 dL_law_535 rfl ?_
  refine k_X11_cannon ml_RL_45 (Nat.le_of_ble_eq_true rfl) ⟨Nat.le_of_ble_eq_true rfl, Nat.le_of_ble_eq_true rfl⟩ dL_law_536 rfl h1 ?_
  refine w_pop dL_law_539 rfl rfl ?_
  refine w_aload_n 2 dL_law_540 rfl rfl rfl ?_
  refine s_arg 1 hz hi hL (by decide) dL_law_541 dL_law_542 dL_law_543 (by decide) dL_law_544 dL_law_545 rfl ?_
  refine s_arg 2 hz hi hL (by decide) dL_law_546 dL_law_547 dL_law_548 (by decide) dL_law_549 dL_law_550 rfl ?_
  refine k_X12_cannon ml_RL_48 (Nat.le_of_ble_eq_true rfl) ⟨Nat.le_of_ble_eq_true rfl, Nat.le_of_ble_eq_true rfl⟩ dL_law_551 rfl h2 ?_
  refine w_pop dL_law_554 rfl rfl ?_
  refine w_goto (tgt := 2281) dL_law_555 (by decide) ?_
  exact h
theorem g_law_8 {Γ : CX} {b L i : Nat} {z : Nat → Int32} {σ s1 s2 : St} {r1 r2 : Int32} (hz : SCR Γ b L z) (hi : i + 6 ≤ L) (hL : L < 2 ^ 31) (h1 : f_X11_rule (z (i + 1)) (z (i + 2)) σ = some (r1, s1)) (h2 : f_X12_rule (z (i + 1)) (z (i + 2)) s1 = some (r2, s2)) (h : WW Γ cL_law 4 RL ret room_1 s2 2281 [(0, .ref b), (1, .ref (xd Γ 0)), (2, .ref (xd Γ 58)), (3, .int (nI i))] []) : WW Γ cL_law 4 RL ret room_1 σ 558 [(0, .ref b), (1, .ref (xd Γ 0)), (2, .ref (xd Γ 58)), (3, .int (nI i))] [] := by
  refine w_aload_n 1 dL_law_558 rfl rfl rfl ?_
  refine s_arg 1 hz hi hL (by decide) dL_law_559 dL_law_560 dL_law_561 (by decide) dL_law_562 dL_law_563 rfl ?_
  refine s_arg 2 hz hi hL (by decide) dL_law_564 dL_law_565 dL_law_566 (by decide) dL_law_567 dL_law_568 rfl ?_
  refine k_X11_rule ml_RL_49 (Nat.le_of_ble_eq_true rfl) ⟨Nat.le_of_ble_eq_true rfl, Nat.le_of_ble_eq_true rfl⟩ dL_law_569 rfl h1 ?_
  refine w_pop dL_law_572 rfl rfl ?_
  refine w_aload_n 2 dL_law_573 rfl rfl rfl ?_
  refine s_arg 1 hz hi hL (by decide) dL_law_574 dL_law_575 dL_law_576 (by decide) dL_law_577 dL_law_578 rfl ?_
  refine s_arg 2 hz hi hL (by decide) dL_law_579 dL_law_580 dL_law_581 (by decide) dL_law_582 dL_law_583 rfl ?_
  refine k_X12_rule ml_RL_52 (Nat.le_of_ble_eq_true rfl) ⟨Nat.le_of_ble_eq_true rfl, Nat.le_of_ble_eq_true rfl⟩ dL_law_584 rfl h2 ?_
  refine w_pop dL_law_587 rfl rfl ?_
  refine w_goto (tgt := 2281) dL_law_588 (by decide) ?_
  exact h
theorem g_law_9 {Γ : CX} {b L i : Nat} {z : Nat → Int32} {σ s1 s2 : St} {r1 r2 : Int32} (hz : SCR Γ b L z) (hi : i + 6 ≤ L) (hL : L < 2 ^ 31) (h1 : f_X11_spy (z (i + 1)) σ = some (r1, s1)) (h2 : f_X12_spy (z (i + 1)) s1 = some (r2, s2)) (h : WW Γ cL_law 4 RL ret room_1 s2 2281 [(0, .ref b), (1, .ref (xd Γ 0)), (2, .ref (xd Γ 58)), (3, .int (nI i))] []) : WW Γ cL_law 4 RL ret room_1 σ 591 [(0, .ref b), (1, .ref (xd Γ 0)), (2, .ref (xd Γ 58)), (3, .int (nI i))] [] := by
  refine w_aload_n 1 dL_law_591 rfl rfl rfl ?_
  refine s_arg 1 hz hi hL (by decide) dL_law_592 dL_law_593 dL_law_594 (by decide) dL_law_595 dL_law_596 rfl ?_
  refine k_X11_spy ml_RL_53 (Nat.le_of_ble_eq_true rfl) ⟨Nat.le_of_ble_eq_true rfl, Nat.le_of_ble_eq_true rfl⟩ dL_law_597 rfl h1 ?_
  refine w_pop dL_law_600 rfl rfl ?_
  refine w_aload_n 2 dL_law_601 rfl rfl rfl ?_
  refine s_arg 1 hz hi hL (by decide) dL_law_602 dL_law_603 dL_law_604 (by decide) dL_law_605 dL_law_606 rfl ?_
  refine k_X12_spy ml_RL_56 (Nat.le_of_ble_eq_true rfl) ⟨Nat.le_of_ble_eq_true rfl, Nat.le_of_ble_eq_true rfl⟩ dL_law_607 rfl h2 ?_
  refine w_pop dL_law_610 rfl rfl ?_
  refine w_goto (tgt := 2281) dL_law_611 (by decide) ?_
  exact h
theorem g_law_10 {Γ : CX} {b L i : Nat} {z : Nat → Int32} {σ s1 s2 : St} {r1 r2 : Int32} (hz : SCR Γ b L z) (hi : i + 6 ≤ L) (hL : L < 2 ^ 31) (h1 : f_X11_men (z (i + 1)) (z (i + 2)) (z (i + 3)) σ = some (r1, s1)) (h2 : f_X12_men (z (i + 1)) (z (i + 2)) (z (i + 3)) s1 = some (r2, s2)) (h : WW Γ cL_law 4 RL ret room_1 s2 2281 [(0, .ref b), (1, .ref (xd Γ 0)), (2, .ref (xd Γ 58)), (3, .int (nI i))] []) : WW Γ cL_law 4 RL ret room_1 σ 614 [(0, .ref b), (1, .ref (xd Γ 0)), (2, .ref (xd Γ 58)), (3, .int (nI i))] [] := by
  refine w_aload_n 1 dL_law_614 rfl rfl rfl ?_
  refine s_arg 1 hz hi hL (by decide) dL_law_615 dL_law_616 dL_law_617 (by decide) dL_law_618 dL_law_619 rfl ?_
  refine s_arg 2 hz hi hL (by decide) dL_law_620 dL_law_621 dL_law_622 (by decide) dL_law_623 dL_law_624 rfl ?_
  refine s_arg 3 hz hi hL (by decide) dL_law_625 dL_law_626 dL_law_627 (by decide) dL_law_628 dL_law_629 rfl ?_
  refine k_X11_men ml_RL_57 (Nat.le_of_ble_eq_true rfl) ⟨Nat.le_of_ble_eq_true rfl, Nat.le_of_ble_eq_true rfl⟩ dL_law_630 rfl h1 ?_
  refine w_pop dL_law_633 rfl rfl ?_
  refine w_aload_n 2 dL_law_634 rfl rfl rfl ?_
  refine s_arg 1 hz hi hL (by decide) dL_law_635 dL_law_636 dL_law_637 (by decide) dL_law_638 dL_law_639 rfl ?_
  refine s_arg 2 hz hi hL (by decide) dL_law_640 dL_law_641 dL_law_642 (by decide) dL_law_643 dL_law_644 rfl ?_
  refine s_arg 3 hz hi hL (by decide) dL_law_645 dL_law_646 dL_law_647 (by decide) dL_law_648 dL_law_649 rfl ?_
  refine k_X12_men ml_RL_61 (Nat.le_of_ble_eq_true rfl) ⟨Nat.le_of_ble_eq_true rfl, Nat.le_of_ble_eq_true rfl⟩ dL_law_650 rfl h2 ?_
  refine w_pop dL_law_653 rfl rfl ?_
  refine w_goto (tgt := 2281) dL_law_654 (by decide) ?_
  exact h
theorem g_law_11 {Γ : CX} {b L i : Nat} {z : Nat → Int32} {σ s1 s2 : St} {r1 r2 : Int32} (hz : SCR Γ b L z) (hi : i + 6 ≤ L) (hL : L < 2 ^ 31) (h1 : f_X11_front (z (i + 1)) (z (i + 2)) σ = some (r1, s1)) (h2 : f_X12_front (z (i + 1)) (z (i + 2)) s1 = some (r2, s2)) (h : WW Γ cL_law 4 RL ret room_1 s2 2281 [(0, .ref b), (1, .ref (xd Γ 0)), (2, .ref (xd Γ 58)), (3, .int (nI i))] []) : WW Γ cL_law 4 RL ret room_1 σ 657 [(0, .ref b), (1, .ref (xd Γ 0)), (2, .ref (xd Γ 58)), (3, .int (nI i))] [] := by
  refine w_aload_n 1 dL_law_657 rfl rfl rfl ?_
  refine s_arg 1 hz hi hL (by decide) dL_law_658 dL_law_659 dL_law_660 (by decide) dL_law_661 dL_law_662 rfl ?_
  refine s_arg 2 hz hi hL (by decide) dL_law_663 dL_law_664 dL_law_665 (by decide) dL_law_666 dL_law_667 rfl ?_
  refine k_X11_front ml_RL_62 (Nat.le_of_ble_eq_true rfl) ⟨Nat.le_of_ble_eq_true rfl, Nat.le_of_ble_eq_true rfl⟩ dL_law_668 rfl h1 ?_
  refine w_pop dL_law_671 rfl rfl ?_
  refine w_aload_n 2 dL_law_672 rfl rfl rfl ?_
  refine s_arg 1 hz hi hL (by decide) dL_law_673 dL_law_674 dL_law_675 (by decide) dL_law_676 dL_law_677 rfl ?_
  refine s_arg 2 hz hi hL (by decide) dL_law_678 dL_law_679 dL_law_680 (by decide) dL_law_681 dL_law_682 rfl ?_
  refine k_X12_front ml_RL_65 (Nat.le_of_ble_eq_true rfl) ⟨Nat.le_of_ble_eq_true rfl, Nat.le_of_ble_eq_true rfl⟩ dL_law_683 rfl h2 ?_
  refine w_pop dL_law_686 rfl rfl ?_
  refine w_goto (tgt := 2281) dL_law_687 (by decide) ?_
  exact h
theorem g_law_12 {Γ : CX} {b L i : Nat} {z : Nat → Int32} {σ s1 s2 : St} {r1 r2 : Int32} (hz : SCR Γ b L z) (hi : i + 6 ≤ L) (hL : L < 2 ^ 31) (h1 : f_X11_late (z (i + 1)) σ = some (r1, s1)) (h2 : f_X12_late (z (i + 1)) s1 = some (r2, s2)) (h : WW Γ cL_law 4 RL ret room_1 s2 2281 [(0, .ref b), (1, .ref (xd Γ 0)), (2, .ref (xd Γ 58)), (3, .int (nI i))] []) : WW Γ cL_law 4 RL ret room_1 σ 690 [(0, .ref b), (1, .ref (xd Γ 0)), (2, .ref (xd Γ 58)), (3, .int (nI i))] [] := by
  refine w_aload_n 1 dL_law_690 rfl rfl rfl ?_
  refine s_arg 1 hz hi hL (by decide) dL_law_691 dL_law_692 dL_law_693 (by decide) dL_law_694 dL_law_695 rfl ?_
  refine k_X11_late ml_RL_66 (Nat.le_of_ble_eq_true rfl) ⟨Nat.le_of_ble_eq_true rfl, Nat.le_of_ble_eq_true rfl⟩ dL_law_696 rfl h1 ?_
  refine w_pop dL_law_699 rfl rfl ?_
  refine w_aload_n 2 dL_law_700 rfl rfl rfl ?_
  refine s_arg 1 hz hi hL (by decide) dL_law_701 dL_law_702 dL_law_703 (by decide) dL_law_704 dL_law_705 rfl ?_
  refine k_X12_late ml_RL_69 (Nat.le_of_ble_eq_true rfl) ⟨Nat.le_of_ble_eq_true rfl, Nat.le_of_ble_eq_true rfl⟩ dL_law_706 rfl h2 ?_
  refine w_pop dL_law_709 rfl rfl ?_
  refine w_goto (tgt := 2281) dL_law_710 (by decide) ?_
  exact h
theorem g_law_13 {Γ : CX} {b L i : Nat} {z : Nat → Int32} {σ s1 s2 : St} {r1 r2 : Int32} (hz : SCR Γ b L z) (hi : i + 6 ≤ L) (hL : L < 2 ^ 31) (h1 : f_X11_wins (z (i + 1)) σ = some (r1, s1)) (h2 : f_X12_wins (z (i + 1)) s1 = some (r2, s2)) (h : WW Γ cL_law 4 RL ret room_1 s2 2281 [(0, .ref b), (1, .ref (xd Γ 0)), (2, .ref (xd Γ 58)), (3, .int (nI i))] []) : WW Γ cL_law 4 RL ret room_1 σ 713 [(0, .ref b), (1, .ref (xd Γ 0)), (2, .ref (xd Γ 58)), (3, .int (nI i))] [] := by
  refine w_aload_n 1 dL_law_713 rfl rfl rfl ?_
  refine s_arg 1 hz hi hL (by decide) dL_law_714 dL_law_715 dL_law_716 (by decide) dL_law_717 dL_law_718 rfl ?_
  refine k_X11_wins ml_RL_70 (Nat.le_of_ble_eq_true rfl) ⟨Nat.le_of_ble_eq_true rfl, Nat.le_of_ble_eq_true rfl⟩ dL_law_719 rfl h1 ?_
  refine w_pop dL_law_722 rfl rfl ?_
  refine w_aload_n 2 dL_law_723 rfl rfl rfl ?_
  refine s_arg 1 hz hi hL (by decide) dL_law_724 dL_law_725 dL_law_726 (by decide) dL_law_727 dL_law_728 rfl ?_
  refine k_X12_wins ml_RL_73 (Nat.le_of_ble_eq_true rfl) ⟨Nat.le_of_ble_eq_true rfl, Nat.le_of_ble_eq_true rfl⟩ dL_law_729 rfl h2 ?_
  refine w_pop dL_law_732 rfl rfl ?_
  refine w_goto (tgt := 2281) dL_law_733 (by decide) ?_
  exact h
theorem g_law_14 {Γ : CX} {b L i : Nat} {z : Nat → Int32} {σ s1 s2 : St} {r1 r2 : Int32} (hz : SCR Γ b L z) (hi : i + 6 ≤ L) (hL : L < 2 ^ 31) (h1 : f_X11_peak (z (i + 1)) (z (i + 2)) σ = some (r1, s1)) (h2 : f_X12_peak (z (i + 1)) (z (i + 2)) s1 = some (r2, s2)) (h : WW Γ cL_law 4 RL ret room_1 s2 2281 [(0, .ref b), (1, .ref (xd Γ 0)), (2, .ref (xd Γ 58)), (3, .int (nI i))] []) : WW Γ cL_law 4 RL ret room_1 σ 736 [(0, .ref b), (1, .ref (xd Γ 0)), (2, .ref (xd Γ 58)), (3, .int (nI i))] [] := by
  refine w_aload_n 1 dL_law_736 rfl rfl rfl ?_
  refine s_arg 1 hz hi hL (by decide) dL_law_737 dL_law_738 dL_law_739 (by decide) dL_law_740 dL_law_741 rfl ?_
  refine s_arg 2 hz hi hL (by decide) dL_law_742 dL_law_743 dL_law_744 (by decide) dL_law_745 dL_law_746 rfl ?_
  refine k_X11_peak ml_RL_74 (Nat.le_of_ble_eq_true rfl) ⟨Nat.le_of_ble_eq_true rfl, Nat.le_of_ble_eq_true rfl⟩ dL_law_747 rfl h1 ?_
  refine w_pop dL_law_750 rfl rfl ?_
  refine w_aload_n 2 dL_law_751 rfl rfl rfl ?_
  refine s_arg 1 hz hi hL (by decide) dL_law_752 dL_law_753 dL_law_754 (by decide) dL_law_755 dL_law_756 rfl ?_
  refine s_arg 2 hz hi hL (by decide) dL_law_757 dL_law_758 dL_law_759 (by decide) dL_law_760 dL_law_761 rfl ?_
  refine k_X12_peak ml_RL_77 (Nat.le_of_ble_eq_true rfl) ⟨Nat.le_of_ble_eq_true rfl, Nat.le_of_ble_eq_true rfl⟩ dL_law_762 rfl h2 ?_
  refine w_pop dL_law_765 rfl rfl ?_
  refine w_goto (tgt := 2281) dL_law_766 (by decide) ?_
  exact h
theorem g_law_15 {Γ : CX} {b L i : Nat} {z : Nat → Int32} {σ s1 s2 : St} {r1 r2 : Int32} (hz : SCR Γ b L z) (hi : i + 6 ≤ L) (hL : L < 2 ^ 31) (h1 : f_X11_swings (z (i + 1)) σ = some (r1, s1)) (h2 : f_X12_swings (z (i + 1)) s1 = some (r2, s2)) (h : WW Γ cL_law 4 RL ret room_1 s2 2281 [(0, .ref b), (1, .ref (xd Γ 0)), (2, .ref (xd Γ 58)), (3, .int (nI i))] []) : WW Γ cL_law 4 RL ret room_1 σ 769 [(0, .ref b), (1, .ref (xd Γ 0)), (2, .ref (xd Γ 58)), (3, .int (nI i))] [] := by
  refine w_aload_n 1 dL_law_769 rfl rfl rfl ?_
  refine s_arg 1 hz hi hL (by decide) dL_law_770 dL_law_771 dL_law_772 (by decide) dL_law_773 dL_law_774 rfl ?_
  refine k_X11_swings ml_RL_78 (Nat.le_of_ble_eq_true rfl) ⟨Nat.le_of_ble_eq_true rfl, Nat.le_of_ble_eq_true rfl⟩ dL_law_775 rfl h1 ?_
  refine w_pop dL_law_778 rfl rfl ?_
  refine w_aload_n 2 dL_law_779 rfl rfl rfl ?_
  refine s_arg 1 hz hi hL (by decide) dL_law_780 dL_law_781 dL_law_782 (by decide) dL_law_783 dL_law_784 rfl ?_
  refine k_X12_swings ml_RL_81 (Nat.le_of_ble_eq_true rfl) ⟨Nat.le_of_ble_eq_true rfl, Nat.le_of_ble_eq_true rfl⟩ dL_law_785 rfl h2 ?_
  refine w_pop dL_law_788 rfl rfl ?_
  refine w_goto (tgt := 2281) dL_law_789 (by decide) ?_
  exact h
theorem g_law_16 {Γ : CX} {b L i : Nat} {z : Nat → Int32} {σ s1 s2 : St} {r1 r2 : Int32} (hz : SCR Γ b L z) (hi : i + 6 ≤ L) (hL : L < 2 ^ 31) (h1 : f_X11_worst (z (i + 1)) σ = some (r1, s1)) (h2 : f_X12_worst (z (i + 1)) s1 = some (r2, s2)) (h : WW Γ cL_law 4 RL ret room_1 s2 2281 [(0, .ref b), (1, .ref (xd Γ 0)), (2, .ref (xd Γ 58)), (3, .int (nI i))] []) : WW Γ cL_law 4 RL ret room_1 σ 792 [(0, .ref b), (1, .ref (xd Γ 0)), (2, .ref (xd Γ 58)), (3, .int (nI i))] [] := by
  refine w_aload_n 1 dL_law_792 rfl rfl rfl ?_
  refine s_arg 1 hz hi hL (by decide) dL_law_793 dL_law_794 dL_law_795 (by decide) dL_law_796 dL_law_797 rfl ?_
  refine k_X11_worst ml_RL_82 (Nat.le_of_ble_eq_true rfl) ⟨Nat.le_of_ble_eq_true rfl, Nat.le_of_ble_eq_true rfl⟩ dL_law_798 rfl h1 ?_
  refine w_pop dL_law_801 rfl rfl ?_
  refine w_aload_n 2 dL_law_802 rfl rfl rfl ?_
  refine s_arg 1 hz hi hL (by decide) dL_law_803 dL_law_804 dL_law_805 (by decide) dL_law_806 dL_law_807 rfl ?_
  refine k_X12_worst ml_RL_85 (Nat.le_of_ble_eq_true rfl) ⟨Nat.le_of_ble_eq_true rfl, Nat.le_of_ble_eq_true rfl⟩ dL_law_808 rfl h2 ?_
  refine w_pop dL_law_811 rfl rfl ?_
  refine w_goto (tgt := 2281) dL_law_812 (by decide) ?_
  exact h
theorem g_law_17 {Γ : CX} {b L i : Nat} {z : Nat → Int32} {σ s1 s2 : St} {r1 r2 : Int32} (hz : SCR Γ b L z) (hi : i + 6 ≤ L) (hL : L < 2 ^ 31) (h1 : f_X11_by (z (i + 1)) σ = some (r1, s1)) (h2 : f_X12_by (z (i + 1)) s1 = some (r2, s2)) (h : WW Γ cL_law 4 RL ret room_1 s2 2281 [(0, .ref b), (1, .ref (xd Γ 0)), (2, .ref (xd Γ 58)), (3, .int (nI i))] []) : WW Γ cL_law 4 RL ret room_1 σ 815 [(0, .ref b), (1, .ref (xd Γ 0)), (2, .ref (xd Γ 58)), (3, .int (nI i))] [] := by
  refine w_aload_n 1 dL_law_815 rfl rfl rfl ?_
  refine s_arg 1 hz hi hL (by decide) dL_law_816 dL_law_817 dL_law_818 (by decide) dL_law_819 dL_law_820 rfl ?_
  refine k_X11_by ml_RL_86 (Nat.le_of_ble_eq_true rfl) ⟨Nat.le_of_ble_eq_true rfl, Nat.le_of_ble_eq_true rfl⟩ dL_law_821 rfl h1 ?_
  refine w_pop dL_law_824 rfl rfl ?_
  refine w_aload_n 2 dL_law_825 rfl rfl rfl ?_
  refine s_arg 1 hz hi hL (by decide) dL_law_826 dL_law_827 dL_law_828 (by decide) dL_law_829 dL_law_830 rfl ?_
  refine k_X12_by ml_RL_89 (Nat.le_of_ble_eq_true rfl) ⟨Nat.le_of_ble_eq_true rfl, Nat.le_of_ble_eq_true rfl⟩ dL_law_831 rfl h2 ?_
  refine w_pop dL_law_834 rfl rfl ?_
  refine w_goto (tgt := 2281) dL_law_835 (by decide) ?_
  exact h
theorem g_law_18 {Γ : CX} {b L i : Nat} {z : Nat → Int32} {σ s1 s2 : St} {r1 r2 : Int32} (hz : SCR Γ b L z) (hi : i + 6 ≤ L) (hL : L < 2 ^ 31) (h1 : f_X11_ways (z (i + 1)) σ = some (r1, s1)) (h2 : f_X12_ways (z (i + 1)) s1 = some (r2, s2)) (h : WW Γ cL_law 4 RL ret room_1 s2 2281 [(0, .ref b), (1, .ref (xd Γ 0)), (2, .ref (xd Γ 58)), (3, .int (nI i))] []) : WW Γ cL_law 4 RL ret room_1 σ 838 [(0, .ref b), (1, .ref (xd Γ 0)), (2, .ref (xd Γ 58)), (3, .int (nI i))] [] := by
  refine w_aload_n 1 dL_law_838 rfl rfl rfl ?_
  refine s_arg 1 hz hi hL (by decide) dL_law_839 dL_law_840 dL_law_841 (by decide) dL_law_842 dL_law_843 rfl ?_
  refine k_X11_ways ml_RL_90 (Nat.le_of_ble_eq_true rfl) ⟨Nat.le_of_ble_eq_true rfl, Nat.le_of_ble_eq_true rfl⟩ dL_law_844 rfl h1 ?_
  refine w_pop dL_law_847 rfl rfl ?_
  refine w_aload_n 2 dL_law_848 rfl rfl rfl ?_
  refine s_arg 1 hz hi hL (by decide) dL_law_849 dL_law_850 dL_law_851 (by decide) dL_law_852 dL_law_853 rfl ?_
  refine k_X12_ways ml_RL_93 (Nat.le_of_ble_eq_true rfl) ⟨Nat.le_of_ble_eq_true rfl, Nat.le_of_ble_eq_true rfl⟩ dL_law_854 rfl h2 ?_
  refine w_pop dL_law_857 rfl rfl ?_
  refine w_goto (tgt := 2281) dL_law_858 (by decide) ?_
  exact h
theorem g_law_19 {Γ : CX} {b L i : Nat} {z : Nat → Int32} {σ s1 s2 : St} {r1 r2 : Int32} (hz : SCR Γ b L z) (hi : i + 6 ≤ L) (hL : L < 2 ^ 31) (h1 : f_X11_idle σ = some (r1, s1)) (h2 : f_X12_idle s1 = some (r2, s2)) (h : WW Γ cL_law 4 RL ret room_1 s2 2281 [(0, .ref b), (1, .ref (xd Γ 0)), (2, .ref (xd Γ 58)), (3, .int (nI i))] []) : WW Γ cL_law 4 RL ret room_1 σ 861 [(0, .ref b), (1, .ref (xd Γ 0)), (2, .ref (xd Γ 58)), (3, .int (nI i))] [] := by
  refine w_aload_n 1 dL_law_861 rfl rfl rfl ?_
  refine k_X11_idle ml_RL_94 (Nat.le_of_ble_eq_true rfl) ⟨Nat.le_of_ble_eq_true rfl, Nat.le_of_ble_eq_true rfl⟩ dL_law_862 rfl h1 ?_
  refine w_pop dL_law_865 rfl rfl ?_
  refine w_aload_n 2 dL_law_866 rfl rfl rfl ?_
  refine k_X12_idle ml_RL_97 (Nat.le_of_ble_eq_true rfl) ⟨Nat.le_of_ble_eq_true rfl, Nat.le_of_ble_eq_true rfl⟩ dL_law_867 rfl h2 ?_
  refine w_pop dL_law_870 rfl rfl ?_
  refine w_goto (tgt := 2281) dL_law_871 (by decide) ?_
  exact h
theorem g_law_20 {Γ : CX} {b L i : Nat} {z : Nat → Int32} {σ s1 s2 : St} {r1 r2 : Int64} (hz : SCR Γ b L z) (hi : i + 6 ≤ L) (hL : L < 2 ^ 31) (h1 : f_X11_enough (z (i + 1)) (z (i + 2)) σ = some (r1, s1)) (h2 : f_X12_enough (z (i + 1)) (z (i + 2)) s1 = some (r2, s2)) (h : WW Γ cL_law 4 RL ret room_1 s2 2281 [(0, .ref b), (1, .ref (xd Γ 0)), (2, .ref (xd Γ 58)), (3, .int (nI i))] []) : WW Γ cL_law 4 RL ret room_1 σ 874 [(0, .ref b), (1, .ref (xd Γ 0)), (2, .ref (xd Γ 58)), (3, .int (nI i))] [] := by
  refine w_aload_n 1 dL_law_874 rfl rfl rfl ?_
  refine s_arg 1 hz hi hL (by decide) dL_law_875 dL_law_876 dL_law_877 (by decide) dL_law_878 dL_law_879 rfl ?_
  refine s_arg 2 hz hi hL (by decide) dL_law_880 dL_law_881 dL_law_882 (by decide) dL_law_883 dL_law_884 rfl ?_
  refine k_X11_enough ml_RL_98 (Nat.le_of_ble_eq_true rfl) ⟨Nat.le_of_ble_eq_true rfl, Nat.le_of_ble_eq_true rfl⟩ dL_law_885 rfl h1 ?_
  refine w_pop2 dL_law_888 rfl rfl ?_
  refine w_aload_n 2 dL_law_889 rfl rfl rfl ?_
  refine s_arg 1 hz hi hL (by decide) dL_law_890 dL_law_891 dL_law_892 (by decide) dL_law_893 dL_law_894 rfl ?_
  refine s_arg 2 hz hi hL (by decide) dL_law_895 dL_law_896 dL_law_897 (by decide) dL_law_898 dL_law_899 rfl ?_
  refine k_X12_enough ml_RL_102 (Nat.le_of_ble_eq_true rfl) ⟨Nat.le_of_ble_eq_true rfl, Nat.le_of_ble_eq_true rfl⟩ dL_law_900 rfl h2 ?_
  refine w_pop2 dL_law_903 rfl rfl ?_
  refine w_goto (tgt := 2281) dL_law_904 (by decide) ?_
  exact h
theorem g_law_21 {Γ : CX} {b L i : Nat} {z : Nat → Int32} {σ s1 s2 : St} {r1 r2 : Int64} (hz : SCR Γ b L z) (hi : i + 6 ≤ L) (hL : L < 2 ^ 31) (h1 : f_X11_chance (z (i + 1)) (z (i + 2)) σ = some (r1, s1)) (h2 : f_X12_chance (z (i + 1)) (z (i + 2)) s1 = some (r2, s2)) (h : WW Γ cL_law 4 RL ret room_1 s2 2281 [(0, .ref b), (1, .ref (xd Γ 0)), (2, .ref (xd Γ 58)), (3, .int (nI i))] []) : WW Γ cL_law 4 RL ret room_1 σ 907 [(0, .ref b), (1, .ref (xd Γ 0)), (2, .ref (xd Γ 58)), (3, .int (nI i))] [] := by
  refine w_aload_n 1 dL_law_907 rfl rfl rfl ?_
  refine s_arg 1 hz hi hL (by decide) dL_law_908 dL_law_909 dL_law_910 (by decide) dL_law_911 dL_law_912 rfl ?_
  refine s_arg 2 hz hi hL (by decide) dL_law_913 dL_law_914 dL_law_915 (by decide) dL_law_916 dL_law_917 rfl ?_
  refine k_X11_chance ml_RL_103 (Nat.le_of_ble_eq_true rfl) ⟨Nat.le_of_ble_eq_true rfl, Nat.le_of_ble_eq_true rfl⟩ dL_law_918 rfl h1 ?_
  refine w_pop2 dL_law_921 rfl rfl ?_
  refine w_aload_n 2 dL_law_922 rfl rfl rfl ?_
  refine s_arg 1 hz hi hL (by decide) dL_law_923 dL_law_924 dL_law_925 (by decide) dL_law_926 dL_law_927 rfl ?_
  refine s_arg 2 hz hi hL (by decide) dL_law_928 dL_law_929 dL_law_930 (by decide) dL_law_931 dL_law_932 rfl ?_
  refine k_X12_chance ml_RL_106 (Nat.le_of_ble_eq_true rfl) ⟨Nat.le_of_ble_eq_true rfl, Nat.le_of_ble_eq_true rfl⟩ dL_law_933 rfl h2 ?_
  refine w_pop2 dL_law_936 rfl rfl ?_
  refine w_goto (tgt := 2281) dL_law_937 (by decide) ?_
  exact h
theorem g_law_22 {Γ : CX} {b L i : Nat} {z : Nat → Int32} {σ s1 s2 : St} {r1 r2 : Int32} (hz : SCR Γ b L z) (hi : i + 6 ≤ L) (hL : L < 2 ^ 31) (h1 : f_X11_send (z (i + 1)) σ = some (r1, s1)) (h2 : f_X12_send (z (i + 1)) s1 = some (r2, s2)) (h : WW Γ cL_law 4 RL ret room_1 s2 2281 [(0, .ref b), (1, .ref (xd Γ 0)), (2, .ref (xd Γ 58)), (3, .int (nI i))] []) : WW Γ cL_law 4 RL ret room_1 σ 940 [(0, .ref b), (1, .ref (xd Γ 0)), (2, .ref (xd Γ 58)), (3, .int (nI i))] [] := by
  refine w_aload_n 1 dL_law_940 rfl rfl rfl ?_
  refine s_arg 1 hz hi hL (by decide) dL_law_941 dL_law_942 dL_law_943 (by decide) dL_law_944 dL_law_945 rfl ?_
  refine k_X11_send ml_RL_107 (Nat.le_of_ble_eq_true rfl) ⟨Nat.le_of_ble_eq_true rfl, Nat.le_of_ble_eq_true rfl⟩ dL_law_946 rfl h1 ?_
  refine w_pop dL_law_949 rfl rfl ?_
  refine w_aload_n 2 dL_law_950 rfl rfl rfl ?_
  refine s_arg 1 hz hi hL (by decide) dL_law_951 dL_law_952 dL_law_953 (by decide) dL_law_954 dL_law_955 rfl ?_
  refine k_X12_send ml_RL_110 (Nat.le_of_ble_eq_true rfl) ⟨Nat.le_of_ble_eq_true rfl, Nat.le_of_ble_eq_true rfl⟩ dL_law_956 rfl h2 ?_
  refine w_pop dL_law_959 rfl rfl ?_
  refine w_goto (tgt := 2281) dL_law_960 (by decide) ?_
  exact h
theorem g_law_23 {Γ : CX} {b L i : Nat} {z : Nat → Int32} {σ s1 s2 : St} {r1 r2 : Int32} (hz : SCR Γ b L z) (hi : i + 6 ≤ L) (hL : L < 2 ^ 31) (h1 : f_X11_sent (z (i + 1)) σ = some (r1, s1)) (h2 : f_X12_sent (z (i + 1)) s1 = some (r2, s2)) (h : WW Γ cL_law 4 RL ret room_1 s2 2281 [(0, .ref b), (1, .ref (xd Γ 0)), (2, .ref (xd Γ 58)), (3, .int (nI i))] []) : WW Γ cL_law 4 RL ret room_1 σ 963 [(0, .ref b), (1, .ref (xd Γ 0)), (2, .ref (xd Γ 58)), (3, .int (nI i))] [] := by
  refine w_aload_n 1 dL_law_963 rfl rfl rfl ?_
  refine s_arg 1 hz hi hL (by decide) dL_law_964 dL_law_965 dL_law_966 (by decide) dL_law_967 dL_law_968 rfl ?_
  refine k_X11_sent ml_RL_111 (Nat.le_of_ble_eq_true rfl) ⟨Nat.le_of_ble_eq_true rfl, Nat.le_of_ble_eq_true rfl⟩ dL_law_969 rfl h1 ?_
  refine w_pop dL_law_972 rfl rfl ?_
  refine w_aload_n 2 dL_law_973 rfl rfl rfl ?_
  refine s_arg 1 hz hi hL (by decide) dL_law_974 dL_law_975 dL_law_976 (by decide) dL_law_977 dL_law_978 rfl ?_
  refine k_X12_sent ml_RL_114 (Nat.le_of_ble_eq_true rfl) ⟨Nat.le_of_ble_eq_true rfl, Nat.le_of_ble_eq_true rfl⟩ dL_law_979 rfl h2 ?_
  refine w_pop dL_law_982 rfl rfl ?_
  refine w_goto (tgt := 2281) dL_law_983 (by decide) ?_
  exact h
theorem g_law_24 {Γ : CX} {b L i : Nat} {z : Nat → Int32} {σ s1 s2 : St} {r1 r2 : Int32} (hz : SCR Γ b L z) (hi : i + 6 ≤ L) (hL : L < 2 ^ 31) (h1 : f_X11_fewest (z (i + 1)) σ = some (r1, s1)) (h2 : f_X12_fewest (z (i + 1)) s1 = some (r2, s2)) (h : WW Γ cL_law 4 RL ret room_1 s2 2281 [(0, .ref b), (1, .ref (xd Γ 0)), (2, .ref (xd Γ 58)), (3, .int (nI i))] []) : WW Γ cL_law 4 RL ret room_1 σ 986 [(0, .ref b), (1, .ref (xd Γ 0)), (2, .ref (xd Γ 58)), (3, .int (nI i))] [] := by
  refine w_aload_n 1 dL_law_986 rfl rfl rfl ?_
  refine s_arg 1 hz hi hL (by decide) dL_law_987 dL_law_988 dL_law_989 (by decide) dL_law_990 dL_law_991 rfl ?_
  refine k_X11_fewest ml_RL_115 (Nat.le_of_ble_eq_true rfl) ⟨Nat.le_of_ble_eq_true rfl, Nat.le_of_ble_eq_true rfl⟩ dL_law_992 rfl h1 ?_
  refine w_pop dL_law_995 rfl rfl ?_
  refine w_aload_n 2 dL_law_996 rfl rfl rfl ?_
  refine s_arg 1 hz hi hL (by decide) dL_law_997 dL_law_998 dL_law_999 (by decide) dL_law_1000 dL_law_1001 rfl ?_
  refine k_X12_fewest ml_RL_118 (Nat.le_of_ble_eq_true rfl) ⟨Nat.le_of_ble_eq_true rfl, Nat.le_of_ble_eq_true rfl⟩ dL_law_1002 rfl h2 ?_
  refine w_pop dL_law_1005 rfl rfl ?_
  refine w_goto (tgt := 2281) dL_law_1006 (by decide) ?_
  exact h
theorem g_law_25 {Γ : CX} {b L i : Nat} {z : Nat → Int32} {σ s1 s2 : St} {r1 r2 : Int32} (hz : SCR Γ b L z) (hi : i + 6 ≤ L) (hL : L < 2 ^ 31) (h1 : f_X11_risk (z (i + 1)) (z (i + 2)) σ = some (r1, s1)) (h2 : f_X12_risk (z (i + 1)) (z (i + 2)) s1 = some (r2, s2)) (h : WW Γ cL_law 4 RL ret room_1 s2 2281 [(0, .ref b), (1, .ref (xd Γ 0)), (2, .ref (xd Γ 58)), (3, .int (nI i))] []) : WW Γ cL_law 4 RL ret room_1 σ 1009 [(0, .ref b), (1, .ref (xd Γ 0)), (2, .ref (xd Γ 58)), (3, .int (nI i))] [] := by
  refine w_aload_n 1 dL_law_1009 rfl rfl rfl ?_
  refine s_arg 1 hz hi hL (by decide) dL_law_1010 dL_law_1011 dL_law_1012 (by decide) dL_law_1013 dL_law_1014 rfl ?_
  refine s_arg 2 hz hi hL (by decide) dL_law_1015 dL_law_1016 dL_law_1017 (by decide) dL_law_1018 dL_law_1019 rfl ?_
  refine k_X11_risk ml_RL_119 (Nat.le_of_ble_eq_true rfl) ⟨Nat.le_of_ble_eq_true rfl, Nat.le_of_ble_eq_true rfl⟩ dL_law_1020 rfl h1 ?_
  refine w_pop dL_law_1023 rfl rfl ?_
  refine w_aload_n 2 dL_law_1024 rfl rfl rfl ?_
  refine s_arg 1 hz hi hL (by decide) dL_law_1025 dL_law_1026 dL_law_1027 (by decide) dL_law_1028 dL_law_1029 rfl ?_
  refine s_arg 2 hz hi hL (by decide) dL_law_1030 dL_law_1031 dL_law_1032 (by decide) dL_law_1033 dL_law_1034 rfl ?_
  refine k_X12_risk ml_RL_122 (Nat.le_of_ble_eq_true rfl) ⟨Nat.le_of_ble_eq_true rfl, Nat.le_of_ble_eq_true rfl⟩ dL_law_1035 rfl h2 ?_
  refine w_pop dL_law_1038 rfl rfl ?_
  refine w_goto (tgt := 2281) dL_law_1039 (by decide) ?_
  exact h
theorem g_law_26 {Γ : CX} {b L i : Nat} {z : Nat → Int32} {σ s1 s2 : St} {r1 r2 : Int32} (hz : SCR Γ b L z) (hi : i + 6 ≤ L) (hL : L < 2 ^ 31) (h1 : f_X11_risked (z (i + 1)) (z (i + 2)) σ = some (r1, s1)) (h2 : f_X12_risked (z (i + 1)) (z (i + 2)) s1 = some (r2, s2)) (h : WW Γ cL_law 4 RL ret room_1 s2 2281 [(0, .ref b), (1, .ref (xd Γ 0)), (2, .ref (xd Γ 58)), (3, .int (nI i))] []) : WW Γ cL_law 4 RL ret room_1 σ 1042 [(0, .ref b), (1, .ref (xd Γ 0)), (2, .ref (xd Γ 58)), (3, .int (nI i))] [] := by
  refine w_aload_n 1 dL_law_1042 rfl rfl rfl ?_
  refine s_arg 1 hz hi hL (by decide) dL_law_1043 dL_law_1044 dL_law_1045 (by decide) dL_law_1046 dL_law_1047 rfl ?_
  refine s_arg 2 hz hi hL (by decide) dL_law_1048 dL_law_1049 dL_law_1050 (by decide) dL_law_1051 dL_law_1052 rfl ?_
  refine k_X11_risked ml_RL_123 (Nat.le_of_ble_eq_true rfl) ⟨Nat.le_of_ble_eq_true rfl, Nat.le_of_ble_eq_true rfl⟩ dL_law_1053 rfl h1 ?_
  refine w_pop dL_law_1056 rfl rfl ?_
  refine w_aload_n 2 dL_law_1057 rfl rfl rfl ?_
  refine s_arg 1 hz hi hL (by decide) dL_law_1058 dL_law_1059 dL_law_1060 (by decide) dL_law_1061 dL_law_1062 rfl ?_
  refine s_arg 2 hz hi hL (by decide) dL_law_1063 dL_law_1064 dL_law_1065 (by decide) dL_law_1066 dL_law_1067 rfl ?_
  refine k_X12_risked ml_RL_126 (Nat.le_of_ble_eq_true rfl) ⟨Nat.le_of_ble_eq_true rfl, Nat.le_of_ble_eq_true rfl⟩ dL_law_1068 rfl h2 ?_
  refine w_pop dL_law_1071 rfl rfl ?_
  refine w_goto (tgt := 2281) dL_law_1072 (by decide) ?_
  exact h
theorem g_law_27 {Γ : CX} {b L i : Nat} {z : Nat → Int32} {σ s1 s2 : St} {r1 r2 : Int32} (hz : SCR Γ b L z) (hi : i + 6 ≤ L) (hL : L < 2 ^ 31) (h1 : f_X11_bribe (z (i + 1)) σ = some (r1, s1)) (h2 : f_X12_bribe (z (i + 1)) s1 = some (r2, s2)) (h : WW Γ cL_law 4 RL ret room_1 s2 2281 [(0, .ref b), (1, .ref (xd Γ 0)), (2, .ref (xd Γ 58)), (3, .int (nI i))] []) : WW Γ cL_law 4 RL ret room_1 σ 1075 [(0, .ref b), (1, .ref (xd Γ 0)), (2, .ref (xd Γ 58)), (3, .int (nI i))] [] := by
  refine w_aload_n 1 dL_law_1075 rfl rfl rfl ?_
  refine s_arg 1 hz hi hL (by decide) dL_law_1076 dL_law_1077 dL_law_1078 (by decide) dL_law_1079 dL_law_1080 rfl ?_
  refine k_X11_bribe ml_RL_127 (Nat.le_of_ble_eq_true rfl) ⟨Nat.le_of_ble_eq_true rfl, Nat.le_of_ble_eq_true rfl⟩ dL_law_1081 rfl h1 ?_
  refine w_pop dL_law_1084 rfl rfl ?_
  refine w_aload_n 2 dL_law_1085 rfl rfl rfl ?_
  refine s_arg 1 hz hi hL (by decide) dL_law_1086 dL_law_1087 dL_law_1088 (by decide) dL_law_1089 dL_law_1090 rfl ?_
  refine k_X12_bribe ml_RL_130 (Nat.le_of_ble_eq_true rfl) ⟨Nat.le_of_ble_eq_true rfl, Nat.le_of_ble_eq_true rfl⟩ dL_law_1091 rfl h2 ?_
  refine w_pop dL_law_1094 rfl rfl ?_
  refine w_goto (tgt := 2281) dL_law_1095 (by decide) ?_
  exact h
theorem g_law_28 {Γ : CX} {b L i : Nat} {z : Nat → Int32} {σ s1 s2 : St} {r1 r2 : Int32} (hz : SCR Γ b L z) (hi : i + 6 ≤ L) (hL : L < 2 ^ 31) (h1 : f_X11_bribed (z (i + 1)) σ = some (r1, s1)) (h2 : f_X12_bribed (z (i + 1)) s1 = some (r2, s2)) (h : WW Γ cL_law 4 RL ret room_1 s2 2281 [(0, .ref b), (1, .ref (xd Γ 0)), (2, .ref (xd Γ 58)), (3, .int (nI i))] []) : WW Γ cL_law 4 RL ret room_1 σ 1098 [(0, .ref b), (1, .ref (xd Γ 0)), (2, .ref (xd Γ 58)), (3, .int (nI i))] [] := by
  refine w_aload_n 1 dL_law_1098 rfl rfl rfl ?_
  refine s_arg 1 hz hi hL (by decide) dL_law_1099 dL_law_1100 dL_law_1101 (by decide) dL_law_1102 dL_law_1103 rfl ?_
  refine k_X11_bribed ml_RL_131 (Nat.le_of_ble_eq_true rfl) ⟨Nat.le_of_ble_eq_true rfl, Nat.le_of_ble_eq_true rfl⟩ dL_law_1104 rfl h1 ?_
  refine w_pop dL_law_1107 rfl rfl ?_
  refine w_aload_n 2 dL_law_1108 rfl rfl rfl ?_
  refine s_arg 1 hz hi hL (by decide) dL_law_1109 dL_law_1110 dL_law_1111 (by decide) dL_law_1112 dL_law_1113 rfl ?_
  refine k_X12_bribed ml_RL_134 (Nat.le_of_ble_eq_true rfl) ⟨Nat.le_of_ble_eq_true rfl, Nat.le_of_ble_eq_true rfl⟩ dL_law_1114 rfl h2 ?_
  refine w_pop dL_law_1117 rfl rfl ?_
  refine w_goto (tgt := 2281) dL_law_1118 (by decide) ?_
  exact h
theorem g_law_29 {Γ : CX} {b L i : Nat} {z : Nat → Int32} {σ s1 s2 : St} {r1 r2 : Int32} (hz : SCR Γ b L z) (hi : i + 6 ≤ L) (hL : L < 2 ^ 31) (h1 : f_X11_guard (z (i + 1)) σ = some (r1, s1)) (h2 : f_X12_guard (z (i + 1)) s1 = some (r2, s2)) (h : WW Γ cL_law 4 RL ret room_1 s2 2281 [(0, .ref b), (1, .ref (xd Γ 0)), (2, .ref (xd Γ 58)), (3, .int (nI i))] []) : WW Γ cL_law 4 RL ret room_1 σ 1121 [(0, .ref b), (1, .ref (xd Γ 0)), (2, .ref (xd Γ 58)), (3, .int (nI i))] [] := by
  refine w_aload_n 1 dL_law_1121 rfl rfl rfl ?_
  refine s_arg 1 hz hi hL (by decide) dL_law_1122 dL_law_1123 dL_law_1124 (by decide) dL_law_1125 dL_law_1126 rfl ?_
  refine k_X11_guard ml_RL_135 (Nat.le_of_ble_eq_true rfl) ⟨Nat.le_of_ble_eq_true rfl, Nat.le_of_ble_eq_true rfl⟩ dL_law_1127 rfl h1 ?_
  refine w_pop dL_law_1130 rfl rfl ?_
  refine w_aload_n 2 dL_law_1131 rfl rfl rfl ?_
  refine s_arg 1 hz hi hL (by decide) dL_law_1132 dL_law_1133 dL_law_1134 (by decide) dL_law_1135 dL_law_1136 rfl ?_
  refine k_X12_guard ml_RL_138 (Nat.le_of_ble_eq_true rfl) ⟨Nat.le_of_ble_eq_true rfl, Nat.le_of_ble_eq_true rfl⟩ dL_law_1137 rfl h2 ?_
  refine w_pop dL_law_1140 rfl rfl ?_
  refine w_goto (tgt := 2281) dL_law_1141 (by decide) ?_
  exact h
theorem g_law_30 {Γ : CX} {b L i : Nat} {z : Nat → Int32} {σ s1 s2 : St} {r1 r2 : Int32} (hz : SCR Γ b L z) (hi : i + 6 ≤ L) (hL : L < 2 ^ 31) (h1 : f_X11_guarded (z (i + 1)) σ = some (r1, s1)) (h2 : f_X12_guarded (z (i + 1)) s1 = some (r2, s2)) (h : WW Γ cL_law 4 RL ret room_1 s2 2281 [(0, .ref b), (1, .ref (xd Γ 0)), (2, .ref (xd Γ 58)), (3, .int (nI i))] []) : WW Γ cL_law 4 RL ret room_1 σ 1144 [(0, .ref b), (1, .ref (xd Γ 0)), (2, .ref (xd Γ 58)), (3, .int (nI i))] [] := by
  refine w_aload_n 1 dL_law_1144 rfl rfl rfl ?_
  refine s_arg 1 hz hi hL (by decide) dL_law_1145 dL_law_1146 dL_law_1147 (by decide) dL_law_1148 dL_law_1149 rfl ?_
  refine k_X11_guarded ml_RL_139 (Nat.le_of_ble_eq_true rfl) ⟨Nat.le_of_ble_eq_true rfl, Nat.le_of_ble_eq_true rfl⟩ dL_law_1150 rfl h1 ?_
  refine w_pop dL_law_1153 rfl rfl ?_
  refine w_aload_n 2 dL_law_1154 rfl rfl rfl ?_
  refine s_arg 1 hz hi hL (by decide) dL_law_1155 dL_law_1156 dL_law_1157 (by decide) dL_law_1158 dL_law_1159 rfl ?_
  refine k_X12_guarded ml_RL_142 (Nat.le_of_ble_eq_true rfl) ⟨Nat.le_of_ble_eq_true rfl, Nat.le_of_ble_eq_true rfl⟩ dL_law_1160 rfl h2 ?_
  refine w_pop dL_law_1163 rfl rfl ?_
  refine w_goto (tgt := 2281) dL_law_1164 (by decide) ?_
  exact h
theorem g_law_31 {Γ : CX} {b L i : Nat} {z : Nat → Int32} {σ s1 s2 : St} {r1 r2 : Int32} (hz : SCR Γ b L z) (hi : i + 6 ≤ L) (hL : L < 2 ^ 31) (h1 : f_X11_spoil (z (i + 1)) (z (i + 2)) σ = some (r1, s1)) (h2 : f_X12_spoil (z (i + 1)) (z (i + 2)) s1 = some (r2, s2)) (h : WW Γ cL_law 4 RL ret room_1 s2 2281 [(0, .ref b), (1, .ref (xd Γ 0)), (2, .ref (xd Γ 58)), (3, .int (nI i))] []) : WW Γ cL_law 4 RL ret room_1 σ 1167 [(0, .ref b), (1, .ref (xd Γ 0)), (2, .ref (xd Γ 58)), (3, .int (nI i))] [] := by
  refine w_aload_n 1 dL_law_1167 rfl rfl rfl ?_
  refine s_arg 1 hz hi hL (by decide) dL_law_1168 dL_law_1169 dL_law_1170 (by decide) dL_law_1171 dL_law_1172 rfl ?_
  refine s_arg 2 hz hi hL (by decide) dL_law_1173 dL_law_1174 dL_law_1175 (by decide) dL_law_1176 dL_law_1177 rfl ?_
  refine k_X11_spoil ml_RL_143 (Nat.le_of_ble_eq_true rfl) ⟨Nat.le_of_ble_eq_true rfl, Nat.le_of_ble_eq_true rfl⟩ dL_law_1178 rfl h1 ?_
  refine w_pop dL_law_1181 rfl rfl ?_
  refine w_aload_n 2 dL_law_1182 rfl rfl rfl ?_
  refine s_arg 1 hz hi hL (by decide) dL_law_1183 dL_law_1184 dL_law_1185 (by decide) dL_law_1186 dL_law_1187 rfl ?_
  refine s_arg 2 hz hi hL (by decide) dL_law_1188 dL_law_1189 dL_law_1190 (by decide) dL_law_1191 dL_law_1192 rfl ?_
  refine k_X12_spoil ml_RL_146 (Nat.le_of_ble_eq_true rfl) ⟨Nat.le_of_ble_eq_true rfl, Nat.le_of_ble_eq_true rfl⟩ dL_law_1193 rfl h2 ?_
  refine w_pop dL_law_1196 rfl rfl ?_
  refine w_goto (tgt := 2281) dL_law_1197 (by decide) ?_
  exact h
theorem g_law_32 {Γ : CX} {b L i : Nat} {z : Nat → Int32} {σ s1 s2 : St} {r1 r2 : Int32} (hz : SCR Γ b L z) (hi : i + 6 ≤ L) (hL : L < 2 ^ 31) (h1 : f_X11_spoils (z (i + 1)) (z (i + 2)) σ = some (r1, s1)) (h2 : f_X12_spoils (z (i + 1)) (z (i + 2)) s1 = some (r2, s2)) (h : WW Γ cL_law 4 RL ret room_1 s2 2281 [(0, .ref b), (1, .ref (xd Γ 0)), (2, .ref (xd Γ 58)), (3, .int (nI i))] []) : WW Γ cL_law 4 RL ret room_1 σ 1200 [(0, .ref b), (1, .ref (xd Γ 0)), (2, .ref (xd Γ 58)), (3, .int (nI i))] [] := by
  refine w_aload_n 1 dL_law_1200 rfl rfl rfl ?_
  refine s_arg 1 hz hi hL (by decide) dL_law_1201 dL_law_1202 dL_law_1203 (by decide) dL_law_1204 dL_law_1205 rfl ?_
  refine s_arg 2 hz hi hL (by decide) dL_law_1206 dL_law_1207 dL_law_1208 (by decide) dL_law_1209 dL_law_1210 rfl ?_
  refine k_X11_spoils ml_RL_147 (Nat.le_of_ble_eq_true rfl) ⟨Nat.le_of_ble_eq_true rfl, Nat.le_of_ble_eq_true rfl⟩ dL_law_1211 rfl h1 ?_
  refine w_pop dL_law_1214 rfl rfl ?_
  refine w_aload_n 2 dL_law_1215 rfl rfl rfl ?_
  refine s_arg 1 hz hi hL (by decide) dL_law_1216 dL_law_1217 dL_law_1218 (by decide) dL_law_1219 dL_law_1220 rfl ?_
  refine s_arg 2 hz hi hL (by decide) dL_law_1221 dL_law_1222 dL_law_1223 (by decide) dL_law_1224 dL_law_1225 rfl ?_
  refine k_X12_spoils ml_RL_150 (Nat.le_of_ble_eq_true rfl) ⟨Nat.le_of_ble_eq_true rfl, Nat.le_of_ble_eq_true rfl⟩ dL_law_1226 rfl h2 ?_
  refine w_pop dL_law_1229 rfl rfl ?_
  refine w_goto (tgt := 2281) dL_law_1230 (by decide) ?_
  exact h
theorem g_law_33 {Γ : CX} {b L i : Nat} {z : Nat → Int32} {σ s1 s2 : St} {r1 r2 : Int32} (hz : SCR Γ b L z) (hi : i + 6 ≤ L) (hL : L < 2 ^ 31) (h1 : f_X11_answer (z (i + 1)) (z (i + 2)) σ = some (r1, s1)) (h2 : f_X12_answer (z (i + 1)) (z (i + 2)) s1 = some (r2, s2)) (h : WW Γ cL_law 4 RL ret room_1 s2 2281 [(0, .ref b), (1, .ref (xd Γ 0)), (2, .ref (xd Γ 58)), (3, .int (nI i))] []) : WW Γ cL_law 4 RL ret room_1 σ 1233 [(0, .ref b), (1, .ref (xd Γ 0)), (2, .ref (xd Γ 58)), (3, .int (nI i))] [] := by
  refine w_aload_n 1 dL_law_1233 rfl rfl rfl ?_
  refine s_arg 1 hz hi hL (by decide) dL_law_1234 dL_law_1235 dL_law_1236 (by decide) dL_law_1237 dL_law_1238 rfl ?_
  refine s_arg 2 hz hi hL (by decide) dL_law_1239 dL_law_1240 dL_law_1241 (by decide) dL_law_1242 dL_law_1243 rfl ?_
  refine k_X11_answer ml_RL_151 (Nat.le_of_ble_eq_true rfl) ⟨Nat.le_of_ble_eq_true rfl, Nat.le_of_ble_eq_true rfl⟩ dL_law_1244 rfl h1 ?_
  refine w_pop dL_law_1247 rfl rfl ?_
  refine w_aload_n 2 dL_law_1248 rfl rfl rfl ?_
  refine s_arg 1 hz hi hL (by decide) dL_law_1249 dL_law_1250 dL_law_1251 (by decide) dL_law_1252 dL_law_1253 rfl ?_
  refine s_arg 2 hz hi hL (by decide) dL_law_1254 dL_law_1255 dL_law_1256 (by decide) dL_law_1257 dL_law_1258 rfl ?_
  refine k_X12_answer ml_RL_154 (Nat.le_of_ble_eq_true rfl) ⟨Nat.le_of_ble_eq_true rfl, Nat.le_of_ble_eq_true rfl⟩ dL_law_1259 rfl h2 ?_
  refine w_pop dL_law_1262 rfl rfl ?_
  refine w_goto (tgt := 2281) dL_law_1263 (by decide) ?_
  exact h
theorem g_law_34 {Γ : CX} {b L i : Nat} {z : Nat → Int32} {σ s1 s2 : St} {r1 r2 : Int32} (hz : SCR Γ b L z) (hi : i + 6 ≤ L) (hL : L < 2 ^ 31) (h1 : f_X11_rests (z (i + 1)) σ = some (r1, s1)) (h2 : f_X12_rests (z (i + 1)) s1 = some (r2, s2)) (h : WW Γ cL_law 4 RL ret room_1 s2 2281 [(0, .ref b), (1, .ref (xd Γ 0)), (2, .ref (xd Γ 58)), (3, .int (nI i))] []) : WW Γ cL_law 4 RL ret room_1 σ 1266 [(0, .ref b), (1, .ref (xd Γ 0)), (2, .ref (xd Γ 58)), (3, .int (nI i))] [] := by
  refine w_aload_n 1 dL_law_1266 rfl rfl rfl ?_
  refine s_arg 1 hz hi hL (by decide) dL_law_1267 dL_law_1268 dL_law_1269 (by decide) dL_law_1270 dL_law_1271 rfl ?_
  refine k_X11_rests ml_RL_155 (Nat.le_of_ble_eq_true rfl) ⟨Nat.le_of_ble_eq_true rfl, Nat.le_of_ble_eq_true rfl⟩ dL_law_1272 rfl h1 ?_
  refine w_pop dL_law_1275 rfl rfl ?_
  refine w_aload_n 2 dL_law_1276 rfl rfl rfl ?_
  refine s_arg 1 hz hi hL (by decide) dL_law_1277 dL_law_1278 dL_law_1279 (by decide) dL_law_1280 dL_law_1281 rfl ?_
  refine k_X12_rests ml_RL_158 (Nat.le_of_ble_eq_true rfl) ⟨Nat.le_of_ble_eq_true rfl, Nat.le_of_ble_eq_true rfl⟩ dL_law_1282 rfl h2 ?_
  refine w_pop dL_law_1285 rfl rfl ?_
  refine w_goto (tgt := 2281) dL_law_1286 (by decide) ?_
  exact h
theorem g_law_35 {Γ : CX} {b L i : Nat} {z : Nat → Int32} {σ s1 s2 : St} {r1 r2 : Int32} (hz : SCR Γ b L z) (hi : i + 6 ≤ L) (hL : L < 2 ^ 31) (h1 : f_X11_since (z (i + 1)) (z (i + 2)) σ = some (r1, s1)) (h2 : f_X12_since (z (i + 1)) (z (i + 2)) s1 = some (r2, s2)) (h : WW Γ cL_law 4 RL ret room_1 s2 2281 [(0, .ref b), (1, .ref (xd Γ 0)), (2, .ref (xd Γ 58)), (3, .int (nI i))] []) : WW Γ cL_law 4 RL ret room_1 σ 1289 [(0, .ref b), (1, .ref (xd Γ 0)), (2, .ref (xd Γ 58)), (3, .int (nI i))] [] := by
  refine w_aload_n 1 dL_law_1289 rfl rfl rfl ?_
  refine s_arg 1 hz hi hL (by decide) dL_law_1290 dL_law_1291 dL_law_1292 (by decide) dL_law_1293 dL_law_1294 rfl ?_
  refine s_arg 2 hz hi hL (by decide) dL_law_1295 dL_law_1296 dL_law_1297 (by decide) dL_law_1298 dL_law_1299 rfl ?_
  refine k_X11_since ml_RL_159 (Nat.le_of_ble_eq_true rfl) ⟨Nat.le_of_ble_eq_true rfl, Nat.le_of_ble_eq_true rfl⟩ dL_law_1300 rfl h1 ?_
  refine w_pop dL_law_1303 rfl rfl ?_
  refine w_aload_n 2 dL_law_1304 rfl rfl rfl ?_
  refine s_arg 1 hz hi hL (by decide) dL_law_1305 dL_law_1306 dL_law_1307 (by decide) dL_law_1308 dL_law_1309 rfl ?_
  refine s_arg 2 hz hi hL (by decide) dL_law_1310 dL_law_1311 dL_law_1312 (by decide) dL_law_1313 dL_law_1314 rfl ?_
  refine k_X12_since ml_RL_162 (Nat.le_of_ble_eq_true rfl) ⟨Nat.le_of_ble_eq_true rfl, Nat.le_of_ble_eq_true rfl⟩ dL_law_1315 rfl h2 ?_
  refine w_pop dL_law_1318 rfl rfl ?_
  refine w_goto (tgt := 2281) dL_law_1319 (by decide) ?_
  exact h
theorem g_law_36 {Γ : CX} {b L i : Nat} {z : Nat → Int32} {σ s1 s2 : St} {r1 r2 : Int32} (hz : SCR Γ b L z) (hi : i + 6 ≤ L) (hL : L < 2 ^ 31) (h1 : f_X11_comes (z (i + 1)) (z (i + 2)) σ = some (r1, s1)) (h2 : f_X12_comes (z (i + 1)) (z (i + 2)) s1 = some (r2, s2)) (h : WW Γ cL_law 4 RL ret room_1 s2 2281 [(0, .ref b), (1, .ref (xd Γ 0)), (2, .ref (xd Γ 58)), (3, .int (nI i))] []) : WW Γ cL_law 4 RL ret room_1 σ 1322 [(0, .ref b), (1, .ref (xd Γ 0)), (2, .ref (xd Γ 58)), (3, .int (nI i))] [] := by
  refine w_aload_n 1 dL_law_1322 rfl rfl rfl ?_
  refine s_arg 1 hz hi hL (by decide) dL_law_1323 dL_law_1324 dL_law_1325 (by decide) dL_law_1326 dL_law_1327 rfl ?_
  refine s_arg 2 hz hi hL (by decide) dL_law_1328 dL_law_1329 dL_law_1330 (by decide) dL_law_1331 dL_law_1332 rfl ?_
  refine k_X11_comes ml_RL_163 (Nat.le_of_ble_eq_true rfl) ⟨Nat.le_of_ble_eq_true rfl, Nat.le_of_ble_eq_true rfl⟩ dL_law_1333 rfl h1 ?_
  refine w_pop dL_law_1336 rfl rfl ?_
  refine w_aload_n 2 dL_law_1337 rfl rfl rfl ?_
  refine s_arg 1 hz hi hL (by decide) dL_law_1338 dL_law_1339 dL_law_1340 (by decide) dL_law_1341 dL_law_1342 rfl ?_
  refine s_arg 2 hz hi hL (by decide) dL_law_1343 dL_law_1344 dL_law_1345 (by decide) dL_law_1346 dL_law_1347 rfl ?_
  refine k_X12_comes ml_RL_166 (Nat.le_of_ble_eq_true rfl) ⟨Nat.le_of_ble_eq_true rfl, Nat.le_of_ble_eq_true rfl⟩ dL_law_1348 rfl h2 ?_
  refine w_pop dL_law_1351 rfl rfl ?_
  refine w_goto (tgt := 2281) dL_law_1352 (by decide) ?_
  exact h
theorem g_law_37 {Γ : CX} {b L i : Nat} {z : Nat → Int32} {σ s1 s2 : St} {r1 r2 : Int64} (hz : SCR Γ b L z) (hi : i + 6 ≤ L) (hL : L < 2 ^ 31) (h1 : f_X11_even (z (i + 1)) σ = some (r1, s1)) (h2 : f_X12_even (z (i + 1)) s1 = some (r2, s2)) (h : WW Γ cL_law 4 RL ret room_1 s2 2281 [(0, .ref b), (1, .ref (xd Γ 0)), (2, .ref (xd Γ 58)), (3, .int (nI i))] []) : WW Γ cL_law 4 RL ret room_1 σ 1355 [(0, .ref b), (1, .ref (xd Γ 0)), (2, .ref (xd Γ 58)), (3, .int (nI i))] [] := by
  refine w_aload_n 1 dL_law_1355 rfl rfl rfl ?_
  refine s_arg 1 hz hi hL (by decide) dL_law_1356 dL_law_1357 dL_law_1358 (by decide) dL_law_1359 dL_law_1360 rfl ?_
  refine k_X11_even ml_RL_167 (Nat.le_of_ble_eq_true rfl) ⟨Nat.le_of_ble_eq_true rfl, Nat.le_of_ble_eq_true rfl⟩ dL_law_1361 rfl h1 ?_
  refine w_pop2 dL_law_1364 rfl rfl ?_
  refine w_aload_n 2 dL_law_1365 rfl rfl rfl ?_
  refine s_arg 1 hz hi hL (by decide) dL_law_1366 dL_law_1367 dL_law_1368 (by decide) dL_law_1369 dL_law_1370 rfl ?_
  refine k_X12_even ml_RL_171 (Nat.le_of_ble_eq_true rfl) ⟨Nat.le_of_ble_eq_true rfl, Nat.le_of_ble_eq_true rfl⟩ dL_law_1371 rfl h2 ?_
  refine w_pop2 dL_law_1374 rfl rfl ?_
  refine w_goto (tgt := 2281) dL_law_1375 (by decide) ?_
  exact h
theorem g_law_38 {Γ : CX} {b L i : Nat} {z : Nat → Int32} {σ s1 s2 : St} {r1 r2 : Int32} (hz : SCR Γ b L z) (hi : i + 6 ≤ L) (hL : L < 2 ^ 31) (h1 : f_X11_hold (z (i + 1)) (z (i + 2)) σ = some (r1, s1)) (h2 : f_X12_hold (z (i + 1)) (z (i + 2)) s1 = some (r2, s2)) (h : WW Γ cL_law 4 RL ret room_1 s2 2281 [(0, .ref b), (1, .ref (xd Γ 0)), (2, .ref (xd Γ 58)), (3, .int (nI i))] []) : WW Γ cL_law 4 RL ret room_1 σ 1378 [(0, .ref b), (1, .ref (xd Γ 0)), (2, .ref (xd Γ 58)), (3, .int (nI i))] [] := by
  refine w_aload_n 1 dL_law_1378 rfl rfl rfl ?_
  refine s_arg 1 hz hi hL (by decide) dL_law_1379 dL_law_1380 dL_law_1381 (by decide) dL_law_1382 dL_law_1383 rfl ?_
  refine s_arg 2 hz hi hL (by decide) dL_law_1384 dL_law_1385 dL_law_1386 (by decide) dL_law_1387 dL_law_1388 rfl ?_
  refine k_X11_hold ml_RL_172 (Nat.le_of_ble_eq_true rfl) ⟨Nat.le_of_ble_eq_true rfl, Nat.le_of_ble_eq_true rfl⟩ dL_law_1389 rfl h1 ?_
  refine w_pop dL_law_1392 rfl rfl ?_
  refine w_aload_n 2 dL_law_1393 rfl rfl rfl ?_
  refine s_arg 1 hz hi hL (by decide) dL_law_1394 dL_law_1395 dL_law_1396 (by decide) dL_law_1397 dL_law_1398 rfl ?_
  refine s_arg 2 hz hi hL (by decide) dL_law_1399 dL_law_1400 dL_law_1401 (by decide) dL_law_1402 dL_law_1403 rfl ?_
  refine k_X12_hold ml_RL_175 (Nat.le_of_ble_eq_true rfl) ⟨Nat.le_of_ble_eq_true rfl, Nat.le_of_ble_eq_true rfl⟩ dL_law_1404 rfl h2 ?_
  refine w_pop dL_law_1407 rfl rfl ?_
  refine w_goto (tgt := 2281) dL_law_1408 (by decide) ?_
  exact h
theorem g_law_39 {Γ : CX} {b L i : Nat} {z : Nat → Int32} {σ s1 s2 : St} {r1 r2 : Int32} (hz : SCR Γ b L z) (hi : i + 6 ≤ L) (hL : L < 2 ^ 31) (h1 : f_X11_holds (z (i + 1)) (z (i + 2)) (z (i + 3)) σ = some (r1, s1)) (h2 : f_X12_holds (z (i + 1)) (z (i + 2)) (z (i + 3)) s1 = some (r2, s2)) (h : WW Γ cL_law 4 RL ret room_1 s2 2281 [(0, .ref b), (1, .ref (xd Γ 0)), (2, .ref (xd Γ 58)), (3, .int (nI i))] []) : WW Γ cL_law 4 RL ret room_1 σ 1411 [(0, .ref b), (1, .ref (xd Γ 0)), (2, .ref (xd Γ 58)), (3, .int (nI i))] [] := by
  refine w_aload_n 1 dL_law_1411 rfl rfl rfl ?_
  refine s_arg 1 hz hi hL (by decide) dL_law_1412 dL_law_1413 dL_law_1414 (by decide) dL_law_1415 dL_law_1416 rfl ?_
  refine s_arg 2 hz hi hL (by decide) dL_law_1417 dL_law_1418 dL_law_1419 (by decide) dL_law_1420 dL_law_1421 rfl ?_
  refine s_arg 3 hz hi hL (by decide) dL_law_1422 dL_law_1423 dL_law_1424 (by decide) dL_law_1425 dL_law_1426 rfl ?_
  refine k_X11_holds ml_RL_176 (Nat.le_of_ble_eq_true rfl) ⟨Nat.le_of_ble_eq_true rfl, Nat.le_of_ble_eq_true rfl⟩ dL_law_1427 rfl h1 ?_
  refine w_pop dL_law_1430 rfl rfl ?_
  refine w_aload_n 2 dL_law_1431 rfl rfl rfl ?_
  refine s_arg 1 hz hi hL (by decide) dL_law_1432 dL_law_1433 dL_law_1434 (by decide) dL_law_1435 dL_law_1436 rfl ?_
  refine s_arg 2 hz hi hL (by decide) dL_law_1437 dL_law_1438 dL_law_1439 (by decide) dL_law_1440 dL_law_1441 rfl ?_
  refine s_arg 3 hz hi hL (by decide) dL_law_1442 dL_law_1443 dL_law_1444 (by decide) dL_law_1445 dL_law_1446 rfl ?_
  refine k_X12_holds ml_RL_179 (Nat.le_of_ble_eq_true rfl) ⟨Nat.le_of_ble_eq_true rfl, Nat.le_of_ble_eq_true rfl⟩ dL_law_1447 rfl h2 ?_
  refine w_pop dL_law_1450 rfl rfl ?_
  refine w_goto (tgt := 2281) dL_law_1451 (by decide) ?_
  exact h
theorem g_law_40 {Γ : CX} {b L i : Nat} {z : Nat → Int32} {σ s1 s2 : St} {r1 r2 : Int32} (hz : SCR Γ b L z) (hi : i + 6 ≤ L) (hL : L < 2 ^ 31) (h1 : f_X11_reply (z (i + 1)) (z (i + 2)) (z (i + 3)) σ = some (r1, s1)) (h2 : f_X12_reply (z (i + 1)) (z (i + 2)) (z (i + 3)) s1 = some (r2, s2)) (he : r1 = r2) (h : WW Γ cL_law 4 RL ret room_1 s2 2281 [(0, .ref b), (1, .ref (xd Γ 0)), (2, .ref (xd Γ 58)), (3, .int (nI i))] []) : WW Γ cL_law 4 RL ret room_1 σ 1454 [(0, .ref b), (1, .ref (xd Γ 0)), (2, .ref (xd Γ 58)), (3, .int (nI i))] [] := by
  refine w_aload_n 1 dL_law_1454 rfl rfl rfl ?_
  refine s_arg 1 hz hi hL (by decide) dL_law_1455 dL_law_1456 dL_law_1457 (by decide) dL_law_1458 dL_law_1459 rfl ?_
  refine s_arg 2 hz hi hL (by decide) dL_law_1460 dL_law_1461 dL_law_1462 (by decide) dL_law_1463 dL_law_1464 rfl ?_
  refine s_arg 3 hz hi hL (by decide) dL_law_1465 dL_law_1466 dL_law_1467 (by decide) dL_law_1468 dL_law_1469 rfl ?_
  refine k_X11_reply ml_RL_180 (Nat.le_of_ble_eq_true rfl) ⟨Nat.le_of_ble_eq_true rfl, Nat.le_of_ble_eq_true rfl⟩ dL_law_1470 rfl h1 ?_
  refine w_aload_n 2 dL_law_1473 rfl rfl rfl ?_
  refine s_arg 1 hz hi hL (by decide) dL_law_1474 dL_law_1475 dL_law_1476 (by decide) dL_law_1477 dL_law_1478 rfl ?_
  refine s_arg 2 hz hi hL (by decide) dL_law_1479 dL_law_1480 dL_law_1481 (by decide) dL_law_1482 dL_law_1483 rfl ?_
  refine s_arg 3 hz hi hL (by decide) dL_law_1484 dL_law_1485 dL_law_1486 (by decide) dL_law_1487 dL_law_1488 rfl ?_
  refine k_X12_reply ml_RL_183 (Nat.le_of_ble_eq_true rfl) ⟨Nat.le_of_ble_eq_true rfl, Nat.le_of_ble_eq_true rfl⟩ dL_law_1489 rfl h2 ?_
  refine w_icmp_eq (tgt := 2281) dL_law_1492 (by decide) rfl (fun _ => ?_) (fun q => absurd he q)
  exact h
theorem g_law_41 {Γ : CX} {b L i : Nat} {z : Nat → Int32} {σ s1 s2 : St} {r1 r2 : Int32} (hz : SCR Γ b L z) (hi : i + 6 ≤ L) (hL : L < 2 ^ 31) (h1 : f_X11_readings (z (i + 1)) σ = some (r1, s1)) (h2 : f_X12_readings (z (i + 1)) s1 = some (r2, s2)) (h : WW Γ cL_law 4 RL ret room_1 s2 2281 [(0, .ref b), (1, .ref (xd Γ 0)), (2, .ref (xd Γ 58)), (3, .int (nI i))] []) : WW Γ cL_law 4 RL ret room_1 σ 1497 [(0, .ref b), (1, .ref (xd Γ 0)), (2, .ref (xd Γ 58)), (3, .int (nI i))] [] := by
  refine w_aload_n 1 dL_law_1497 rfl rfl rfl ?_
  refine s_arg 1 hz hi hL (by decide) dL_law_1498 dL_law_1499 dL_law_1500 (by decide) dL_law_1501 dL_law_1502 rfl ?_
  refine k_X11_readings ml_RL_184 (Nat.le_of_ble_eq_true rfl) ⟨Nat.le_of_ble_eq_true rfl, Nat.le_of_ble_eq_true rfl⟩ dL_law_1503 rfl h1 ?_
  refine w_pop dL_law_1506 rfl rfl ?_
  refine w_aload_n 2 dL_law_1507 rfl rfl rfl ?_
  refine s_arg 1 hz hi hL (by decide) dL_law_1508 dL_law_1509 dL_law_1510 (by decide) dL_law_1511 dL_law_1512 rfl ?_
  refine k_X12_readings ml_RL_187 (Nat.le_of_ble_eq_true rfl) ⟨Nat.le_of_ble_eq_true rfl, Nat.le_of_ble_eq_true rfl⟩ dL_law_1513 rfl h2 ?_
  refine w_pop dL_law_1516 rfl rfl ?_
  refine w_goto (tgt := 2281) dL_law_1517 (by decide) ?_
  exact h
theorem g_law_42 {Γ : CX} {b L i : Nat} {z : Nat → Int32} {σ s1 s2 : St} {r1 r2 : Int64} (hz : SCR Γ b L z) (hi : i + 6 ≤ L) (hL : L < 2 ^ 31) (h1 : f_X11_loopholes σ = some (r1, s1)) (h2 : f_X12_loopholes s1 = some (r2, s2)) (h : WW Γ cL_law 4 RL ret room_1 s2 2281 [(0, .ref b), (1, .ref (xd Γ 0)), (2, .ref (xd Γ 58)), (3, .int (nI i))] []) : WW Γ cL_law 4 RL ret room_1 σ 1520 [(0, .ref b), (1, .ref (xd Γ 0)), (2, .ref (xd Γ 58)), (3, .int (nI i))] [] := by
  refine w_aload_n 1 dL_law_1520 rfl rfl rfl ?_
  refine k_X11_loopholes ml_RL_188 (Nat.le_of_ble_eq_true rfl) ⟨Nat.le_of_ble_eq_true rfl, Nat.le_of_ble_eq_true rfl⟩ dL_law_1521 rfl h1 ?_
  refine w_pop2 dL_law_1524 rfl rfl ?_
  refine w_aload_n 2 dL_law_1525 rfl rfl rfl ?_
  refine k_X12_loopholes ml_RL_192 (Nat.le_of_ble_eq_true rfl) ⟨Nat.le_of_ble_eq_true rfl, Nat.le_of_ble_eq_true rfl⟩ dL_law_1526 rfl h2 ?_
  refine w_pop2 dL_law_1529 rfl rfl ?_
  refine w_goto (tgt := 2281) dL_law_1530 (by decide) ?_
  exact h
theorem g_law_43 {Γ : CX} {b L i : Nat} {z : Nat → Int32} {σ s1 s2 : St} {r1 r2 : Int32} (hz : SCR Γ b L z) (hi : i + 6 ≤ L) (hL : L < 2 ^ 31) (h1 : f_X11_close (z (i + 1)) σ = some (r1, s1)) (h2 : f_X12_close (z (i + 1)) s1 = some (r2, s2)) (h : WW Γ cL_law 4 RL ret room_1 s2 2281 [(0, .ref b), (1, .ref (xd Γ 0)), (2, .ref (xd Γ 58)), (3, .int (nI i))] []) : WW Γ cL_law 4 RL ret room_1 σ 1533 [(0, .ref b), (1, .ref (xd Γ 0)), (2, .ref (xd Γ 58)), (3, .int (nI i))] [] := by
  refine w_aload_n 1 dL_law_1533 rfl rfl rfl ?_
  refine s_arg 1 hz hi hL (by decide) dL_law_1534 dL_law_1535 dL_law_1536 (by decide) dL_law_1537 dL_law_1538 rfl ?_
  refine k_X11_close ml_RL_193 (Nat.le_of_ble_eq_true rfl) ⟨Nat.le_of_ble_eq_true rfl, Nat.le_of_ble_eq_true rfl⟩ dL_law_1539 rfl h1 ?_
  refine w_pop dL_law_1542 rfl rfl ?_
  refine w_aload_n 2 dL_law_1543 rfl rfl rfl ?_
  refine s_arg 1 hz hi hL (by decide) dL_law_1544 dL_law_1545 dL_law_1546 (by decide) dL_law_1547 dL_law_1548 rfl ?_
  refine k_X12_close ml_RL_196 (Nat.le_of_ble_eq_true rfl) ⟨Nat.le_of_ble_eq_true rfl, Nat.le_of_ble_eq_true rfl⟩ dL_law_1549 rfl h2 ?_
  refine w_pop dL_law_1552 rfl rfl ?_
  refine w_goto (tgt := 2281) dL_law_1553 (by decide) ?_
  exact h
theorem g_law_44 {Γ : CX} {b L i : Nat} {z : Nat → Int32} {σ s1 s2 : St} {r1 r2 : Int32} (hz : SCR Γ b L z) (hi : i + 6 ≤ L) (hL : L < 2 ^ 31) (h1 : f_X11_closed (z (i + 1)) σ = some (r1, s1)) (h2 : f_X12_closed (z (i + 1)) s1 = some (r2, s2)) (h : WW Γ cL_law 4 RL ret room_1 s2 2281 [(0, .ref b), (1, .ref (xd Γ 0)), (2, .ref (xd Γ 58)), (3, .int (nI i))] []) : WW Γ cL_law 4 RL ret room_1 σ 1556 [(0, .ref b), (1, .ref (xd Γ 0)), (2, .ref (xd Γ 58)), (3, .int (nI i))] [] := by
  refine w_aload_n 1 dL_law_1556 rfl rfl rfl ?_
  refine s_arg 1 hz hi hL (by decide) dL_law_1557 dL_law_1558 dL_law_1559 (by decide) dL_law_1560 dL_law_1561 rfl ?_
  refine k_X11_closed ml_RL_197 (Nat.le_of_ble_eq_true rfl) ⟨Nat.le_of_ble_eq_true rfl, Nat.le_of_ble_eq_true rfl⟩ dL_law_1562 rfl h1 ?_
  refine w_pop dL_law_1565 rfl rfl ?_
  refine w_aload_n 2 dL_law_1566 rfl rfl rfl ?_
  refine s_arg 1 hz hi hL (by decide) dL_law_1567 dL_law_1568 dL_law_1569 (by decide) dL_law_1570 dL_law_1571 rfl ?_
  refine k_X12_closed ml_RL_200 (Nat.le_of_ble_eq_true rfl) ⟨Nat.le_of_ble_eq_true rfl, Nat.le_of_ble_eq_true rfl⟩ dL_law_1572 rfl h2 ?_
  refine w_pop dL_law_1575 rfl rfl ?_
  refine w_goto (tgt := 2281) dL_law_1576 (by decide) ?_
  exact h
theorem g_law_45 {Γ : CX} {b L i : Nat} {z : Nat → Int32} {σ s1 s2 : St} {r1 r2 : Int32} (hz : SCR Γ b L z) (hi : i + 6 ≤ L) (hL : L < 2 ^ 31) (h1 : f_X11_signs σ = some (r1, s1)) (h2 : f_X12_signs s1 = some (r2, s2)) (h : WW Γ cL_law 4 RL ret room_1 s2 2281 [(0, .ref b), (1, .ref (xd Γ 0)), (2, .ref (xd Γ 58)), (3, .int (nI i))] []) : WW Γ cL_law 4 RL ret room_1 σ 1579 [(0, .ref b), (1, .ref (xd Γ 0)), (2, .ref (xd Γ 58)), (3, .int (nI i))] [] := by
  refine w_aload_n 1 dL_law_1579 rfl rfl rfl ?_
  refine k_X11_signs ml_RL_201 (Nat.le_of_ble_eq_true rfl) ⟨Nat.le_of_ble_eq_true rfl, Nat.le_of_ble_eq_true rfl⟩ dL_law_1580 rfl h1 ?_
  refine w_pop dL_law_1583 rfl rfl ?_
  refine w_aload_n 2 dL_law_1584 rfl rfl rfl ?_
  refine k_X12_signs ml_RL_204 (Nat.le_of_ble_eq_true rfl) ⟨Nat.le_of_ble_eq_true rfl, Nat.le_of_ble_eq_true rfl⟩ dL_law_1585 rfl h2 ?_
  refine w_pop dL_law_1588 rfl rfl ?_
  refine w_goto (tgt := 2281) dL_law_1589 (by decide) ?_
  exact h
theorem g_law_46 {Γ : CX} {b L i : Nat} {z : Nat → Int32} {σ s1 s2 : St} {r1 r2 : Int64} (hz : SCR Γ b L z) (hi : i + 6 ≤ L) (hL : L < 2 ^ 31) (h1 : f_X11_treaties (z (i + 1)) σ = some (r1, s1)) (h2 : f_X12_treaties (z (i + 1)) s1 = some (r2, s2)) (h : WW Γ cL_law 4 RL ret room_1 s2 2281 [(0, .ref b), (1, .ref (xd Γ 0)), (2, .ref (xd Γ 58)), (3, .int (nI i))] []) : WW Γ cL_law 4 RL ret room_1 σ 1592 [(0, .ref b), (1, .ref (xd Γ 0)), (2, .ref (xd Γ 58)), (3, .int (nI i))] [] := by
  refine w_aload_n 1 dL_law_1592 rfl rfl rfl ?_
  refine s_arg 1 hz hi hL (by decide) dL_law_1593 dL_law_1594 dL_law_1595 (by decide) dL_law_1596 dL_law_1597 rfl ?_
  refine k_X11_treaties ml_RL_205 (Nat.le_of_ble_eq_true rfl) ⟨Nat.le_of_ble_eq_true rfl, Nat.le_of_ble_eq_true rfl⟩ dL_law_1598 rfl h1 ?_
  refine w_pop2 dL_law_1601 rfl rfl ?_
  refine w_aload_n 2 dL_law_1602 rfl rfl rfl ?_
  refine s_arg 1 hz hi hL (by decide) dL_law_1603 dL_law_1604 dL_law_1605 (by decide) dL_law_1606 dL_law_1607 rfl ?_
  refine k_X12_treaties ml_RL_208 (Nat.le_of_ble_eq_true rfl) ⟨Nat.le_of_ble_eq_true rfl, Nat.le_of_ble_eq_true rfl⟩ dL_law_1608 rfl h2 ?_
  refine w_pop2 dL_law_1611 rfl rfl ?_
  refine w_goto (tgt := 2281) dL_law_1612 (by decide) ?_
  exact h
theorem g_law_47 {Γ : CX} {b L i : Nat} {z : Nat → Int32} {σ s1 s2 : St} {r1 r2 : Int32} (hz : SCR Γ b L z) (hi : i + 6 ≤ L) (hL : L < 2 ^ 31) (h1 : f_X11_price (z (i + 1)) (z (i + 2)) σ = some (r1, s1)) (h2 : f_X12_price (z (i + 1)) (z (i + 2)) s1 = some (r2, s2)) (h : WW Γ cL_law 4 RL ret room_1 s2 2281 [(0, .ref b), (1, .ref (xd Γ 0)), (2, .ref (xd Γ 58)), (3, .int (nI i))] []) : WW Γ cL_law 4 RL ret room_1 σ 1615 [(0, .ref b), (1, .ref (xd Γ 0)), (2, .ref (xd Γ 58)), (3, .int (nI i))] [] := by
  refine w_aload_n 1 dL_law_1615 rfl rfl rfl ?_
  refine s_arg 1 hz hi hL (by decide) dL_law_1616 dL_law_1617 dL_law_1618 (by decide) dL_law_1619 dL_law_1620 rfl ?_
  refine s_arg 2 hz hi hL (by decide) dL_law_1621 dL_law_1622 dL_law_1623 (by decide) dL_law_1624 dL_law_1625 rfl ?_
  refine k_X11_price ml_RL_209 (Nat.le_of_ble_eq_true rfl) ⟨Nat.le_of_ble_eq_true rfl, Nat.le_of_ble_eq_true rfl⟩ dL_law_1626 rfl h1 ?_
  refine w_pop dL_law_1629 rfl rfl ?_
  refine w_aload_n 2 dL_law_1630 rfl rfl rfl ?_
  refine s_arg 1 hz hi hL (by decide) dL_law_1631 dL_law_1632 dL_law_1633 (by decide) dL_law_1634 dL_law_1635 rfl ?_
  refine s_arg 2 hz hi hL (by decide) dL_law_1636 dL_law_1637 dL_law_1638 (by decide) dL_law_1639 dL_law_1640 rfl ?_
  refine k_X12_price ml_RL_212 (Nat.le_of_ble_eq_true rfl) ⟨Nat.le_of_ble_eq_true rfl, Nat.le_of_ble_eq_true rfl⟩ dL_law_1641 rfl h2 ?_
  refine w_pop dL_law_1644 rfl rfl ?_
  refine w_goto (tgt := 2281) dL_law_1645 (by decide) ?_
  exact h
theorem g_law_48 {Γ : CX} {b L i : Nat} {z : Nat → Int32} {σ s1 s2 : St} {r1 r2 : Int32} (hz : SCR Γ b L z) (hi : i + 6 ≤ L) (hL : L < 2 ^ 31) (h1 : f_X11_spies (z (i + 1)) σ = some (r1, s1)) (h2 : f_X12_spies (z (i + 1)) s1 = some (r2, s2)) (h : WW Γ cL_law 4 RL ret room_1 s2 2281 [(0, .ref b), (1, .ref (xd Γ 0)), (2, .ref (xd Γ 58)), (3, .int (nI i))] []) : WW Γ cL_law 4 RL ret room_1 σ 1648 [(0, .ref b), (1, .ref (xd Γ 0)), (2, .ref (xd Γ 58)), (3, .int (nI i))] [] := by
  refine w_aload_n 1 dL_law_1648 rfl rfl rfl ?_
  refine s_arg 1 hz hi hL (by decide) dL_law_1649 dL_law_1650 dL_law_1651 (by decide) dL_law_1652 dL_law_1653 rfl ?_
  refine k_X11_spies ml_RL_213 (Nat.le_of_ble_eq_true rfl) ⟨Nat.le_of_ble_eq_true rfl, Nat.le_of_ble_eq_true rfl⟩ dL_law_1654 rfl h1 ?_
  refine w_pop dL_law_1657 rfl rfl ?_
  refine w_aload_n 2 dL_law_1658 rfl rfl rfl ?_
  refine s_arg 1 hz hi hL (by decide) dL_law_1659 dL_law_1660 dL_law_1661 (by decide) dL_law_1662 dL_law_1663 rfl ?_
  refine k_X12_spies ml_RL_216 (Nat.le_of_ble_eq_true rfl) ⟨Nat.le_of_ble_eq_true rfl, Nat.le_of_ble_eq_true rfl⟩ dL_law_1664 rfl h2 ?_
  refine w_pop dL_law_1667 rfl rfl ?_
  refine w_goto (tgt := 2281) dL_law_1668 (by decide) ?_
  exact h
theorem g_law_49 {Γ : CX} {b L i : Nat} {z : Nat → Int32} {σ s1 s2 : St} {r1 r2 : Int32} (hz : SCR Γ b L z) (hi : i + 6 ≤ L) (hL : L < 2 ^ 31) (h1 : f_X11_watch (z (i + 1)) σ = some (r1, s1)) (h2 : f_X12_watch (z (i + 1)) s1 = some (r2, s2)) (h : WW Γ cL_law 4 RL ret room_1 s2 2281 [(0, .ref b), (1, .ref (xd Γ 0)), (2, .ref (xd Γ 58)), (3, .int (nI i))] []) : WW Γ cL_law 4 RL ret room_1 σ 1671 [(0, .ref b), (1, .ref (xd Γ 0)), (2, .ref (xd Γ 58)), (3, .int (nI i))] [] := by
  refine w_aload_n 1 dL_law_1671 rfl rfl rfl ?_
  refine s_arg 1 hz hi hL (by decide) dL_law_1672 dL_law_1673 dL_law_1674 (by decide) dL_law_1675 dL_law_1676 rfl ?_
  refine k_X11_watch ml_RL_217 (Nat.le_of_ble_eq_true rfl) ⟨Nat.le_of_ble_eq_true rfl, Nat.le_of_ble_eq_true rfl⟩ dL_law_1677 rfl h1 ?_
  refine w_pop dL_law_1680 rfl rfl ?_
  refine w_aload_n 2 dL_law_1681 rfl rfl rfl ?_
  refine s_arg 1 hz hi hL (by decide) dL_law_1682 dL_law_1683 dL_law_1684 (by decide) dL_law_1685 dL_law_1686 rfl ?_
  refine k_X12_watch ml_RL_220 (Nat.le_of_ble_eq_true rfl) ⟨Nat.le_of_ble_eq_true rfl, Nat.le_of_ble_eq_true rfl⟩ dL_law_1687 rfl h2 ?_
  refine w_pop dL_law_1690 rfl rfl ?_
  refine w_goto (tgt := 2281) dL_law_1691 (by decide) ?_
  exact h
theorem g_law_50 {Γ : CX} {b L i : Nat} {z : Nat → Int32} {σ s1 s2 : St} {r1 r2 : Int32} (hz : SCR Γ b L z) (hi : i + 6 ≤ L) (hL : L < 2 ^ 31) (h1 : f_X11_leaves (z (i + 1)) σ = some (r1, s1)) (h2 : f_X12_leaves (z (i + 1)) s1 = some (r2, s2)) (h : WW Γ cL_law 4 RL ret room_1 s2 2281 [(0, .ref b), (1, .ref (xd Γ 0)), (2, .ref (xd Γ 58)), (3, .int (nI i))] []) : WW Γ cL_law 4 RL ret room_1 σ 1694 [(0, .ref b), (1, .ref (xd Γ 0)), (2, .ref (xd Γ 58)), (3, .int (nI i))] [] := by
  refine w_aload_n 1 dL_law_1694 rfl rfl rfl ?_
  refine s_arg 1 hz hi hL (by decide) dL_law_1695 dL_law_1696 dL_law_1697 (by decide) dL_law_1698 dL_law_1699 rfl ?_
  refine k_X11_leaves ml_RL_221 (Nat.le_of_ble_eq_true rfl) ⟨Nat.le_of_ble_eq_true rfl, Nat.le_of_ble_eq_true rfl⟩ dL_law_1700 rfl h1 ?_
  refine w_pop dL_law_1703 rfl rfl ?_
  refine w_aload_n 2 dL_law_1704 rfl rfl rfl ?_
  refine s_arg 1 hz hi hL (by decide) dL_law_1705 dL_law_1706 dL_law_1707 (by decide) dL_law_1708 dL_law_1709 rfl ?_
  refine k_X12_leaves ml_RL_224 (Nat.le_of_ble_eq_true rfl) ⟨Nat.le_of_ble_eq_true rfl, Nat.le_of_ble_eq_true rfl⟩ dL_law_1710 rfl h2 ?_
  refine w_pop dL_law_1713 rfl rfl ?_
  refine w_goto (tgt := 2281) dL_law_1714 (by decide) ?_
  exact h
theorem g_law_51 {Γ : CX} {b L i : Nat} {z : Nat → Int32} {σ s1 s2 : St} {r1 r2 : Int32} (hz : SCR Γ b L z) (hi : i + 6 ≤ L) (hL : L < 2 ^ 31) (h1 : f_X11_known (z (i + 1)) (z (i + 2)) σ = some (r1, s1)) (h2 : f_X12_known (z (i + 1)) (z (i + 2)) s1 = some (r2, s2)) (h : WW Γ cL_law 4 RL ret room_1 s2 2281 [(0, .ref b), (1, .ref (xd Γ 0)), (2, .ref (xd Γ 58)), (3, .int (nI i))] []) : WW Γ cL_law 4 RL ret room_1 σ 1717 [(0, .ref b), (1, .ref (xd Γ 0)), (2, .ref (xd Γ 58)), (3, .int (nI i))] [] := by
  refine w_aload_n 1 dL_law_1717 rfl rfl rfl ?_
  refine s_arg 1 hz hi hL (by decide) dL_law_1718 dL_law_1719 dL_law_1720 (by decide) dL_law_1721 dL_law_1722 rfl ?_
  refine s_arg 2 hz hi hL (by decide) dL_law_1723 dL_law_1724 dL_law_1725 (by decide) dL_law_1726 dL_law_1727 rfl ?_
  refine k_X11_known ml_RL_225 (Nat.le_of_ble_eq_true rfl) ⟨Nat.le_of_ble_eq_true rfl, Nat.le_of_ble_eq_true rfl⟩ dL_law_1728 rfl h1 ?_
  refine w_pop dL_law_1731 rfl rfl ?_
  refine w_aload_n 2 dL_law_1732 rfl rfl rfl ?_
  refine s_arg 1 hz hi hL (by decide) dL_law_1733 dL_law_1734 dL_law_1735 (by decide) dL_law_1736 dL_law_1737 rfl ?_
  refine s_arg 2 hz hi hL (by decide) dL_law_1738 dL_law_1739 dL_law_1740 (by decide) dL_law_1741 dL_law_1742 rfl ?_
  refine k_X12_known ml_RL_228 (Nat.le_of_ble_eq_true rfl) ⟨Nat.le_of_ble_eq_true rfl, Nat.le_of_ble_eq_true rfl⟩ dL_law_1743 rfl h2 ?_
  refine w_pop dL_law_1746 rfl rfl ?_
  refine w_goto (tgt := 2281) dL_law_1747 (by decide) ?_
  exact h
theorem g_law_52 {Γ : CX} {b L i : Nat} {z : Nat → Int32} {σ s1 s2 : St} {r1 r2 : Int32} (hz : SCR Γ b L z) (hi : i + 6 ≤ L) (hL : L < 2 ^ 31) (h1 : f_X11_grant σ = some (r1, s1)) (h2 : f_X12_grant s1 = some (r2, s2)) (h : WW Γ cL_law 4 RL ret room_1 s2 2281 [(0, .ref b), (1, .ref (xd Γ 0)), (2, .ref (xd Γ 58)), (3, .int (nI i))] []) : WW Γ cL_law 4 RL ret room_1 σ 1750 [(0, .ref b), (1, .ref (xd Γ 0)), (2, .ref (xd Γ 58)), (3, .int (nI i))] [] := by
  refine w_aload_n 1 dL_law_1750 rfl rfl rfl ?_
  refine k_X11_grant ml_RL_229 (Nat.le_of_ble_eq_true rfl) ⟨Nat.le_of_ble_eq_true rfl, Nat.le_of_ble_eq_true rfl⟩ dL_law_1751 rfl h1 ?_
  refine w_pop dL_law_1754 rfl rfl ?_
  refine w_aload_n 2 dL_law_1755 rfl rfl rfl ?_
  refine k_X12_grant ml_RL_232 (Nat.le_of_ble_eq_true rfl) ⟨Nat.le_of_ble_eq_true rfl, Nat.le_of_ble_eq_true rfl⟩ dL_law_1756 rfl h2 ?_
  refine w_pop dL_law_1759 rfl rfl ?_
  refine w_goto (tgt := 2281) dL_law_1760 (by decide) ?_
  exact h
theorem g_law_53 {Γ : CX} {b L i : Nat} {z : Nat → Int32} {σ s1 s2 : St} {r1 r2 : Int32} (hz : SCR Γ b L z) (hi : i + 6 ≤ L) (hL : L < 2 ^ 31) (h1 : f_X11_granted σ = some (r1, s1)) (h2 : f_X12_granted s1 = some (r2, s2)) (h : WW Γ cL_law 4 RL ret room_1 s2 2281 [(0, .ref b), (1, .ref (xd Γ 0)), (2, .ref (xd Γ 58)), (3, .int (nI i))] []) : WW Γ cL_law 4 RL ret room_1 σ 1763 [(0, .ref b), (1, .ref (xd Γ 0)), (2, .ref (xd Γ 58)), (3, .int (nI i))] [] := by
  refine w_aload_n 1 dL_law_1763 rfl rfl rfl ?_
  refine k_X11_granted ml_RL_233 (Nat.le_of_ble_eq_true rfl) ⟨Nat.le_of_ble_eq_true rfl, Nat.le_of_ble_eq_true rfl⟩ dL_law_1764 rfl h1 ?_
  refine w_pop dL_law_1767 rfl rfl ?_
  refine w_aload_n 2 dL_law_1768 rfl rfl rfl ?_
  refine k_X12_granted ml_RL_236 (Nat.le_of_ble_eq_true rfl) ⟨Nat.le_of_ble_eq_true rfl, Nat.le_of_ble_eq_true rfl⟩ dL_law_1769 rfl h2 ?_
  refine w_pop dL_law_1772 rfl rfl ?_
  refine w_goto (tgt := 2281) dL_law_1773 (by decide) ?_
  exact h
theorem g_law_54 {Γ : CX} {b L i : Nat} {z : Nat → Int32} {σ s1 s2 : St} {r1 r2 : Int32} (hz : SCR Γ b L z) (hi : i + 6 ≤ L) (hL : L < 2 ^ 31) (h1 : f_X11_halves σ = some (r1, s1)) (h2 : f_X12_halves s1 = some (r2, s2)) (h : WW Γ cL_law 4 RL ret room_1 s2 2281 [(0, .ref b), (1, .ref (xd Γ 0)), (2, .ref (xd Γ 58)), (3, .int (nI i))] []) : WW Γ cL_law 4 RL ret room_1 σ 1776 [(0, .ref b), (1, .ref (xd Γ 0)), (2, .ref (xd Γ 58)), (3, .int (nI i))] [] := by
  refine w_aload_n 1 dL_law_1776 rfl rfl rfl ?_
  refine k_X11_halves ml_RL_237 (Nat.le_of_ble_eq_true rfl) ⟨Nat.le_of_ble_eq_true rfl, Nat.le_of_ble_eq_true rfl⟩ dL_law_1777 rfl h1 ?_
  refine w_pop dL_law_1780 rfl rfl ?_
  refine w_aload_n 2 dL_law_1781 rfl rfl rfl ?_
  refine k_X12_halves ml_RL_240 (Nat.le_of_ble_eq_true rfl) ⟨Nat.le_of_ble_eq_true rfl, Nat.le_of_ble_eq_true rfl⟩ dL_law_1782 rfl h2 ?_
  refine w_pop dL_law_1785 rfl rfl ?_
  refine w_goto (tgt := 2281) dL_law_1786 (by decide) ?_
  exact h
theorem g_law_55 {Γ : CX} {b L i : Nat} {z : Nat → Int32} {σ s1 s2 : St} {r1 r2 : Int32} (hz : SCR Γ b L z) (hi : i + 6 ≤ L) (hL : L < 2 ^ 31) (h1 : f_X11_halved σ = some (r1, s1)) (h2 : f_X12_halved s1 = some (r2, s2)) (h : WW Γ cL_law 4 RL ret room_1 s2 2281 [(0, .ref b), (1, .ref (xd Γ 0)), (2, .ref (xd Γ 58)), (3, .int (nI i))] []) : WW Γ cL_law 4 RL ret room_1 σ 1789 [(0, .ref b), (1, .ref (xd Γ 0)), (2, .ref (xd Γ 58)), (3, .int (nI i))] [] := by
  refine w_aload_n 1 dL_law_1789 rfl rfl rfl ?_
  refine k_X11_halved ml_RL_241 (Nat.le_of_ble_eq_true rfl) ⟨Nat.le_of_ble_eq_true rfl, Nat.le_of_ble_eq_true rfl⟩ dL_law_1790 rfl h1 ?_
  refine w_pop dL_law_1793 rfl rfl ?_
  refine w_aload_n 2 dL_law_1794 rfl rfl rfl ?_
  refine k_X12_halved ml_RL_244 (Nat.le_of_ble_eq_true rfl) ⟨Nat.le_of_ble_eq_true rfl, Nat.le_of_ble_eq_true rfl⟩ dL_law_1795 rfl h2 ?_
  refine w_pop dL_law_1798 rfl rfl ?_
  refine w_goto (tgt := 2281) dL_law_1799 (by decide) ?_
  exact h
theorem g_law_56 {Γ : CX} {b L i : Nat} {z : Nat → Int32} {σ s1 s2 : St} {r1 r2 : Int64} (hz : SCR Γ b L z) (hi : i + 6 ≤ L) (hL : L < 2 ^ 31) (h1 : f_X11_dry (z (i + 1)) (z (i + 2)) (z (i + 3)) σ = some (r1, s1)) (h2 : f_X12_dry (z (i + 1)) (z (i + 2)) (z (i + 3)) s1 = some (r2, s2)) (h : WW Γ cL_law 4 RL ret room_1 s2 2281 [(0, .ref b), (1, .ref (xd Γ 0)), (2, .ref (xd Γ 58)), (3, .int (nI i))] []) : WW Γ cL_law 4 RL ret room_1 σ 1802 [(0, .ref b), (1, .ref (xd Γ 0)), (2, .ref (xd Γ 58)), (3, .int (nI i))] [] := by
  refine w_aload_n 1 dL_law_1802 rfl rfl rfl ?_
  refine s_arg 1 hz hi hL (by decide) dL_law_1803 dL_law_1804 dL_law_1805 (by decide) dL_law_1806 dL_law_1807 rfl ?_
  refine s_arg 2 hz hi hL (by decide) dL_law_1808 dL_law_1809 dL_law_1810 (by decide) dL_law_1811 dL_law_1812 rfl ?_
  refine s_arg 3 hz hi hL (by decide) dL_law_1813 dL_law_1814 dL_law_1815 (by decide) dL_law_1816 dL_law_1817 rfl ?_
  refine k_X11_dry ml_RL_245 (Nat.le_of_ble_eq_true rfl) ⟨Nat.le_of_ble_eq_true rfl, Nat.le_of_ble_eq_true rfl⟩ dL_law_1818 rfl h1 ?_
  refine w_pop2 dL_law_1821 rfl rfl ?_
  refine w_aload_n 2 dL_law_1822 rfl rfl rfl ?_
  refine s_arg 1 hz hi hL (by decide) dL_law_1823 dL_law_1824 dL_law_1825 (by decide) dL_law_1826 dL_law_1827 rfl ?_
  refine s_arg 2 hz hi hL (by decide) dL_law_1828 dL_law_1829 dL_law_1830 (by decide) dL_law_1831 dL_law_1832 rfl ?_
  refine s_arg 3 hz hi hL (by decide) dL_law_1833 dL_law_1834 dL_law_1835 (by decide) dL_law_1836 dL_law_1837 rfl ?_
  refine k_X12_dry ml_RL_249 (Nat.le_of_ble_eq_true rfl) ⟨Nat.le_of_ble_eq_true rfl, Nat.le_of_ble_eq_true rfl⟩ dL_law_1838 rfl h2 ?_
  refine w_pop2 dL_law_1841 rfl rfl ?_
  refine w_goto (tgt := 2281) dL_law_1842 (by decide) ?_
  exact h
theorem g_law_57 {Γ : CX} {b L i : Nat} {z : Nat → Int32} {σ s1 s2 : St} {r1 r2 : Int32} (hz : SCR Γ b L z) (hi : i + 6 ≤ L) (hL : L < 2 ^ 31) (h1 : f_X11_insist (z (i + 1)) σ = some (r1, s1)) (h2 : f_X12_insist (z (i + 1)) s1 = some (r2, s2)) (h : WW Γ cL_law 4 RL ret room_1 s2 2281 [(0, .ref b), (1, .ref (xd Γ 0)), (2, .ref (xd Γ 58)), (3, .int (nI i))] []) : WW Γ cL_law 4 RL ret room_1 σ 1845 [(0, .ref b), (1, .ref (xd Γ 0)), (2, .ref (xd Γ 58)), (3, .int (nI i))] [] := by
  refine w_aload_n 1 dL_law_1845 rfl rfl rfl ?_
  refine s_arg 1 hz hi hL (by decide) dL_law_1846 dL_law_1847 dL_law_1848 (by decide) dL_law_1849 dL_law_1850 rfl ?_
  refine k_X11_insist ml_RL_250 (Nat.le_of_ble_eq_true rfl) ⟨Nat.le_of_ble_eq_true rfl, Nat.le_of_ble_eq_true rfl⟩ dL_law_1851 rfl h1 ?_
  refine w_pop dL_law_1854 rfl rfl ?_
  refine w_aload_n 2 dL_law_1855 rfl rfl rfl ?_
  refine s_arg 1 hz hi hL (by decide) dL_law_1856 dL_law_1857 dL_law_1858 (by decide) dL_law_1859 dL_law_1860 rfl ?_
  refine k_X12_insist ml_RL_253 (Nat.le_of_ble_eq_true rfl) ⟨Nat.le_of_ble_eq_true rfl, Nat.le_of_ble_eq_true rfl⟩ dL_law_1861 rfl h2 ?_
  refine w_pop dL_law_1864 rfl rfl ?_
  refine w_goto (tgt := 2281) dL_law_1865 (by decide) ?_
  exact h
theorem g_law_58 {Γ : CX} {b L i : Nat} {z : Nat → Int32} {σ s1 s2 : St} {r1 r2 : Int32} (hz : SCR Γ b L z) (hi : i + 6 ≤ L) (hL : L < 2 ^ 31) (h1 : f_X11_tell (z (i + 1)) (z (i + 2)) (z (i + 3)) σ = some (r1, s1)) (h2 : f_X12_tell (z (i + 1)) (z (i + 2)) (z (i + 3)) s1 = some (r2, s2)) (h : WW Γ cL_law 4 RL ret room_1 s2 2281 [(0, .ref b), (1, .ref (xd Γ 0)), (2, .ref (xd Γ 58)), (3, .int (nI i))] []) : WW Γ cL_law 4 RL ret room_1 σ 1868 [(0, .ref b), (1, .ref (xd Γ 0)), (2, .ref (xd Γ 58)), (3, .int (nI i))] [] := by
  refine w_aload_n 1 dL_law_1868 rfl rfl rfl ?_
  refine s_arg 1 hz hi hL (by decide) dL_law_1869 dL_law_1870 dL_law_1871 (by decide) dL_law_1872 dL_law_1873 rfl ?_
  refine s_arg 2 hz hi hL (by decide) dL_law_1874 dL_law_1875 dL_law_1876 (by decide) dL_law_1877 dL_law_1878 rfl ?_
  refine s_arg 3 hz hi hL (by decide) dL_law_1879 dL_law_1880 dL_law_1881 (by decide) dL_law_1882 dL_law_1883 rfl ?_
  refine k_X11_tell ml_RL_254 (Nat.le_of_ble_eq_true rfl) ⟨Nat.le_of_ble_eq_true rfl, Nat.le_of_ble_eq_true rfl⟩ dL_law_1884 rfl h1 ?_
  refine w_pop dL_law_1887 rfl rfl ?_
  refine w_aload_n 2 dL_law_1888 rfl rfl rfl ?_
  refine s_arg 1 hz hi hL (by decide) dL_law_1889 dL_law_1890 dL_law_1891 (by decide) dL_law_1892 dL_law_1893 rfl ?_
  refine s_arg 2 hz hi hL (by decide) dL_law_1894 dL_law_1895 dL_law_1896 (by decide) dL_law_1897 dL_law_1898 rfl ?_
  refine s_arg 3 hz hi hL (by decide) dL_law_1899 dL_law_1900 dL_law_1901 (by decide) dL_law_1902 dL_law_1903 rfl ?_
  refine k_X12_tell ml_RL_257 (Nat.le_of_ble_eq_true rfl) ⟨Nat.le_of_ble_eq_true rfl, Nat.le_of_ble_eq_true rfl⟩ dL_law_1904 rfl h2 ?_
  refine w_pop dL_law_1907 rfl rfl ?_
  refine w_goto (tgt := 2281) dL_law_1908 (by decide) ?_
  exact h
theorem g_law_59 {Γ : CX} {b L i : Nat} {z : Nat → Int32} {σ s1 s2 : St} {r1 r2 : Int32} (hz : SCR Γ b L z) (hi : i + 6 ≤ L) (hL : L < 2 ^ 31) (h1 : f_X11_needs (z (i + 1)) (z (i + 2)) σ = some (r1, s1)) (h2 : f_X12_needs_ (z (i + 1)) (z (i + 2)) s1 = some (r2, s2)) (h : WW Γ cL_law 4 RL ret room_1 s2 2281 [(0, .ref b), (1, .ref (xd Γ 0)), (2, .ref (xd Γ 58)), (3, .int (nI i))] []) : WW Γ cL_law 4 RL ret room_1 σ 1911 [(0, .ref b), (1, .ref (xd Γ 0)), (2, .ref (xd Γ 58)), (3, .int (nI i))] [] := by
  refine w_aload_n 1 dL_law_1911 rfl rfl rfl ?_
  refine s_arg 1 hz hi hL (by decide) dL_law_1912 dL_law_1913 dL_law_1914 (by decide) dL_law_1915 dL_law_1916 rfl ?_
  refine s_arg 2 hz hi hL (by decide) dL_law_1917 dL_law_1918 dL_law_1919 (by decide) dL_law_1920 dL_law_1921 rfl ?_
  refine k_X11_needs ml_RL_258 (Nat.le_of_ble_eq_true rfl) ⟨Nat.le_of_ble_eq_true rfl, Nat.le_of_ble_eq_true rfl⟩ dL_law_1922 rfl h1 ?_
  refine w_pop dL_law_1925 rfl rfl ?_
  refine w_aload_n 2 dL_law_1926 rfl rfl rfl ?_
  refine s_arg 1 hz hi hL (by decide) dL_law_1927 dL_law_1928 dL_law_1929 (by decide) dL_law_1930 dL_law_1931 rfl ?_
  refine s_arg 2 hz hi hL (by decide) dL_law_1932 dL_law_1933 dL_law_1934 (by decide) dL_law_1935 dL_law_1936 rfl ?_
  refine k_X12_needs_ ml_RL_261 (Nat.le_of_ble_eq_true rfl) ⟨Nat.le_of_ble_eq_true rfl, Nat.le_of_ble_eq_true rfl⟩ dL_law_1937 rfl h2 ?_
  refine w_pop dL_law_1940 rfl rfl ?_
  refine w_goto (tgt := 2281) dL_law_1941 (by decide) ?_
  exact h
theorem g_law_60 {Γ : CX} {b L i : Nat} {z : Nat → Int32} {σ s1 s2 : St} {r1 r2 : Int32} (hz : SCR Γ b L z) (hi : i + 6 ≤ L) (hL : L < 2 ^ 31) (h1 : f_X11_undo σ = some (r1, s1)) (h2 : f_X12_undo s1 = some (r2, s2)) (h : WW Γ cL_law 4 RL ret room_1 s2 2281 [(0, .ref b), (1, .ref (xd Γ 0)), (2, .ref (xd Γ 58)), (3, .int (nI i))] []) : WW Γ cL_law 4 RL ret room_1 σ 1944 [(0, .ref b), (1, .ref (xd Γ 0)), (2, .ref (xd Γ 58)), (3, .int (nI i))] [] := by
  refine w_aload_n 1 dL_law_1944 rfl rfl rfl ?_
  refine k_X11_undo ml_RL_262 (Nat.le_of_ble_eq_true rfl) ⟨Nat.le_of_ble_eq_true rfl, Nat.le_of_ble_eq_true rfl⟩ dL_law_1945 rfl h1 ?_
  refine w_pop dL_law_1948 rfl rfl ?_
  refine w_aload_n 2 dL_law_1949 rfl rfl rfl ?_
  refine k_X12_undo ml_RL_265 (Nat.le_of_ble_eq_true rfl) ⟨Nat.le_of_ble_eq_true rfl, Nat.le_of_ble_eq_true rfl⟩ dL_law_1950 rfl h2 ?_
  refine w_pop dL_law_1953 rfl rfl ?_
  refine w_goto (tgt := 2281) dL_law_1954 (by decide) ?_
  exact h
theorem g_law_61 {Γ : CX} {b L i : Nat} {z : Nat → Int32} {σ s1 s2 : St} {r1 r2 : Int32} (hz : SCR Γ b L z) (hi : i + 6 ≤ L) (hL : L < 2 ^ 31) (h1 : f_X11_drawn (z (i + 1)) (z (i + 2)) σ = some (r1, s1)) (h2 : f_X12_drawn (z (i + 1)) (z (i + 2)) s1 = some (r2, s2)) (h : WW Γ cL_law 4 RL ret room_1 s2 2281 [(0, .ref b), (1, .ref (xd Γ 0)), (2, .ref (xd Γ 58)), (3, .int (nI i))] []) : WW Γ cL_law 4 RL ret room_1 σ 1957 [(0, .ref b), (1, .ref (xd Γ 0)), (2, .ref (xd Γ 58)), (3, .int (nI i))] [] := by
  refine w_aload_n 1 dL_law_1957 rfl rfl rfl ?_
  refine s_arg 1 hz hi hL (by decide) dL_law_1958 dL_law_1959 dL_law_1960 (by decide) dL_law_1961 dL_law_1962 rfl ?_
  refine s_arg 2 hz hi hL (by decide) dL_law_1963 dL_law_1964 dL_law_1965 (by decide) dL_law_1966 dL_law_1967 rfl ?_
  refine k_X11_drawn ml_RL_266 (Nat.le_of_ble_eq_true rfl) ⟨Nat.le_of_ble_eq_true rfl, Nat.le_of_ble_eq_true rfl⟩ dL_law_1968 rfl h1 ?_
  refine w_pop dL_law_1971 rfl rfl ?_
  refine w_aload_n 2 dL_law_1972 rfl rfl rfl ?_
  refine s_arg 1 hz hi hL (by decide) dL_law_1973 dL_law_1974 dL_law_1975 (by decide) dL_law_1976 dL_law_1977 rfl ?_
  refine s_arg 2 hz hi hL (by decide) dL_law_1978 dL_law_1979 dL_law_1980 (by decide) dL_law_1981 dL_law_1982 rfl ?_
  refine k_X12_drawn ml_RL_269 (Nat.le_of_ble_eq_true rfl) ⟨Nat.le_of_ble_eq_true rfl, Nat.le_of_ble_eq_true rfl⟩ dL_law_1983 rfl h2 ?_
  refine w_pop dL_law_1986 rfl rfl ?_
  refine w_goto (tgt := 2281) dL_law_1987 (by decide) ?_
  exact h
theorem g_law_62 {Γ : CX} {b L i : Nat} {z : Nat → Int32} {σ s1 s2 : St} {r1 r2 : Int32} (hz : SCR Γ b L z) (hi : i + 6 ≤ L) (hL : L < 2 ^ 31) (h1 : f_X11_luck (z (i + 1)) (z (i + 2)) (z (i + 3)) σ = some (r1, s1)) (h2 : f_X12_luck (z (i + 1)) (z (i + 2)) (z (i + 3)) s1 = some (r2, s2)) (h : WW Γ cL_law 4 RL ret room_1 s2 2281 [(0, .ref b), (1, .ref (xd Γ 0)), (2, .ref (xd Γ 58)), (3, .int (nI i))] []) : WW Γ cL_law 4 RL ret room_1 σ 1990 [(0, .ref b), (1, .ref (xd Γ 0)), (2, .ref (xd Γ 58)), (3, .int (nI i))] [] := by
  refine w_aload_n 1 dL_law_1990 rfl rfl rfl ?_
  refine s_arg 1 hz hi hL (by decide) dL_law_1991 dL_law_1992 dL_law_1993 (by decide) dL_law_1994 dL_law_1995 rfl ?_
  refine s_arg 2 hz hi hL (by decide) dL_law_1996 dL_law_1997 dL_law_1998 (by decide) dL_law_1999 dL_law_2000 rfl ?_
  refine s_arg 3 hz hi hL (by decide) dL_law_2001 dL_law_2002 dL_law_2003 (by decide) dL_law_2004 dL_law_2005 rfl ?_
  refine k_X11_luck ml_RL_270 (Nat.le_of_ble_eq_true rfl) ⟨Nat.le_of_ble_eq_true rfl, Nat.le_of_ble_eq_true rfl⟩ dL_law_2006 rfl h1 ?_
  refine w_pop dL_law_2009 rfl rfl ?_
  refine w_aload_n 2 dL_law_2010 rfl rfl rfl ?_
  refine s_arg 1 hz hi hL (by decide) dL_law_2011 dL_law_2012 dL_law_2013 (by decide) dL_law_2014 dL_law_2015 rfl ?_
  refine s_arg 2 hz hi hL (by decide) dL_law_2016 dL_law_2017 dL_law_2018 (by decide) dL_law_2019 dL_law_2020 rfl ?_
  refine s_arg 3 hz hi hL (by decide) dL_law_2021 dL_law_2022 dL_law_2023 (by decide) dL_law_2024 dL_law_2025 rfl ?_
  refine k_X12_luck ml_RL_273 (Nat.le_of_ble_eq_true rfl) ⟨Nat.le_of_ble_eq_true rfl, Nat.le_of_ble_eq_true rfl⟩ dL_law_2026 rfl h2 ?_
  refine w_pop dL_law_2029 rfl rfl ?_
  refine w_goto (tgt := 2281) dL_law_2030 (by decide) ?_
  exact h
theorem g_law_63 {Γ : CX} {b L i : Nat} {z : Nat → Int32} {σ s1 s2 : St} {r1 r2 : Int32} (hz : SCR Γ b L z) (hi : i + 6 ≤ L) (hL : L < 2 ^ 31) (h1 : f_X11_count (z (i + 1)) σ = some (r1, s1)) (h2 : f_X12_count (z (i + 1)) s1 = some (r2, s2)) (h : WW Γ cL_law 4 RL ret room_1 s2 2281 [(0, .ref b), (1, .ref (xd Γ 0)), (2, .ref (xd Γ 58)), (3, .int (nI i))] []) : WW Γ cL_law 4 RL ret room_1 σ 2033 [(0, .ref b), (1, .ref (xd Γ 0)), (2, .ref (xd Γ 58)), (3, .int (nI i))] [] := by
  refine w_aload_n 1 dL_law_2033 rfl rfl rfl ?_
  refine s_arg 1 hz hi hL (by decide) dL_law_2034 dL_law_2035 dL_law_2036 (by decide) dL_law_2037 dL_law_2038 rfl ?_
  refine k_X11_count ml_RL_274 (Nat.le_of_ble_eq_true rfl) ⟨Nat.le_of_ble_eq_true rfl, Nat.le_of_ble_eq_true rfl⟩ dL_law_2039 rfl h1 ?_
  refine w_pop dL_law_2042 rfl rfl ?_
  refine w_aload_n 2 dL_law_2043 rfl rfl rfl ?_
  refine s_arg 1 hz hi hL (by decide) dL_law_2044 dL_law_2045 dL_law_2046 (by decide) dL_law_2047 dL_law_2048 rfl ?_
  refine k_X12_count ml_RL_277 (Nat.le_of_ble_eq_true rfl) ⟨Nat.le_of_ble_eq_true rfl, Nat.le_of_ble_eq_true rfl⟩ dL_law_2049 rfl h2 ?_
  refine w_pop dL_law_2052 rfl rfl ?_
  refine w_goto (tgt := 2281) dL_law_2053 (by decide) ?_
  exact h
theorem g_law_64 {Γ : CX} {b L i : Nat} {z : Nat → Int32} {σ s1 s2 : St} {r1 r2 : Int32} (hz : SCR Γ b L z) (hi : i + 6 ≤ L) (hL : L < 2 ^ 31) (hM : MI σ) (hn : gn σ ≤ 60) (hR2 : xk Γ + 14 ≤ room_1.cells ∧ xn Γ + 325 ≤ room_1.slots) (h1 : f_X11_image (z (i + 1)) σ = some (r1, s1)) (h2 : f_X12_image (z (i + 1)) s1 = some (r2, s2)) (h : ∀ ad' : Nat → Nat, (∀ j, j < nA σ ∨ 1000 ≤ j → ad' j = xd Γ j) → WW (bump (setAd Γ ad') 14 325) cL_law 4 RL ret room_1 s2 2281 [(0, .ref b), (1, .ref (ad' 0)), (2, .ref (ad' 58)), (3, .int (nI i))] []) : WW Γ cL_law 4 RL ret room_1 σ 2056 [(0, .ref b), (1, .ref (xd Γ 0)), (2, .ref (xd Γ 58)), (3, .int (nI i))] [] := by
  refine w_aload_n 1 dL_law_2056 rfl rfl rfl ?_
  refine s_arg 1 hz hi hL (by decide) dL_law_2057 dL_law_2058 dL_law_2059 (by decide) dL_law_2060 dL_law_2061 rfl ?_
  refine k_X11_image hM hn ml_RL_278 (Nat.le_of_ble_eq_true rfl) ⟨Nat.le_of_ble_eq_true rfl, Nat.le_of_ble_eq_true rfl⟩ hR2 dL_law_2062 rfl h1 (fun ad' had => ?_)
  have e0 : xd Γ 0 = ad' 0 := (had 0 (Or.inl (lt_lit (by decide)))).symm
  have e58 : xd Γ 58 = ad' 58 := (had 58 (Or.inl (lt_lit (by decide)))).symm
  rw [e0, e58]
  replace h := h ad' had
  refine w_pop dL_law_2065 rfl rfl ?_
  refine w_aload_n 2 dL_law_2066 rfl rfl rfl ?_
  refine s_arg 1 hz hi hL (by decide) dL_law_2067 dL_law_2068 dL_law_2069 (by decide) dL_law_2070 dL_law_2071 rfl ?_
  refine k_X12_image ml_RL_281 (Nat.le_of_ble_eq_true rfl) ⟨Nat.le_of_ble_eq_true rfl, Nat.le_of_ble_eq_true rfl⟩ dL_law_2072 rfl h2 ?_
  refine w_pop dL_law_2075 rfl rfl ?_
  refine w_goto (tgt := 2281) dL_law_2076 (by decide) ?_
  exact h
theorem g_law_65 {Γ : CX} {b L i : Nat} {z : Nat → Int32} {σ s1 s2 : St} {r1 r2 : Int32} (hz : SCR Γ b L z) (hi : i + 6 ≤ L) (hL : L < 2 ^ 31) (h1 : f_X11_back (z (i + 1)) σ = some (r1, s1)) (h2 : f_X12_back (z (i + 1)) s1 = some (r2, s2)) (h : WW Γ cL_law 4 RL ret room_1 s2 2281 [(0, .ref b), (1, .ref (xd Γ 0)), (2, .ref (xd Γ 58)), (3, .int (nI i))] []) : WW Γ cL_law 4 RL ret room_1 σ 2079 [(0, .ref b), (1, .ref (xd Γ 0)), (2, .ref (xd Γ 58)), (3, .int (nI i))] [] := by
  refine w_aload_n 1 dL_law_2079 rfl rfl rfl ?_
  refine s_arg 1 hz hi hL (by decide) dL_law_2080 dL_law_2081 dL_law_2082 (by decide) dL_law_2083 dL_law_2084 rfl ?_
  refine k_X11_back ml_RL_282 (Nat.le_of_ble_eq_true rfl) ⟨Nat.le_of_ble_eq_true rfl, Nat.le_of_ble_eq_true rfl⟩ dL_law_2085 rfl h1 ?_
  refine w_pop dL_law_2088 rfl rfl ?_
  refine w_aload_n 2 dL_law_2089 rfl rfl rfl ?_
  refine s_arg 1 hz hi hL (by decide) dL_law_2090 dL_law_2091 dL_law_2092 (by decide) dL_law_2093 dL_law_2094 rfl ?_
  refine k_X12_back ml_RL_285 (Nat.le_of_ble_eq_true rfl) ⟨Nat.le_of_ble_eq_true rfl, Nat.le_of_ble_eq_true rfl⟩ dL_law_2095 rfl h2 ?_
  refine w_pop dL_law_2098 rfl rfl ?_
  refine w_goto (tgt := 2281) dL_law_2099 (by decide) ?_
  exact h
theorem g_law_66 {Γ : CX} {b L i : Nat} {z : Nat → Int32} {σ s1 s2 : St} {r1 r2 : Int32} (hz : SCR Γ b L z) (hi : i + 6 ≤ L) (hL : L < 2 ^ 31) (h1 : f_X11_row (z (i + 1)) (z (i + 2)) (z (i + 3)) σ = some (r1, s1)) (h2 : f_X12_row (z (i + 1)) (z (i + 2)) (z (i + 3)) s1 = some (r2, s2)) (h : WW Γ cL_law 4 RL ret room_1 s2 2281 [(0, .ref b), (1, .ref (xd Γ 0)), (2, .ref (xd Γ 58)), (3, .int (nI i))] []) : WW Γ cL_law 4 RL ret room_1 σ 2102 [(0, .ref b), (1, .ref (xd Γ 0)), (2, .ref (xd Γ 58)), (3, .int (nI i))] [] := by
  refine w_aload_n 1 dL_law_2102 rfl rfl rfl ?_
  refine s_arg 1 hz hi hL (by decide) dL_law_2103 dL_law_2104 dL_law_2105 (by decide) dL_law_2106 dL_law_2107 rfl ?_
  refine s_arg 2 hz hi hL (by decide) dL_law_2108 dL_law_2109 dL_law_2110 (by decide) dL_law_2111 dL_law_2112 rfl ?_
  refine s_arg 3 hz hi hL (by decide) dL_law_2113 dL_law_2114 dL_law_2115 (by decide) dL_law_2116 dL_law_2117 rfl ?_
  refine k_X11_row ml_RL_286 (Nat.le_of_ble_eq_true rfl) ⟨Nat.le_of_ble_eq_true rfl, Nat.le_of_ble_eq_true rfl⟩ dL_law_2118 rfl h1 ?_
  refine w_pop dL_law_2121 rfl rfl ?_
  refine w_aload_n 2 dL_law_2122 rfl rfl rfl ?_
  refine s_arg 1 hz hi hL (by decide) dL_law_2123 dL_law_2124 dL_law_2125 (by decide) dL_law_2126 dL_law_2127 rfl ?_
  refine s_arg 2 hz hi hL (by decide) dL_law_2128 dL_law_2129 dL_law_2130 (by decide) dL_law_2131 dL_law_2132 rfl ?_
  refine s_arg 3 hz hi hL (by decide) dL_law_2133 dL_law_2134 dL_law_2135 (by decide) dL_law_2136 dL_law_2137 rfl ?_
  refine k_X12_row ml_RL_289 (Nat.le_of_ble_eq_true rfl) ⟨Nat.le_of_ble_eq_true rfl, Nat.le_of_ble_eq_true rfl⟩ dL_law_2138 rfl h2 ?_
  refine w_pop dL_law_2141 rfl rfl ?_
  refine w_goto (tgt := 2281) dL_law_2142 (by decide) ?_
  exact h
theorem g_law_67 {Γ : CX} {b L i : Nat} {z : Nat → Int32} {σ s1 s2 : St} {r1 r2 : Int32} (hz : SCR Γ b L z) (hi : i + 6 ≤ L) (hL : L < 2 ^ 31) (h1 : f_X11_write (z (i + 1)) (z (i + 2)) (((z (i + 3)).toInt64 <<< ((32 : Int32).toInt64 &&& 63)) ||| ((z (i + 4)).toInt64 &&& (4294967295 : Int64))) σ = some (r1, s1)) (h2 : f_X12_write (z (i + 1)) (z (i + 2)) (((z (i + 3)).toInt64 <<< ((32 : Int32).toInt64 &&& 63)) ||| ((z (i + 4)).toInt64 &&& (4294967295 : Int64))) s1 = some (r2, s2)) (h : WW Γ cL_law 4 RL ret room_1 s2 2281 [(0, .ref b), (1, .ref (xd Γ 0)), (2, .ref (xd Γ 58)), (3, .int (nI i))] []) : WW Γ cL_law 4 RL ret room_1 σ 2145 [(0, .ref b), (1, .ref (xd Γ 0)), (2, .ref (xd Γ 58)), (3, .int (nI i))] [] := by
  refine w_aload_n 1 dL_law_2145 rfl rfl rfl ?_
  refine s_arg 1 hz hi hL (by decide) dL_law_2146 dL_law_2147 dL_law_2148 (by decide) dL_law_2149 dL_law_2150 rfl ?_
  refine s_arg 2 hz hi hL (by decide) dL_law_2151 dL_law_2152 dL_law_2153 (by decide) dL_law_2154 dL_law_2155 rfl ?_
  refine s_arg 3 hz hi hL (by decide) dL_law_2156 dL_law_2157 dL_law_2158 (by decide) dL_law_2159 dL_law_2160 rfl ?_
  refine w_i2l dL_law_2161 rfl ?_
  refine w_bipush (32 : Int32) dL_law_2162 ic_bipush_32 rfl ?_
  refine w_lshl dL_law_2164 rfl ?_
  refine s_arg 4 hz hi hL (by decide) dL_law_2165 dL_law_2166 dL_law_2167 (by decide) dL_law_2168 dL_law_2169 rfl ?_
  refine w_i2l dL_law_2170 rfl ?_
  refine w_ldc2_w (4294967295 : Int64) dL_law_2171 cl_RL_290 rfl ?_
  refine w_land dL_law_2174 rfl ?_
  refine w_lor dL_law_2175 rfl ?_
  refine k_X11_write ml_RL_292 (Nat.le_of_ble_eq_true rfl) ⟨Nat.le_of_ble_eq_true rfl, Nat.le_of_ble_eq_true rfl⟩ dL_law_2176 rfl h1 ?_
  refine w_pop dL_law_2179 rfl rfl ?_
  refine w_aload_n 2 dL_law_2180 rfl rfl rfl ?_
  refine s_arg 1 hz hi hL (by decide) dL_law_2181 dL_law_2182 dL_law_2183 (by decide) dL_law_2184 dL_law_2185 rfl ?_
  refine s_arg 2 hz hi hL (by decide) dL_law_2186 dL_law_2187 dL_law_2188 (by decide) dL_law_2189 dL_law_2190 rfl ?_
  refine s_arg 3 hz hi hL (by decide) dL_law_2191 dL_law_2192 dL_law_2193 (by decide) dL_law_2194 dL_law_2195 rfl ?_
  refine w_i2l dL_law_2196 rfl ?_
  refine w_bipush (32 : Int32) dL_law_2197 ic_bipush_32 rfl ?_
  refine w_lshl dL_law_2199 rfl ?_
  refine s_arg 4 hz hi hL (by decide) dL_law_2200 dL_law_2201 dL_law_2202 (by decide) dL_law_2203 dL_law_2204 rfl ?_
  refine w_i2l dL_law_2205 rfl ?_
  refine w_ldc2_w (4294967295 : Int64) dL_law_2206 cl_RL_290 rfl ?_
  refine w_land dL_law_2209 rfl ?_
  refine w_lor dL_law_2210 rfl ?_
  refine k_X12_write ml_RL_296 (Nat.le_of_ble_eq_true rfl) ⟨Nat.le_of_ble_eq_true rfl, Nat.le_of_ble_eq_true rfl⟩ dL_law_2211 rfl h2 ?_
  refine w_pop dL_law_2214 rfl rfl ?_
  refine w_goto (tgt := 2281) dL_law_2215 (by decide) ?_
  exact h
theorem g_law_68 {Γ : CX} {b L i : Nat} {z : Nat → Int32} {σ s1 s2 : St} {r1 r2 : Int32} (hz : SCR Γ b L z) (hi : i + 6 ≤ L) (hL : L < 2 ^ 31) (h1 : f_X11_paste (z (i + 1)) (z (i + 2)) (z (i + 3)) (z (i + 4)) (z (i + 5)) σ = some (r1, s1)) (h2 : f_X12_paste (z (i + 1)) (z (i + 2)) (z (i + 3)) (z (i + 4)) (z (i + 5)) s1 = some (r2, s2)) (h : WW Γ cL_law 4 RL ret room_1 s2 2281 [(0, .ref b), (1, .ref (xd Γ 0)), (2, .ref (xd Γ 58)), (3, .int (nI i))] []) : WW Γ cL_law 4 RL ret room_1 σ 2218 [(0, .ref b), (1, .ref (xd Γ 0)), (2, .ref (xd Γ 58)), (3, .int (nI i))] [] := by
  refine w_aload_n 1 dL_law_2218 rfl rfl rfl ?_
  refine s_arg 1 hz hi hL (by decide) dL_law_2219 dL_law_2220 dL_law_2221 (by decide) dL_law_2222 dL_law_2223 rfl ?_
  refine s_arg 2 hz hi hL (by decide) dL_law_2224 dL_law_2225 dL_law_2226 (by decide) dL_law_2227 dL_law_2228 rfl ?_
  refine s_arg 3 hz hi hL (by decide) dL_law_2229 dL_law_2230 dL_law_2231 (by decide) dL_law_2232 dL_law_2233 rfl ?_
  refine s_arg 4 hz hi hL (by decide) dL_law_2234 dL_law_2235 dL_law_2236 (by decide) dL_law_2237 dL_law_2238 rfl ?_
  refine s_arg 5 hz hi hL (by decide) dL_law_2239 dL_law_2240 dL_law_2241 (by decide) dL_law_2242 dL_law_2243 rfl ?_
  refine k_X11_paste ml_RL_297 (Nat.le_of_ble_eq_true rfl) ⟨Nat.le_of_ble_eq_true rfl, Nat.le_of_ble_eq_true rfl⟩ dL_law_2244 rfl h1 ?_
  refine w_pop dL_law_2247 rfl rfl ?_
  refine w_aload_n 2 dL_law_2248 rfl rfl rfl ?_
  refine s_arg 1 hz hi hL (by decide) dL_law_2249 dL_law_2250 dL_law_2251 (by decide) dL_law_2252 dL_law_2253 rfl ?_
  refine s_arg 2 hz hi hL (by decide) dL_law_2254 dL_law_2255 dL_law_2256 (by decide) dL_law_2257 dL_law_2258 rfl ?_
  refine s_arg 3 hz hi hL (by decide) dL_law_2259 dL_law_2260 dL_law_2261 (by decide) dL_law_2262 dL_law_2263 rfl ?_
  refine s_arg 4 hz hi hL (by decide) dL_law_2264 dL_law_2265 dL_law_2266 (by decide) dL_law_2267 dL_law_2268 rfl ?_
  refine s_arg 5 hz hi hL (by decide) dL_law_2269 dL_law_2270 dL_law_2271 (by decide) dL_law_2272 dL_law_2273 rfl ?_
  refine k_X12_paste ml_RL_300 (Nat.le_of_ble_eq_true rfl) ⟨Nat.le_of_ble_eq_true rfl, Nat.le_of_ble_eq_true rfl⟩ dL_law_2274 rfl h2 ?_
  refine w_pop dL_law_2277 rfl rfl ?_
  refine w_goto (tgt := 2281) dL_law_2278 (by decide) ?_
  exact h
