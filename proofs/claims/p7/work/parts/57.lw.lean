def uL : Md := (yL_law, cL_law, 7, some .boolean)
theorem mlL_15 : Cond.methodLink RL 15 yX6_init ∈ wB := wT1 22 rfl (by decide +kernel)
theorem mlL_18 : Cond.methodLink RL 18 yX7_init ∈ wB := wT5 156 rfl (by decide +kernel)
theorem mlL_19 : Cond.methodLink RL 19 yX6_feed ∈ wB := wT2 118 rfl (by decide +kernel)
theorem mlL_23 : Cond.methodLink RL 23 yX7_feed ∈ wB := wT6 53 rfl (by decide +kernel)
theorem mlL_24 : Cond.methodLink RL 24 yX6_close ∈ wB := wT2 126 rfl (by decide +kernel)
theorem mlL_27 : Cond.methodLink RL 27 yX7_close ∈ wB := wT6 57 rfl (by decide +kernel)
theorem mlL_28 : Cond.methodLink RL 28 yX6_fault ∈ wB := wT3 99 rfl (by decide +kernel)
theorem mlL_32 : Cond.methodLink RL 32 yX7_fault ∈ wB := wT6 207 rfl (by decide +kernel)
theorem mlL_33 : Cond.methodLink RL 33 yX6_where ∈ wB := wT3 103 rfl (by decide +kernel)
theorem mlL_36 : Cond.methodLink RL 36 yX7_where ∈ wB := wT6 211 rfl (by decide +kernel)
theorem mlL_37 : Cond.methodLink RL 37 yX6_face ∈ wB := wT3 107 rfl (by decide +kernel)
theorem mlL_41 : Cond.methodLink RL 41 yX7_face ∈ wB := wT6 215 rfl (by decide +kernel)
theorem mlL_42 : Cond.methodLink RL 42 yX6_canon ∈ wB := wT3 123 rfl (by decide +kernel)
theorem mlL_45 : Cond.methodLink RL 45 yX7_canon ∈ wB := wT6 227 rfl (by decide +kernel)
theorem mlL_46 : Cond.methodLink RL 46 yX6_cell ∈ wB := wT3 131 rfl (by decide +kernel)
theorem mlL_49 : Cond.methodLink RL 49 yX7_cell ∈ wB := wT6 235 rfl (by decide +kernel)
theorem mlL_50 : Cond.methodLink RL 50 yX6_burden ∈ wB := wT3 151 rfl (by decide +kernel)
theorem mlL_53 : Cond.methodLink RL 53 yX7_burden ∈ wB := wT7 23 rfl (by decide +kernel)
theorem mlL_54 : Cond.methodLink RL 54 yX6_bears ∈ wB := wT3 159 rfl (by decide +kernel)
theorem mlL_57 : Cond.methodLink RL 57 yX7_bears ∈ wB := wT7 27 rfl (by decide +kernel)
theorem mlL_58 : Cond.methodLink RL 58 yX6_holds ∈ wB := wT3 192 rfl (by decide +kernel)
theorem mlL_61 : Cond.methodLink RL 61 yX7_holds ∈ wB := wT7 55 rfl (by decide +kernel)
theorem mlL_62 : Cond.methodLink RL 62 yX6_drops ∈ wB := wT3 196 rfl (by decide +kernel)
theorem mlL_65 : Cond.methodLink RL 65 yX7_drops ∈ wB := wT7 59 rfl (by decide +kernel)
theorem mlL_66 : Cond.methodLink RL 66 yX6_dropsIn ∈ wB := wT3 200 rfl (by decide +kernel)
theorem mlL_69 : Cond.methodLink RL 69 yX7_dropsIn ∈ wB := wT7 63 rfl (by decide +kernel)
theorem mlL_70 : Cond.methodLink RL 70 yX6_fallsIn ∈ wB := wT3 208 rfl (by decide +kernel)
theorem mlL_73 : Cond.methodLink RL 73 yX7_fallsIn ∈ wB := wT7 67 rfl (by decide +kernel)
theorem mlL_74 : Cond.methodLink RL 74 yX6_wet ∈ wB := wT3 213 rfl (by decide +kernel)
theorem mlL_77 : Cond.methodLink RL 77 yX7_wet ∈ wB := wT7 71 rfl (by decide +kernel)
theorem mlL_78 : Cond.methodLink RL 78 yX6_wetDays ∈ wB := wT3 225 rfl (by decide +kernel)
theorem mlL_81 : Cond.methodLink RL 81 yX7_wetDays ∈ wB := wT7 75 rfl (by decide +kernel)
theorem mlL_82 : Cond.methodLink RL 82 yX6_wettest ∈ wB := wT3 233 rfl (by decide +kernel)
theorem mlL_85 : Cond.methodLink RL 85 yX7_wettest ∈ wB := wT7 83 rfl (by decide +kernel)
theorem mlL_86 : Cond.methodLink RL 86 yX6_sunny ∈ wB := wT3 237 rfl (by decide +kernel)
theorem mlL_89 : Cond.methodLink RL 89 yX7_sunny ∈ wB := wT7 87 rfl (by decide +kernel)
theorem mlL_90 : Cond.methodLink RL 90 yX6_heaviest ∈ wB := wT4 1 rfl (by decide +kernel)
theorem mlL_93 : Cond.methodLink RL 93 yX7_heaviest ∈ wB := wT7 91 rfl (by decide +kernel)
theorem mlL_94 : Cond.methodLink RL 94 yX6_fallen ∈ wB := wT4 8 rfl (by decide +kernel)
theorem mlL_97 : Cond.methodLink RL 97 yX7_fallen ∈ wB := wT7 95 rfl (by decide +kernel)
theorem mlL_98 : Cond.methodLink RL 98 yX6_dropsIf ∈ wB := wT4 12 rfl (by decide +kernel)
theorem mlL_102 : Cond.methodLink RL 102 yX7_dropsIf ∈ wB := wT7 103 rfl (by decide +kernel)
theorem mlL_103 : Cond.methodLink RL 103 yX6_faceFor ∈ wB := wT4 28 rfl (by decide +kernel)
theorem mlL_106 : Cond.methodLink RL 106 yX7_faceFor ∈ wB := wT7 130 rfl (by decide +kernel)
theorem mlL_107 : Cond.methodLink RL 107 yX6_match ∈ wB := wT4 32 rfl (by decide +kernel)
theorem mlL_110 : Cond.methodLink RL 110 yX7_match ∈ wB := wT7 138 rfl (by decide +kernel)
theorem mlL_111 : Cond.methodLink RL 111 yX6_matchDrops ∈ wB := wT4 66 rfl (by decide +kernel)
theorem mlL_114 : Cond.methodLink RL 114 yX7_matchDrops ∈ wB := wT7 150 rfl (by decide +kernel)
theorem mlL_115 : Cond.methodLink RL 115 yX6_matchAt ∈ wB := wT4 70 rfl (by decide +kernel)
theorem mlL_118 : Cond.methodLink RL 118 yX7_matchAt ∈ wB := wT7 154 rfl (by decide +kernel)
theorem mlL_119 : Cond.methodLink RL 119 yX6_steps ∈ wB := wT4 74 rfl (by decide +kernel)
theorem mlL_122 : Cond.methodLink RL 122 yX7_steps ∈ wB := wT7 158 rfl (by decide +kernel)
theorem mlL_123 : Cond.methodLink RL 123 yX6_wets ∈ wB := wT4 83 rfl (by decide +kernel)
theorem mlL_126 : Cond.methodLink RL 126 yX7_wets ∈ wB := wT7 175 rfl (by decide +kernel)
theorem mlL_127 : Cond.methodLink RL 127 yX6_way ∈ wB := wT4 121 rfl (by decide +kernel)
theorem mlL_130 : Cond.methodLink RL 130 yX7_way ∈ wB := wT7 187 rfl (by decide +kernel)
theorem mlL_131 : Cond.methodLink RL 131 yX6_wayAt ∈ wB := wT4 125 rfl (by decide +kernel)
theorem mlL_134 : Cond.methodLink RL 134 yX7_wayAt ∈ wB := wT7 191 rfl (by decide +kernel)
theorem mlL_135 : Cond.methodLink RL 135 yX6_dryDay ∈ wB := wT4 137 rfl (by decide +kernel)
theorem mlL_138 : Cond.methodLink RL 138 yX7_dryDay ∈ wB := wT7 195 rfl (by decide +kernel)
theorem mlL_139 : Cond.methodLink RL 139 yX6_gate ∈ wB := wT4 141 rfl (by decide +kernel)
theorem mlL_142 : Cond.methodLink RL 142 yX7_gate ∈ wB := wT7 199 rfl (by decide +kernel)
theorem mlL_143 : Cond.methodLink RL 143 yX6_fits ∈ wB := wT4 149 rfl (by decide +kernel)
theorem mlL_146 : Cond.methodLink RL 146 yX7_fits ∈ wB := wT7 207 rfl (by decide +kernel)
theorem mlL_147 : Cond.methodLink RL 147 yX6_fitAt ∈ wB := wT4 172 rfl (by decide +kernel)
theorem mlL_150 : Cond.methodLink RL 150 yX7_fitAt ∈ wB := wT7 219 rfl (by decide +kernel)
theorem mlL_151 : Cond.methodLink RL 151 yX6_could ∈ wB := wT4 176 rfl (by decide +kernel)
theorem mlL_154 : Cond.methodLink RL 154 yX7_could ∈ wB := wT7 223 rfl (by decide +kernel)
theorem mlL_155 : Cond.methodLink RL 155 yX6_surely ∈ wB := wT4 183 rfl (by decide +kernel)
theorem mlL_158 : Cond.methodLink RL 158 yX7_surely ∈ wB := wT7 227 rfl (by decide +kernel)
theorem mlL_159 : Cond.methodLink RL 159 yX6_ask ∈ wB := wT4 187 rfl (by decide +kernel)
theorem mlL_162 : Cond.methodLink RL 162 yX7_ask ∈ wB := wT7 231 rfl (by decide +kernel)
theorem mlL_163 : Cond.methodLink RL 163 yX6_askLeaves ∈ wB := wT4 198 rfl (by decide +kernel)
theorem mlL_166 : Cond.methodLink RL 166 yX7_askLeaves ∈ wB := wT8 3 rfl (by decide +kernel)
theorem mlL_167 : Cond.methodLink RL 167 yX6_judge ∈ wB := wT4 202 rfl (by decide +kernel)
theorem mlL_170 : Cond.methodLink RL 170 yX7_judge ∈ wB := wT8 7 rfl (by decide +kernel)
theorem mlL_171 : Cond.methodLink RL 171 yX6_sulks ∈ wB := wT4 206 rfl (by decide +kernel)
theorem mlL_175 : Cond.methodLink RL 175 yX7_sulks ∈ wB := wT8 11 rfl (by decide +kernel)
theorem mlL_176 : Cond.methodLink RL 176 yX6_rests ∈ wB := wT4 217 rfl (by decide +kernel)
theorem mlL_179 : Cond.methodLink RL 179 yX7_rests ∈ wB := wT8 21 rfl (by decide +kernel)
theorem mlL_180 : Cond.methodLink RL 180 yX6_rest ∈ wB := wT4 224 rfl (by decide +kernel)
theorem mlL_183 : Cond.methodLink RL 183 yX7_rest ∈ wB := wT8 29 rfl (by decide +kernel)
theorem mlL_184 : Cond.methodLink RL 184 yX6_odds ∈ wB := wT4 228 rfl (by decide +kernel)
theorem mlL_188 : Cond.methodLink RL 188 yX7_odds ∈ wB := wT8 33 rfl (by decide +kernel)
theorem mlL_189 : Cond.methodLink RL 189 yX6_mean ∈ wB := wT5 8 rfl (by decide +kernel)
theorem mlL_192 : Cond.methodLink RL 192 yX7_mean ∈ wB := wT8 44 rfl (by decide +kernel)
theorem mlL_193 : Cond.methodLink RL 193 yX6_borne ∈ wB := wT5 12 rfl (by decide +kernel)
theorem mlL_196 : Cond.methodLink RL 196 yX7_borne ∈ wB := wT8 48 rfl (by decide +kernel)
theorem mlL_197 : Cond.methodLink RL 197 yX6_firstWet ∈ wB := wT5 27 rfl (by decide +kernel)
theorem mlL_200 : Cond.methodLink RL 200 yX7_firstWet ∈ wB := wT8 58 rfl (by decide +kernel)
theorem mlL_201 : Cond.methodLink RL 201 yX6_day ∈ wB := wT5 35 rfl (by decide +kernel)
theorem mlL_204 : Cond.methodLink RL 204 yX7_day ∈ wB := wT8 62 rfl (by decide +kernel)
theorem mlL_205 : Cond.methodLink RL 205 yX6_give ∈ wB := wT5 48 rfl (by decide +kernel)
theorem mlL_208 : Cond.methodLink RL 208 yX7_give ∈ wB := wT8 70 rfl (by decide +kernel)
theorem mlL_209 : Cond.methodLink RL 209 yX6_mend ∈ wB := wT5 52 rfl (by decide +kernel)
theorem mlL_213 : Cond.methodLink RL 213 yX7_mend ∈ wB := wT8 74 rfl (by decide +kernel)
theorem mlL_214 : Cond.methodLink RL 214 yX6_vex ∈ wB := wT5 56 rfl (by decide +kernel)
theorem mlL_217 : Cond.methodLink RL 217 yX7_vex ∈ wB := wT8 82 rfl (by decide +kernel)
theorem mlL_218 : Cond.methodLink RL 218 yX6_undo ∈ wB := wT5 60 rfl (by decide +kernel)
theorem mlL_222 : Cond.methodLink RL 222 yX7_undo ∈ wB := wT8 86 rfl (by decide +kernel)
theorem mlL_223 : Cond.methodLink RL 223 yX6_image ∈ wB := wT5 64 rfl (by decide +kernel)
theorem mlL_226 : Cond.methodLink RL 226 yX7_image ∈ wB := wT8 90 rfl (by decide +kernel)
theorem mlL_227 : Cond.methodLink RL 227 yX6_back ∈ wB := wT5 68 rfl (by decide +kernel)
theorem mlL_230 : Cond.methodLink RL 230 yX7_back ∈ wB := wT8 94 rfl (by decide +kernel)
theorem mlL_236 : Cond.methodLink RL 236 yX7_led ∈ wB := wT8 98 rfl (by decide +kernel)
theorem mlL_237 : Cond.methodLink RL 237 yX6_size ∈ wB := wT5 72 rfl (by decide +kernel)
theorem mlL_240 : Cond.methodLink RL 240 yX7_size ∈ wB := wT8 102 rfl (by decide +kernel)
theorem mlL_241 : Cond.methodLink RL 241 yX6_trouble ∈ wB := wT5 81 rfl (by decide +kernel)
theorem mlL_244 : Cond.methodLink RL 244 yX7_trouble ∈ wB := wT8 106 rfl (by decide +kernel)
theorem cw_X6_ask : cV uX6_ask 0 := ⟨⟨wT4 190 rfl (by decide +kernel), wT1 1 rfl (by decide +kernel), by decide +kernel, by decide⟩, wT4 188 rfl (by decide +kernel), wT4 189 rfl (by decide +kernel)⟩
theorem cw_X6_askLeaves : cV uX6_askLeaves 0 := ⟨⟨wT4 201 rfl (by decide +kernel), wT1 1 rfl (by decide +kernel), by decide +kernel, by decide⟩, wT4 199 rfl (by decide +kernel), wT4 200 rfl (by decide +kernel)⟩
theorem cw_X6_back : cV uX6_back 1 := ⟨⟨wT5 71 rfl (by decide +kernel), wT1 1 rfl (by decide +kernel), by decide +kernel, by decide⟩, wT5 69 rfl (by decide +kernel), wT5 70 rfl (by decide +kernel)⟩
theorem cw_X6_bears : cV uX6_bears 2 := ⟨⟨wT3 162 rfl (by decide +kernel), wT1 1 rfl (by decide +kernel), by decide +kernel, by decide⟩, wT3 160 rfl (by decide +kernel), wT3 161 rfl (by decide +kernel)⟩
theorem cw_X6_borne : cV uX6_borne 3 := ⟨⟨wT5 15 rfl (by decide +kernel), wT1 1 rfl (by decide +kernel), by decide +kernel, by decide⟩, wT5 13 rfl (by decide +kernel), wT5 14 rfl (by decide +kernel)⟩
theorem cw_X6_burden : cV uX6_burden 0 := ⟨⟨wT3 154 rfl (by decide +kernel), wT1 1 rfl (by decide +kernel), by decide +kernel, by decide⟩, wT3 152 rfl (by decide +kernel), wT3 153 rfl (by decide +kernel)⟩
theorem cw_X6_canon : cV uX6_canon 2 := ⟨⟨wT3 126 rfl (by decide +kernel), wT1 1 rfl (by decide +kernel), by decide +kernel, by decide⟩, wT3 124 rfl (by decide +kernel), wT3 125 rfl (by decide +kernel)⟩
theorem cw_X6_cell : cV uX6_cell 2 := ⟨⟨wT3 134 rfl (by decide +kernel), wT1 1 rfl (by decide +kernel), by decide +kernel, by decide⟩, wT3 132 rfl (by decide +kernel), wT3 133 rfl (by decide +kernel)⟩
theorem cw_X6_close : cV uX6_close 1 := ⟨⟨wT2 129 rfl (by decide +kernel), wT1 1 rfl (by decide +kernel), by decide +kernel, by decide⟩, wT2 127 rfl (by decide +kernel), wT2 128 rfl (by decide +kernel)⟩
theorem cw_X6_could : cV uX6_could 0 := ⟨⟨wT4 179 rfl (by decide +kernel), wT1 1 rfl (by decide +kernel), by decide +kernel, by decide⟩, wT4 177 rfl (by decide +kernel), wT4 178 rfl (by decide +kernel)⟩
theorem cw_X6_day : cV uX6_day 0 := ⟨⟨wT5 38 rfl (by decide +kernel), wT1 1 rfl (by decide +kernel), by decide +kernel, by decide⟩, wT5 36 rfl (by decide +kernel), wT5 37 rfl (by decide +kernel)⟩
theorem cw_X6_drops : cV uX6_drops 2 := ⟨⟨wT3 199 rfl (by decide +kernel), wT1 1 rfl (by decide +kernel), by decide +kernel, by decide⟩, wT3 197 rfl (by decide +kernel), wT3 198 rfl (by decide +kernel)⟩
theorem cw_X6_dropsIf : cV uX6_dropsIf 3 := ⟨⟨wT4 15 rfl (by decide +kernel), wT1 1 rfl (by decide +kernel), by decide +kernel, by decide⟩, wT4 13 rfl (by decide +kernel), wT4 14 rfl (by decide +kernel)⟩
theorem cw_X6_dropsIn : cV uX6_dropsIn 1 := ⟨⟨wT3 203 rfl (by decide +kernel), wT1 1 rfl (by decide +kernel), by decide +kernel, by decide⟩, wT3 201 rfl (by decide +kernel), wT3 202 rfl (by decide +kernel)⟩
theorem cw_X6_dryDay : cV uX6_dryDay 1 := ⟨⟨wT4 140 rfl (by decide +kernel), wT1 1 rfl (by decide +kernel), by decide +kernel, by decide⟩, wT4 138 rfl (by decide +kernel), wT4 139 rfl (by decide +kernel)⟩
theorem cw_X6_face : cV uX6_face 2 := ⟨⟨wT3 110 rfl (by decide +kernel), wT1 1 rfl (by decide +kernel), by decide +kernel, by decide⟩, wT3 108 rfl (by decide +kernel), wT3 109 rfl (by decide +kernel)⟩
theorem cw_X6_faceFor : cV uX6_faceFor 2 := ⟨⟨wT4 31 rfl (by decide +kernel), wT1 1 rfl (by decide +kernel), by decide +kernel, by decide⟩, wT4 29 rfl (by decide +kernel), wT4 30 rfl (by decide +kernel)⟩
theorem cw_X6_fallen : cV uX6_fallen 1 := ⟨⟨wT4 11 rfl (by decide +kernel), wT1 1 rfl (by decide +kernel), by decide +kernel, by decide⟩, wT4 9 rfl (by decide +kernel), wT4 10 rfl (by decide +kernel)⟩
theorem cw_X6_fallsIn : cV uX6_fallsIn 1 := ⟨⟨wT3 211 rfl (by decide +kernel), wT1 1 rfl (by decide +kernel), by decide +kernel, by decide⟩, wT3 209 rfl (by decide +kernel), wT3 210 rfl (by decide +kernel)⟩
theorem cw_X6_fault : cV uX6_fault 0 := ⟨⟨wT3 102 rfl (by decide +kernel), wT1 1 rfl (by decide +kernel), by decide +kernel, by decide⟩, wT3 100 rfl (by decide +kernel), wT3 101 rfl (by decide +kernel)⟩
theorem cw_X6_feed : cV uX6_feed 5 := ⟨⟨wT2 121 rfl (by decide +kernel), wT1 1 rfl (by decide +kernel), by decide +kernel, by decide⟩, wT2 119 rfl (by decide +kernel), wT2 120 rfl (by decide +kernel)⟩
theorem cw_X6_firstWet : cV uX6_firstWet 2 := ⟨⟨wT5 30 rfl (by decide +kernel), wT1 1 rfl (by decide +kernel), by decide +kernel, by decide⟩, wT5 28 rfl (by decide +kernel), wT5 29 rfl (by decide +kernel)⟩
theorem cw_X6_fitAt : cV uX6_fitAt 1 := ⟨⟨wT4 175 rfl (by decide +kernel), wT1 1 rfl (by decide +kernel), by decide +kernel, by decide⟩, wT4 173 rfl (by decide +kernel), wT4 174 rfl (by decide +kernel)⟩
theorem cw_X6_fits : cV uX6_fits 0 := ⟨⟨wT4 152 rfl (by decide +kernel), wT1 1 rfl (by decide +kernel), by decide +kernel, by decide⟩, wT4 150 rfl (by decide +kernel), wT4 151 rfl (by decide +kernel)⟩
theorem cw_X6_gate : cV uX6_gate 0 := ⟨⟨wT4 144 rfl (by decide +kernel), wT1 1 rfl (by decide +kernel), by decide +kernel, by decide⟩, wT4 142 rfl (by decide +kernel), wT4 143 rfl (by decide +kernel)⟩
theorem cw_X6_give : cV uX6_give 2 := ⟨⟨wT5 51 rfl (by decide +kernel), wT1 1 rfl (by decide +kernel), by decide +kernel, by decide⟩, wT5 49 rfl (by decide +kernel), wT5 50 rfl (by decide +kernel)⟩
theorem cw_X6_heaviest : cV uX6_heaviest 0 := ⟨⟨wT4 4 rfl (by decide +kernel), wT1 1 rfl (by decide +kernel), by decide +kernel, by decide⟩, wT4 2 rfl (by decide +kernel), wT4 3 rfl (by decide +kernel)⟩
theorem cw_X6_holds : cV uX6_holds 2 := ⟨⟨wT3 195 rfl (by decide +kernel), wT1 1 rfl (by decide +kernel), by decide +kernel, by decide⟩, wT3 193 rfl (by decide +kernel), wT3 194 rfl (by decide +kernel)⟩
theorem cw_X6_image : cV uX6_image 0 := ⟨⟨wT5 67 rfl (by decide +kernel), wT1 1 rfl (by decide +kernel), by decide +kernel, by decide⟩, wT5 65 rfl (by decide +kernel), wT5 66 rfl (by decide +kernel)⟩
theorem cw_X6_judge : cV uX6_judge 0 := ⟨⟨wT4 205 rfl (by decide +kernel), wT1 1 rfl (by decide +kernel), by decide +kernel, by decide⟩, wT4 203 rfl (by decide +kernel), wT4 204 rfl (by decide +kernel)⟩
theorem cw_X6_match : cV uX6_match 1 := ⟨⟨wT4 35 rfl (by decide +kernel), wT1 1 rfl (by decide +kernel), by decide +kernel, by decide⟩, wT4 33 rfl (by decide +kernel), wT4 34 rfl (by decide +kernel)⟩
theorem cw_X6_matchAt : cV uX6_matchAt 2 := ⟨⟨wT4 73 rfl (by decide +kernel), wT1 1 rfl (by decide +kernel), by decide +kernel, by decide⟩, wT4 71 rfl (by decide +kernel), wT4 72 rfl (by decide +kernel)⟩
theorem cw_X6_matchDrops : cV uX6_matchDrops 1 := ⟨⟨wT4 69 rfl (by decide +kernel), wT1 1 rfl (by decide +kernel), by decide +kernel, by decide⟩, wT4 67 rfl (by decide +kernel), wT4 68 rfl (by decide +kernel)⟩
theorem cw_X6_mean : cV uX6_mean 3 := ⟨⟨wT5 11 rfl (by decide +kernel), wT1 1 rfl (by decide +kernel), by decide +kernel, by decide⟩, wT5 9 rfl (by decide +kernel), wT5 10 rfl (by decide +kernel)⟩
theorem cw_X6_mend : cV uX6_mend 1 := ⟨⟨wT5 55 rfl (by decide +kernel), wT1 1 rfl (by decide +kernel), by decide +kernel, by decide⟩, wT5 53 rfl (by decide +kernel), wT5 54 rfl (by decide +kernel)⟩
theorem cw_X6_odds : cV uX6_odds 3 := ⟨⟨wT4 231 rfl (by decide +kernel), wT1 1 rfl (by decide +kernel), by decide +kernel, by decide⟩, wT4 229 rfl (by decide +kernel), wT4 230 rfl (by decide +kernel)⟩
theorem cw_X6_rest : cV uX6_rest 1 := ⟨⟨wT4 227 rfl (by decide +kernel), wT1 1 rfl (by decide +kernel), by decide +kernel, by decide⟩, wT4 225 rfl (by decide +kernel), wT4 226 rfl (by decide +kernel)⟩
theorem cw_X6_rests : cV uX6_rests 1 := ⟨⟨wT4 220 rfl (by decide +kernel), wT1 1 rfl (by decide +kernel), by decide +kernel, by decide⟩, wT4 218 rfl (by decide +kernel), wT4 219 rfl (by decide +kernel)⟩
theorem cw_X6_size : cV uX6_size 1 := ⟨⟨wT5 75 rfl (by decide +kernel), wT1 1 rfl (by decide +kernel), by decide +kernel, by decide⟩, wT5 73 rfl (by decide +kernel), wT5 74 rfl (by decide +kernel)⟩
theorem cw_X6_steps : cV uX6_steps 2 := ⟨⟨wT4 77 rfl (by decide +kernel), wT1 1 rfl (by decide +kernel), by decide +kernel, by decide⟩, wT4 75 rfl (by decide +kernel), wT4 76 rfl (by decide +kernel)⟩
theorem cw_X6_sulks : cV uX6_sulks 4 := ⟨⟨wT4 209 rfl (by decide +kernel), wT1 1 rfl (by decide +kernel), by decide +kernel, by decide⟩, wT4 207 rfl (by decide +kernel), wT4 208 rfl (by decide +kernel)⟩
theorem cw_X6_sunny : cV uX6_sunny 0 := ⟨⟨wT4 0 rfl (by decide +kernel), wT1 1 rfl (by decide +kernel), by decide +kernel, by decide⟩, wT3 238 rfl (by decide +kernel), wT3 239 rfl (by decide +kernel)⟩
theorem cw_X6_surely : cV uX6_surely 0 := ⟨⟨wT4 186 rfl (by decide +kernel), wT1 1 rfl (by decide +kernel), by decide +kernel, by decide⟩, wT4 184 rfl (by decide +kernel), wT4 185 rfl (by decide +kernel)⟩
theorem cw_X6_trouble : cV uX6_trouble 0 := ⟨⟨wT5 84 rfl (by decide +kernel), wT1 1 rfl (by decide +kernel), by decide +kernel, by decide⟩, wT5 82 rfl (by decide +kernel), wT5 83 rfl (by decide +kernel)⟩
theorem cw_X6_undo : cV uX6_undo 0 := ⟨⟨wT5 63 rfl (by decide +kernel), wT1 1 rfl (by decide +kernel), by decide +kernel, by decide⟩, wT5 61 rfl (by decide +kernel), wT5 62 rfl (by decide +kernel)⟩
theorem cw_X6_vex : cV uX6_vex 2 := ⟨⟨wT5 59 rfl (by decide +kernel), wT1 1 rfl (by decide +kernel), by decide +kernel, by decide⟩, wT5 57 rfl (by decide +kernel), wT5 58 rfl (by decide +kernel)⟩
theorem cw_X6_way : cV uX6_way 2 := ⟨⟨wT4 124 rfl (by decide +kernel), wT1 1 rfl (by decide +kernel), by decide +kernel, by decide⟩, wT4 122 rfl (by decide +kernel), wT4 123 rfl (by decide +kernel)⟩
theorem cw_X6_wayAt : cV uX6_wayAt 3 := ⟨⟨wT4 128 rfl (by decide +kernel), wT1 1 rfl (by decide +kernel), by decide +kernel, by decide⟩, wT4 126 rfl (by decide +kernel), wT4 127 rfl (by decide +kernel)⟩
theorem cw_X6_wet : cV uX6_wet 1 := ⟨⟨wT3 216 rfl (by decide +kernel), wT1 1 rfl (by decide +kernel), by decide +kernel, by decide⟩, wT3 214 rfl (by decide +kernel), wT3 215 rfl (by decide +kernel)⟩
theorem cw_X6_wetDays : cV uX6_wetDays 2 := ⟨⟨wT3 228 rfl (by decide +kernel), wT1 1 rfl (by decide +kernel), by decide +kernel, by decide⟩, wT3 226 rfl (by decide +kernel), wT3 227 rfl (by decide +kernel)⟩
theorem cw_X6_wets : cV uX6_wets 2 := ⟨⟨wT4 86 rfl (by decide +kernel), wT1 1 rfl (by decide +kernel), by decide +kernel, by decide⟩, wT4 84 rfl (by decide +kernel), wT4 85 rfl (by decide +kernel)⟩
theorem cw_X6_wettest : cV uX6_wettest 0 := ⟨⟨wT3 236 rfl (by decide +kernel), wT1 1 rfl (by decide +kernel), by decide +kernel, by decide⟩, wT3 234 rfl (by decide +kernel), wT3 235 rfl (by decide +kernel)⟩
theorem cw_X6_where : cV uX6_where 0 := ⟨⟨wT3 106 rfl (by decide +kernel), wT1 1 rfl (by decide +kernel), by decide +kernel, by decide⟩, wT3 104 rfl (by decide +kernel), wT3 105 rfl (by decide +kernel)⟩
theorem cw_X7_ask : cV uX7_ask 0 := ⟨⟨wT7 234 rfl (by decide +kernel), wT1 8 rfl (by decide +kernel), by decide +kernel, by decide⟩, wT7 232 rfl (by decide +kernel), wT7 233 rfl (by decide +kernel)⟩
theorem cw_X7_askLeaves : cV uX7_askLeaves 0 := ⟨⟨wT8 6 rfl (by decide +kernel), wT1 8 rfl (by decide +kernel), by decide +kernel, by decide⟩, wT8 4 rfl (by decide +kernel), wT8 5 rfl (by decide +kernel)⟩
theorem cw_X7_back : cV uX7_back 1 := ⟨⟨wT8 97 rfl (by decide +kernel), wT1 8 rfl (by decide +kernel), by decide +kernel, by decide⟩, wT8 95 rfl (by decide +kernel), wT8 96 rfl (by decide +kernel)⟩
theorem cw_X7_bears : cV uX7_bears 2 := ⟨⟨wT7 30 rfl (by decide +kernel), wT1 8 rfl (by decide +kernel), by decide +kernel, by decide⟩, wT7 28 rfl (by decide +kernel), wT7 29 rfl (by decide +kernel)⟩
theorem cw_X7_borne : cV uX7_borne 3 := ⟨⟨wT8 51 rfl (by decide +kernel), wT1 8 rfl (by decide +kernel), by decide +kernel, by decide⟩, wT8 49 rfl (by decide +kernel), wT8 50 rfl (by decide +kernel)⟩
theorem cw_X7_burden : cV uX7_burden 0 := ⟨⟨wT7 26 rfl (by decide +kernel), wT1 8 rfl (by decide +kernel), by decide +kernel, by decide⟩, wT7 24 rfl (by decide +kernel), wT7 25 rfl (by decide +kernel)⟩
theorem cw_X7_canon : cV uX7_canon 2 := ⟨⟨wT6 230 rfl (by decide +kernel), wT1 8 rfl (by decide +kernel), by decide +kernel, by decide⟩, wT6 228 rfl (by decide +kernel), wT6 229 rfl (by decide +kernel)⟩
theorem cw_X7_cell : cV uX7_cell 2 := ⟨⟨wT6 238 rfl (by decide +kernel), wT1 8 rfl (by decide +kernel), by decide +kernel, by decide⟩, wT6 236 rfl (by decide +kernel), wT6 237 rfl (by decide +kernel)⟩
theorem cw_X7_close : cV uX7_close 1 := ⟨⟨wT6 60 rfl (by decide +kernel), wT1 8 rfl (by decide +kernel), by decide +kernel, by decide⟩, wT6 58 rfl (by decide +kernel), wT6 59 rfl (by decide +kernel)⟩
theorem cw_X7_could : cV uX7_could 0 := ⟨⟨wT7 226 rfl (by decide +kernel), wT1 8 rfl (by decide +kernel), by decide +kernel, by decide⟩, wT7 224 rfl (by decide +kernel), wT7 225 rfl (by decide +kernel)⟩
theorem cw_X7_day : cV uX7_day 0 := ⟨⟨wT8 65 rfl (by decide +kernel), wT1 8 rfl (by decide +kernel), by decide +kernel, by decide⟩, wT8 63 rfl (by decide +kernel), wT8 64 rfl (by decide +kernel)⟩
theorem cw_X7_drops : cV uX7_drops 2 := ⟨⟨wT7 62 rfl (by decide +kernel), wT1 8 rfl (by decide +kernel), by decide +kernel, by decide⟩, wT7 60 rfl (by decide +kernel), wT7 61 rfl (by decide +kernel)⟩
theorem cw_X7_dropsIf : cV uX7_dropsIf 3 := ⟨⟨wT7 106 rfl (by decide +kernel), wT1 8 rfl (by decide +kernel), by decide +kernel, by decide⟩, wT7 104 rfl (by decide +kernel), wT7 105 rfl (by decide +kernel)⟩
theorem cw_X7_dropsIn : cV uX7_dropsIn 1 := ⟨⟨wT7 66 rfl (by decide +kernel), wT1 8 rfl (by decide +kernel), by decide +kernel, by decide⟩, wT7 64 rfl (by decide +kernel), wT7 65 rfl (by decide +kernel)⟩
theorem cw_X7_dryDay : cV uX7_dryDay 1 := ⟨⟨wT7 198 rfl (by decide +kernel), wT1 8 rfl (by decide +kernel), by decide +kernel, by decide⟩, wT7 196 rfl (by decide +kernel), wT7 197 rfl (by decide +kernel)⟩
theorem cw_X7_face : cV uX7_face 2 := ⟨⟨wT6 218 rfl (by decide +kernel), wT1 8 rfl (by decide +kernel), by decide +kernel, by decide⟩, wT6 216 rfl (by decide +kernel), wT6 217 rfl (by decide +kernel)⟩
theorem cw_X7_faceFor : cV uX7_faceFor 2 := ⟨⟨wT7 133 rfl (by decide +kernel), wT1 8 rfl (by decide +kernel), by decide +kernel, by decide⟩, wT7 131 rfl (by decide +kernel), wT7 132 rfl (by decide +kernel)⟩
theorem cw_X7_fallen : cV uX7_fallen 1 := ⟨⟨wT7 98 rfl (by decide +kernel), wT1 8 rfl (by decide +kernel), by decide +kernel, by decide⟩, wT7 96 rfl (by decide +kernel), wT7 97 rfl (by decide +kernel)⟩
theorem cw_X7_fallsIn : cV uX7_fallsIn 1 := ⟨⟨wT7 70 rfl (by decide +kernel), wT1 8 rfl (by decide +kernel), by decide +kernel, by decide⟩, wT7 68 rfl (by decide +kernel), wT7 69 rfl (by decide +kernel)⟩
theorem cw_X7_fault : cV uX7_fault 0 := ⟨⟨wT6 210 rfl (by decide +kernel), wT1 8 rfl (by decide +kernel), by decide +kernel, by decide⟩, wT6 208 rfl (by decide +kernel), wT6 209 rfl (by decide +kernel)⟩
theorem cw_X7_feed : cV uX7_feed 5 := ⟨⟨wT6 56 rfl (by decide +kernel), wT1 8 rfl (by decide +kernel), by decide +kernel, by decide⟩, wT6 54 rfl (by decide +kernel), wT6 55 rfl (by decide +kernel)⟩
theorem cw_X7_firstWet : cV uX7_firstWet 2 := ⟨⟨wT8 61 rfl (by decide +kernel), wT1 8 rfl (by decide +kernel), by decide +kernel, by decide⟩, wT8 59 rfl (by decide +kernel), wT8 60 rfl (by decide +kernel)⟩
theorem cw_X7_fitAt : cV uX7_fitAt 1 := ⟨⟨wT7 222 rfl (by decide +kernel), wT1 8 rfl (by decide +kernel), by decide +kernel, by decide⟩, wT7 220 rfl (by decide +kernel), wT7 221 rfl (by decide +kernel)⟩
theorem cw_X7_fits : cV uX7_fits 0 := ⟨⟨wT7 210 rfl (by decide +kernel), wT1 8 rfl (by decide +kernel), by decide +kernel, by decide⟩, wT7 208 rfl (by decide +kernel), wT7 209 rfl (by decide +kernel)⟩
theorem cw_X7_gate : cV uX7_gate 0 := ⟨⟨wT7 202 rfl (by decide +kernel), wT1 8 rfl (by decide +kernel), by decide +kernel, by decide⟩, wT7 200 rfl (by decide +kernel), wT7 201 rfl (by decide +kernel)⟩
theorem cw_X7_give : cV uX7_give 2 := ⟨⟨wT8 73 rfl (by decide +kernel), wT1 8 rfl (by decide +kernel), by decide +kernel, by decide⟩, wT8 71 rfl (by decide +kernel), wT8 72 rfl (by decide +kernel)⟩
theorem cw_X7_heaviest : cV uX7_heaviest 0 := ⟨⟨wT7 94 rfl (by decide +kernel), wT1 8 rfl (by decide +kernel), by decide +kernel, by decide⟩, wT7 92 rfl (by decide +kernel), wT7 93 rfl (by decide +kernel)⟩
theorem cw_X7_holds : cV uX7_holds 2 := ⟨⟨wT7 58 rfl (by decide +kernel), wT1 8 rfl (by decide +kernel), by decide +kernel, by decide⟩, wT7 56 rfl (by decide +kernel), wT7 57 rfl (by decide +kernel)⟩
theorem cw_X7_image : cV uX7_image 0 := ⟨⟨wT8 93 rfl (by decide +kernel), wT1 8 rfl (by decide +kernel), by decide +kernel, by decide⟩, wT8 91 rfl (by decide +kernel), wT8 92 rfl (by decide +kernel)⟩
theorem cw_X7_judge : cV uX7_judge 0 := ⟨⟨wT8 10 rfl (by decide +kernel), wT1 8 rfl (by decide +kernel), by decide +kernel, by decide⟩, wT8 8 rfl (by decide +kernel), wT8 9 rfl (by decide +kernel)⟩
theorem cw_X7_led : cV uX7_led 1 := ⟨⟨wT8 101 rfl (by decide +kernel), wT1 8 rfl (by decide +kernel), by decide +kernel, by decide⟩, wT8 99 rfl (by decide +kernel), wT8 100 rfl (by decide +kernel)⟩
theorem cw_X7_match : cV uX7_match 1 := ⟨⟨wT7 141 rfl (by decide +kernel), wT1 8 rfl (by decide +kernel), by decide +kernel, by decide⟩, wT7 139 rfl (by decide +kernel), wT7 140 rfl (by decide +kernel)⟩
theorem cw_X7_matchAt : cV uX7_matchAt 2 := ⟨⟨wT7 157 rfl (by decide +kernel), wT1 8 rfl (by decide +kernel), by decide +kernel, by decide⟩, wT7 155 rfl (by decide +kernel), wT7 156 rfl (by decide +kernel)⟩
theorem cw_X7_matchDrops : cV uX7_matchDrops 1 := ⟨⟨wT7 153 rfl (by decide +kernel), wT1 8 rfl (by decide +kernel), by decide +kernel, by decide⟩, wT7 151 rfl (by decide +kernel), wT7 152 rfl (by decide +kernel)⟩
theorem cw_X7_mean : cV uX7_mean 3 := ⟨⟨wT8 47 rfl (by decide +kernel), wT1 8 rfl (by decide +kernel), by decide +kernel, by decide⟩, wT8 45 rfl (by decide +kernel), wT8 46 rfl (by decide +kernel)⟩
theorem cw_X7_mend : cV uX7_mend 1 := ⟨⟨wT8 77 rfl (by decide +kernel), wT1 8 rfl (by decide +kernel), by decide +kernel, by decide⟩, wT8 75 rfl (by decide +kernel), wT8 76 rfl (by decide +kernel)⟩
theorem cw_X7_odds : cV uX7_odds 3 := ⟨⟨wT8 36 rfl (by decide +kernel), wT1 8 rfl (by decide +kernel), by decide +kernel, by decide⟩, wT8 34 rfl (by decide +kernel), wT8 35 rfl (by decide +kernel)⟩
theorem cw_X7_rest : cV uX7_rest 1 := ⟨⟨wT8 32 rfl (by decide +kernel), wT1 8 rfl (by decide +kernel), by decide +kernel, by decide⟩, wT8 30 rfl (by decide +kernel), wT8 31 rfl (by decide +kernel)⟩
theorem cw_X7_rests : cV uX7_rests 1 := ⟨⟨wT8 24 rfl (by decide +kernel), wT1 8 rfl (by decide +kernel), by decide +kernel, by decide⟩, wT8 22 rfl (by decide +kernel), wT8 23 rfl (by decide +kernel)⟩
theorem cw_X7_size : cV uX7_size 1 := ⟨⟨wT8 105 rfl (by decide +kernel), wT1 8 rfl (by decide +kernel), by decide +kernel, by decide⟩, wT8 103 rfl (by decide +kernel), wT8 104 rfl (by decide +kernel)⟩
theorem cw_X7_steps : cV uX7_steps 2 := ⟨⟨wT7 161 rfl (by decide +kernel), wT1 8 rfl (by decide +kernel), by decide +kernel, by decide⟩, wT7 159 rfl (by decide +kernel), wT7 160 rfl (by decide +kernel)⟩
theorem cw_X7_sulks : cV uX7_sulks 4 := ⟨⟨wT8 14 rfl (by decide +kernel), wT1 8 rfl (by decide +kernel), by decide +kernel, by decide⟩, wT8 12 rfl (by decide +kernel), wT8 13 rfl (by decide +kernel)⟩
theorem cw_X7_sunny : cV uX7_sunny 0 := ⟨⟨wT7 90 rfl (by decide +kernel), wT1 8 rfl (by decide +kernel), by decide +kernel, by decide⟩, wT7 88 rfl (by decide +kernel), wT7 89 rfl (by decide +kernel)⟩
theorem cw_X7_surely : cV uX7_surely 0 := ⟨⟨wT7 230 rfl (by decide +kernel), wT1 8 rfl (by decide +kernel), by decide +kernel, by decide⟩, wT7 228 rfl (by decide +kernel), wT7 229 rfl (by decide +kernel)⟩
theorem cw_X7_trouble : cV uX7_trouble 0 := ⟨⟨wT8 109 rfl (by decide +kernel), wT1 8 rfl (by decide +kernel), by decide +kernel, by decide⟩, wT8 107 rfl (by decide +kernel), wT8 108 rfl (by decide +kernel)⟩
theorem cw_X7_undo : cV uX7_undo 0 := ⟨⟨wT8 89 rfl (by decide +kernel), wT1 8 rfl (by decide +kernel), by decide +kernel, by decide⟩, wT8 87 rfl (by decide +kernel), wT8 88 rfl (by decide +kernel)⟩
theorem cw_X7_vex : cV uX7_vex 2 := ⟨⟨wT8 85 rfl (by decide +kernel), wT1 8 rfl (by decide +kernel), by decide +kernel, by decide⟩, wT8 83 rfl (by decide +kernel), wT8 84 rfl (by decide +kernel)⟩
theorem cw_X7_way : cV uX7_way 2 := ⟨⟨wT7 190 rfl (by decide +kernel), wT1 8 rfl (by decide +kernel), by decide +kernel, by decide⟩, wT7 188 rfl (by decide +kernel), wT7 189 rfl (by decide +kernel)⟩
theorem cw_X7_wayAt : cV uX7_wayAt 3 := ⟨⟨wT7 194 rfl (by decide +kernel), wT1 8 rfl (by decide +kernel), by decide +kernel, by decide⟩, wT7 192 rfl (by decide +kernel), wT7 193 rfl (by decide +kernel)⟩
theorem cw_X7_wet : cV uX7_wet 1 := ⟨⟨wT7 74 rfl (by decide +kernel), wT1 8 rfl (by decide +kernel), by decide +kernel, by decide⟩, wT7 72 rfl (by decide +kernel), wT7 73 rfl (by decide +kernel)⟩
theorem cw_X7_wetDays : cV uX7_wetDays 2 := ⟨⟨wT7 78 rfl (by decide +kernel), wT1 8 rfl (by decide +kernel), by decide +kernel, by decide⟩, wT7 76 rfl (by decide +kernel), wT7 77 rfl (by decide +kernel)⟩
theorem cw_X7_wets : cV uX7_wets 2 := ⟨⟨wT7 178 rfl (by decide +kernel), wT1 8 rfl (by decide +kernel), by decide +kernel, by decide⟩, wT7 176 rfl (by decide +kernel), wT7 177 rfl (by decide +kernel)⟩
theorem cw_X7_wettest : cV uX7_wettest 0 := ⟨⟨wT7 86 rfl (by decide +kernel), wT1 8 rfl (by decide +kernel), by decide +kernel, by decide⟩, wT7 84 rfl (by decide +kernel), wT7 85 rfl (by decide +kernel)⟩
theorem cw_X7_where : cV uX7_where 0 := ⟨⟨wT6 214 rfl (by decide +kernel), wT1 8 rfl (by decide +kernel), by decide +kernel, by decide⟩, wT6 212 rfl (by decide +kernel), wT6 213 rfl (by decide +kernel)⟩
theorem clL_8 : Cond.classLink RL 8 RX6 ∈ wB := wT1 20 rfl (by decide +kernel)
theorem clL_16 : Cond.classLink RL 16 RX7 ∈ wB := wT5 154 rfl (by decide +kernel)
theorem mlL_231 : Cond.methodLink RL 231 yL_led ∈ wB := wT5 85 rfl (by decide +kernel)
theorem stL_led : Cond.static yL_led ∈ wB := wT5 86 rfl (by decide +kernel)
theorem inL : Cond.initialized RL ∈ wB := wT1 0 rfl (by decide +kernel)
section OCL
variable {l : Launch} {X : Nat × (Nat → Int32)} {q : Md} {d : Nat} {b : Nat × Nat} {pc : Nat}
/-- the law's led, as a contract over memories -/
def EvL (l : Launch) (X : Nat × (Nat → Int32)) (d mc ms : Nat) (av : List Value) (M : Mm) (kr : KR) : Prop := ∀ (D : va_G) (g : Nat → ClassId) (ad : Nat → Nat) (A : Nat → Prop), Met l yL_led wzL (rz d mc ms) (pz D g ad X A av M) (qz D g ad A false M kr) mc ms A
def rj (b : Nat × Nat) (M : Mm) (ls : Ls) (rest : List Value) (mc ms : Nat) : Bool := Nat.ble (cs rest) 8 && (ls.all (fun x => rk (mN M) x.2) && (rest.all (rk (mN M)) && (Nat.ble (mC M + mc) b.1 && Nat.ble (mS M + ms) b.2)))
theorem rj_of {b : Nat × Nat} {M : Mm} {ls : Ls} {rest : List Value} {mc ms : Nat} (h : rj b M ls rest mc ms = true) : cs rest ≤ 8 ∧ ls.all (fun x => rk (mN M) x.2) = true ∧ rest.all (rk (mN M)) = true ∧ mC M + mc ≤ b.1 ∧ mS M + ms ≤ b.2 := by
  obtain ⟨h1, h⟩ := Bool.and_eq_true_iff.mp h
  obtain ⟨h2, h⟩ := Bool.and_eq_true_iff.mp h
  obtain ⟨h3, h⟩ := Bool.and_eq_true_iff.mp h
  obtain ⟨h4, h⟩ := Bool.and_eq_true_iff.mp h
  exact ⟨Nat.le_of_ble_eq_true h1, h2, h3, Nat.le_of_ble_eq_true h4, Nat.le_of_ble_eq_true h⟩
def oCl (l : Launch) (X : Nat × (Nat → Int32)) (d : Nat) (b : Nat × Nat) (pc : Nat) : OP := fun kn _ ls st M => match st with
  | .ref c :: .int i :: .ref a :: rest => cond (rj b M ls rest 1 6) (EvL l X d 1 6 [.ref a, .int i, .ref c] M (fun r M' => (mC M' = mC M + 1 ∧ mS M' = mS M + 6) ∧ kn (pc + 3) ls (r.toList ++ rest) M')) False
  | _ => False
theorem wB_goodL : GoodIn wB wzL := by
  intro w hw
  rcases List.mem_cons.mp hw with e | hw
  · rw [e]; exact ⟨cwL_led, good_of_word (List.mem_filter.mp cwL_led).2⟩
  · exact ⟨hw, good_of_word (List.mem_filter.mp hw).2⟩
theorem ok_cl (hd : decode uL.2.1 pc = .ok (.invokestatic 231, 3)) : OK l X uL (d + 1) false b pc (oCl l X d b pc) := by
  intro kn kr ls st M hk h
  simp only [oCl] at h
  split at h
  · rename_i c0 i0 a0 rest
    obtain ⟨h0, h⟩ := condT h
    obtain ⟨i1, i2, i3, i4, i5⟩ := rj_of h0
    refine Wf.callA (rest := rest) (kr' := fun r M' => (mC M' = mC M + 1 ∧ mS M' = mS M + 6) ∧ kn (pc + 3) ls (r.toList ++ rest) M') i2 i3 i4 i5 (fun r M' z => z.1) (fun r M' z => hk _ _ _ _ z.2) (fun p e R s m args below meth c' H locs cells slots D g ad A la hx hb hml hla hown hts g1 g2 g3 hK hN hP hp => ?_)
    refine ⟨(([.ref a0, .int i0, .ref c0] : List Value).map (iv ad)).toArray, ?_⟩
    have hBk : Back l R p e below s args yL_led 3 8 (PreOf R 1 6 (pz D g ad X A [.ref a0, .int i0, .ref c0] M)) (PostOf (qz D g ad A false M (fun r M' => (mC M' = mC M + 1 ∧ mS M' = mS M + 6) ∧ kn (pc + 3) ls (r.toList ++ rest) M')) 1 6 A) :=
      va_backW (bytes := cL_led) (maxL := 4) (ret := some .int) (hh := [(0, 9, 12, 13)]) (h D g ad A) (hp _).1 rfl rfl (by show d + 1 ≤ R.frames; exact g1) (by show 8 + (4 + 11) + 64 * d ≤ R.locals; omega) (pay_in hts wB_goodL) List.mem_cons_self (fun a' U hW => word_at hW (good_of_word (List.mem_filter.mp inL).2) (hts _ inL))
    intro T hT XT
    obtain ⟨mk', methM, cM, hnamed, hmethM, hcM, -, -, -, -, -, hsigM⟩ := Cond.codeWith_spec (hts _ cwL_led)
    have hstatic : methM.isStatic = true := Cond.static_spec hnamed hmethM (hts _ stL_led)
    obtain ⟨kP, hkP, -⟩ := className_of_methodNamed hnamed
    have hinitP : kP.init = .initialized := Cond.initialized_spec (findClass_of_methodNamed hnamed) hkP (hts _ inL)
    have hsg : ∀ sig, parseMethodDescriptor yL_led.desc = some sig → (([.ref a0, .int i0, .ref c0] : List Value).map (iv ad)).length = sig.parameters.length := fun sig hsig => by
      have hd : (parseMethodDescriptor yL_led.desc).map (fun d => d.parameters.length) = some 3 := by decide +kernel
      rw [hsig] at hd
      exact (Option.some.inj hd).symm
    have hd' : decode c'.code pc = .ok (.invokestatic 231, 3) := by rw [hb]; exact hd
    obtain ⟨vm₁, X₁, hstep₁⟩ := XT.invokestatic hx hown (hts _ mlL_231) hnamed hmethM hstatic hkP hinitP (by decide) (g := F0 m pc la ((Value.ref c0 :: .int i0 :: .ref a0 :: rest).map (iv ad))) rfl (argsL := ([.ref a0, .int i0, .ref c0] : List Value).map (iv ad)) (rest := rest.map (iv ad)) (hsg _ hsigM) rfl hd'
    obtain ⟨v, ⟨U', l2, c2, s2⟩, X', ⟨g', mk2, t, L, e1, e2, hq, h1, hL, h2, h3⟩, hsteps⟩ := hBk m meth c' ⟨T.setVm vm₁, locs, cells, slots⟩ (F0 m pc la (rest.map (iv ad))) (.invokestatic 231) mk' (([.ref a0, .int i0, .ref c0] : List Value).map (iv ad)).toArray X₁ rfl (hla.trans hml.symm) hd' (lv_room (by rw [cs_of]; exact i1)) (X₁.named hnamed) ⟨g3.1, g3.2, (hp _).2 (T.setVm vm₁) hT X₁.warmed⟩
    dsimp only [Pt.U, Pt.locs, Pt.cells, Pt.slots] at X' e1 e2 h1 h2 h3 hsteps
    subst h1; subst h2; subst h3
    exact ⟨v, (T.setVm vm₁).calling g' mk2 (([.ref a0, .int i0, .ref c0] : List Value).map (iv ad)).toArray, t, U', L, hT, X', hL, e1, e2, hq, fun target hh => hstep₁ _ fun acts => by rw [doInvoke_state]; exact hsteps.trans hh⟩
  · exact h.elim
end OCL
section POP2
variable {l : Launch} {X : Nat × (Nat → Int32)} {q : Md} {d : Nat} {na : Bool} {b : Nat × Nat} {tb : List (Nat × OP)} {kr : KR} {pc : Nat} {ls : Ls} {st : List Value} {M : Mm}
def oPop2 (pc : Nat) : OP := fun kn _ ls st M => match st with
  | .long _ :: st => kn (pc + 1) ls st M
  | _ => False
theorem ok_pop2 (hd : decode q.2.1 pc = .ok (.pop2, 1)) : OK l X q d na b pc (oPop2 pc) := by
  intro kn kr ls st M hk h
  simp only [oPop2] at h
  split at h
  · exact Wf.pure (fun _ _ _ _ _ _ _ _ _ _ _ _ _ _ ad la hx hb hown hts hl k => lv_pop2_2 hx hb hd rfl (k la hl)) (hk _ _ _ _ h)
  · exact h.elim
theorem Wf.sPop2 (ht : ∀ x ∈ tb, OK l X q d na b x.1 x.2) {v : Int64} (ho : lo tb pc = oPop2 pc) (k : Wf l X q d na b (pc + 1) ls st M kr) : Wf l X q d na b pc ls (.long v :: st) M kr := Wf.stp1 ht ho k
theorem Wf.sScd (ht : ∀ x ∈ tb, OK l X q d na b x.1 x.2) {i : Int32} (ho : lo tb pc = oScd X pc) (hi : vp_in i X.1) (k : Wf l X q d na b (pc + 1) ls (.int (X.2 i.toNatClampNeg) :: st) M kr) : Wf l X q d na b pc ls (.int i :: .ref 4999 :: st) M kr := Wf.stp1 ht ho ⟨hi, k⟩
theorem Wf.sScl (ht : ∀ x ∈ tb, OK l X q d na b x.1 x.2) (ho : lo tb pc = oScl X pc) (k : Wf l X q d na b (pc + 1) ls (.int (Int32.ofNat X.1) :: st) M kr) : Wf l X q d na b pc ls (.ref 4999 :: st) M kr := Wf.stp1 ht ho k
theorem Wf.sTs (ht : ∀ x ∈ tb, OK l X q d na b x.1 x.2) {lw : Int} {ts : List Nat} {df : Nat} {x : Int32} (ho : lo tb pc = oTs lw ts df) (k1 : ∀ (k t : Nat), ts[k]? = some t → x.toInt = lw + (k : Int) → Wf l X q d na b t ls st M kr) (k2 : Wf l X q d na b df ls st M kr) : Wf l X q d na b pc ls (.int x :: st) M kr := Wf.stp1 ht ho ⟨k1, fun _ => k2⟩
theorem Wf.sCl (ht : ∀ x ∈ tb, OK l X q d na b x.1 x.2) {d' a c : Nat} {i : Int32} (ho : lo tb pc = oCl l X d' b pc) (hr : rj b M ls st 1 6 = true) (k : EvL l X d' 1 6 [.ref a, .int i, .ref c] M (fun r M' => (mC M' = mC M + 1 ∧ mS M' = mS M + 6) ∧ Wf l X q d na b (pc + 3) ls (r.toList ++ st) M' kr)) : Wf l X q d na b pc ls (.ref c :: .int i :: .ref a :: st) M kr := Wf.stp1 ht ho (by simp only [oCl, hr, cond_true]; exact k)
end POP2
