theorem dX12_init_0 : decode cX12_init 0 = .ok (.aload_n 0, 1) := by decide +kernel
theorem dX12_init_1 : decode cX12_init 1 = .ok (.invokespecial 1, 3) := by decide +kernel
theorem dX12_init_4 : decode cX12_init 4 = .ok (.aload_n 0, 1) := by decide +kernel
theorem dX12_init_5 : decode cX12_init 5 = .ok (.iconst 3, 1) := by decide +kernel
theorem dX12_init_6 : decode cX12_init 6 = .ok (.newarray .int, 2) := by decide +kernel
theorem dX12_init_8 : decode cX12_init 8 = .ok (.dup, 1) := by decide +kernel
theorem dX12_init_9 : decode cX12_init 9 = .ok (.iconst 0, 1) := by decide +kernel
theorem dX12_init_10 : decode cX12_init 10 = .ok (.iconst 1, 1) := by decide +kernel
theorem dX12_init_11 : decode cX12_init 11 = .ok (.iastore, 1) := by decide +kernel
theorem dX12_init_12 : decode cX12_init 12 = .ok (.dup, 1) := by decide +kernel
theorem dX12_init_13 : decode cX12_init 13 = .ok (.iconst 1, 1) := by decide +kernel
theorem dX12_init_14 : decode cX12_init 14 = .ok (.iconst 1, 1) := by decide +kernel
theorem dX12_init_15 : decode cX12_init 15 = .ok (.iastore, 1) := by decide +kernel
theorem dX12_init_16 : decode cX12_init 16 = .ok (.dup, 1) := by decide +kernel
theorem dX12_init_17 : decode cX12_init 17 = .ok (.iconst 2, 1) := by decide +kernel
theorem dX12_init_18 : decode cX12_init 18 = .ok (.iconst 1, 1) := by decide +kernel
theorem dX12_init_19 : decode cX12_init 19 = .ok (.iastore, 1) := by decide +kernel
theorem dX12_init_20 : decode cX12_init 20 = .ok (.putfield 7, 3) := by decide +kernel
theorem dX12_init_23 : decode cX12_init 23 = .ok (.aload_n 0, 1) := by decide +kernel
theorem dX12_init_24 : decode cX12_init 24 = .ok (.bipush 54, 2) := by decide +kernel
theorem dX12_init_26 : decode cX12_init 26 = .ok (.newarray .int, 2) := by decide +kernel
theorem dX12_init_28 : decode cX12_init 28 = .ok (.putfield 13, 3) := by decide +kernel
theorem dX12_init_31 : decode cX12_init 31 = .ok (.aload_n 0, 1) := by decide +kernel
theorem dX12_init_32 : decode cX12_init 32 = .ok (.bipush 18, 2) := by decide +kernel
theorem dX12_init_34 : decode cX12_init 34 = .ok (.newarray .boolean, 2) := by decide +kernel
theorem dX12_init_36 : decode cX12_init 36 = .ok (.putfield 16, 3) := by decide +kernel
theorem dX12_init_39 : decode cX12_init 39 = .ok (.aload_n 0, 1) := by decide +kernel
theorem dX12_init_40 : decode cX12_init 40 = .ok (.bipush 12, 2) := by decide +kernel
theorem dX12_init_42 : decode cX12_init 42 = .ok (.newarray .int, 2) := by decide +kernel
theorem dX12_init_44 : decode cX12_init 44 = .ok (.putfield 20, 3) := by decide +kernel
theorem dX12_init_47 : decode cX12_init 47 = .ok (.aload_n 0, 1) := by decide +kernel
theorem dX12_init_48 : decode cX12_init 48 = .ok (.iconst 2, 1) := by decide +kernel
theorem dX12_init_49 : decode cX12_init 49 = .ok (.newarray .int, 2) := by decide +kernel
theorem dX12_init_51 : decode cX12_init 51 = .ok (.putfield 23, 3) := by decide +kernel
theorem dX12_init_54 : decode cX12_init 54 = .ok (.aload_n 0, 1) := by decide +kernel
theorem dX12_init_55 : decode cX12_init 55 = .ok (.iconst 2, 1) := by decide +kernel
theorem dX12_init_56 : decode cX12_init 56 = .ok (.newarray .int, 2) := by decide +kernel
theorem dX12_init_58 : decode cX12_init 58 = .ok (.putfield 26, 3) := by decide +kernel
theorem dX12_init_61 : decode cX12_init 61 = .ok (.aload_n 0, 1) := by decide +kernel
theorem dX12_init_62 : decode cX12_init 62 = .ok (.bipush 42, 2) := by decide +kernel
theorem dX12_init_64 : decode cX12_init 64 = .ok (.newarray .float, 2) := by decide +kernel
theorem dX12_init_66 : decode cX12_init 66 = .ok (.putfield 29, 3) := by decide +kernel
theorem dX12_init_69 : decode cX12_init 69 = .ok (.aload_n 0, 1) := by decide +kernel
theorem dX12_init_70 : decode cX12_init 70 = .ok (.bipush 42, 2) := by decide +kernel
theorem dX12_init_72 : decode cX12_init 72 = .ok (.newarray .double, 2) := by decide +kernel
theorem dX12_init_74 : decode cX12_init 74 = .ok (.putfield 33, 3) := by decide +kernel
theorem dX12_init_77 : decode cX12_init 77 = .ok (.aload_n 0, 1) := by decide +kernel
theorem dX12_init_78 : decode cX12_init 78 = .ok (.iconst 3, 1) := by decide +kernel
theorem dX12_init_79 : decode cX12_init 79 = .ok (.newarray .int, 2) := by decide +kernel
theorem dX12_init_81 : decode cX12_init 81 = .ok (.putfield 37, 3) := by decide +kernel
theorem dX12_init_84 : decode cX12_init 84 = .ok (.aload_n 0, 1) := by decide +kernel
theorem dX12_init_85 : decode cX12_init 85 = .ok (.bipush 54, 2) := by decide +kernel
theorem dX12_init_87 : decode cX12_init 87 = .ok (.newarray .int, 2) := by decide +kernel
theorem dX12_init_89 : decode cX12_init 89 = .ok (.putfield 40, 3) := by decide +kernel
theorem dX12_init_92 : decode cX12_init 92 = .ok (.aload_n 0, 1) := by decide +kernel
theorem dX12_init_93 : decode cX12_init 93 = .ok (.bipush 18, 2) := by decide +kernel
theorem dX12_init_95 : decode cX12_init 95 = .ok (.newarray .boolean, 2) := by decide +kernel
theorem dX12_init_97 : decode cX12_init 97 = .ok (.putfield 43, 3) := by decide +kernel
theorem dX12_init_100 : decode cX12_init 100 = .ok (.aload_n 0, 1) := by decide +kernel
theorem dX12_init_101 : decode cX12_init 101 = .ok (.bipush 12, 2) := by decide +kernel
theorem dX12_init_103 : decode cX12_init 103 = .ok (.newarray .int, 2) := by decide +kernel
theorem dX12_init_105 : decode cX12_init 105 = .ok (.putfield 46, 3) := by decide +kernel
theorem dX12_init_108 : decode cX12_init 108 = .ok (.aload_n 0, 1) := by decide +kernel
theorem dX12_init_109 : decode cX12_init 109 = .ok (.sipush 740, 3) := by decide +kernel
theorem dX12_init_112 : decode cX12_init 112 = .ok (.newarray .long, 2) := by decide +kernel
theorem dX12_init_114 : decode cX12_init 114 = .ok (.putfield 49, 3) := by decide +kernel
theorem dX12_init_117 : decode cX12_init 117 = .ok (.aload_n 0, 1) := by decide +kernel
theorem dX12_init_118 : decode cX12_init 118 = .ok (.sipush 2220, 3) := by decide +kernel
theorem dX12_init_121 : decode cX12_init 121 = .ok (.newarray .int, 2) := by decide +kernel
theorem dX12_init_123 : decode cX12_init 123 = .ok (.putfield 53, 3) := by decide +kernel
theorem dX12_init_126 : decode cX12_init 126 = .ok (.aload_n 0, 1) := by decide +kernel
theorem dX12_init_127 : decode cX12_init 127 = .ok (.sipush 740, 3) := by decide +kernel
theorem dX12_init_130 : decode cX12_init 130 = .ok (.newarray .boolean, 2) := by decide +kernel
theorem dX12_init_132 : decode cX12_init 132 = .ok (.putfield 56, 3) := by decide +kernel
theorem dX12_init_135 : decode cX12_init 135 = .ok (.aload_n 0, 1) := by decide +kernel
theorem dX12_init_136 : decode cX12_init 136 = .ok (.sipush 740, 3) := by decide +kernel
theorem dX12_init_139 : decode cX12_init 139 = .ok (.newarray .int, 2) := by decide +kernel
theorem dX12_init_141 : decode cX12_init 141 = .ok (.putfield 59, 3) := by decide +kernel
theorem dX12_init_144 : decode cX12_init 144 = .ok (.aload_n 0, 1) := by decide +kernel
theorem dX12_init_145 : decode cX12_init 145 = .ok (.sipush 740, 3) := by decide +kernel
theorem dX12_init_148 : decode cX12_init 148 = .ok (.newarray .int, 2) := by decide +kernel
theorem dX12_init_150 : decode cX12_init 150 = .ok (.putfield 62, 3) := by decide +kernel
theorem dX12_init_153 : decode cX12_init 153 = .ok (.aload_n 0, 1) := by decide +kernel
theorem dX12_init_154 : decode cX12_init 154 = .ok (.sipush 740, 3) := by decide +kernel
theorem dX12_init_157 : decode cX12_init 157 = .ok (.newarray .int, 2) := by decide +kernel
theorem dX12_init_159 : decode cX12_init 159 = .ok (.putfield 65, 3) := by decide +kernel
theorem dX12_init_162 : decode cX12_init 162 = .ok (.aload_n 0, 1) := by decide +kernel
theorem dX12_init_163 : decode cX12_init 163 = .ok (.sipush 740, 3) := by decide +kernel
theorem dX12_init_166 : decode cX12_init 166 = .ok (.newarray .int, 2) := by decide +kernel
theorem dX12_init_168 : decode cX12_init 168 = .ok (.putfield 68, 3) := by decide +kernel
theorem dX12_init_171 : decode cX12_init 171 = .ok (.aload_n 0, 1) := by decide +kernel
theorem dX12_init_172 : decode cX12_init 172 = .ok (.bipush 6, 2) := by decide +kernel
theorem dX12_init_174 : decode cX12_init 174 = .ok (.newarray .int, 2) := by decide +kernel
theorem dX12_init_176 : decode cX12_init 176 = .ok (.putfield 71, 3) := by decide +kernel
theorem dX12_init_179 : decode cX12_init 179 = .ok (.aload_n 0, 1) := by decide +kernel
theorem dX12_init_180 : decode cX12_init 180 = .ok (.bipush 64, 2) := by decide +kernel
theorem dX12_init_182 : decode cX12_init 182 = .ok (.newarray .int, 2) := by decide +kernel
theorem dX12_init_184 : decode cX12_init 184 = .ok (.putfield 74, 3) := by decide +kernel
theorem dX12_init_187 : decode cX12_init 187 = .ok (.aload_n 0, 1) := by decide +kernel
theorem dX12_init_188 : decode cX12_init 188 = .ok (.bipush 64, 2) := by decide +kernel
theorem dX12_init_190 : decode cX12_init 190 = .ok (.newarray .boolean, 2) := by decide +kernel
theorem dX12_init_192 : decode cX12_init 192 = .ok (.putfield 77, 3) := by decide +kernel
theorem dX12_init_195 : decode cX12_init 195 = .ok (.aload_n 0, 1) := by decide +kernel
theorem dX12_init_196 : decode cX12_init 196 = .ok (.sipush 192, 3) := by decide +kernel
theorem dX12_init_199 : decode cX12_init 199 = .ok (.newarray .long, 2) := by decide +kernel
theorem dX12_init_201 : decode cX12_init 201 = .ok (.putfield 80, 3) := by decide +kernel
theorem dX12_init_204 : decode cX12_init 204 = .ok (.aload_n 0, 1) := by decide +kernel
theorem dX12_init_205 : decode cX12_init 205 = .ok (.bipush 6, 2) := by decide +kernel
theorem dX12_init_207 : decode cX12_init 207 = .ok (.newarray .int, 2) := by decide +kernel
theorem dX12_init_209 : decode cX12_init 209 = .ok (.putfield 83, 3) := by decide +kernel
theorem dX12_init_212 : decode cX12_init 212 = .ok (.aload_n 0, 1) := by decide +kernel
theorem dX12_init_213 : decode cX12_init 213 = .ok (.sipush 4096, 3) := by decide +kernel
theorem dX12_init_216 : decode cX12_init 216 = .ok (.newarray .boolean, 2) := by decide +kernel
theorem dX12_init_218 : decode cX12_init 218 = .ok (.putfield 86, 3) := by decide +kernel
theorem dX12_init_221 : decode cX12_init 221 = .ok (.aload_n 0, 1) := by decide +kernel
theorem dX12_init_222 : decode cX12_init 222 = .ok (.sipush 4096, 3) := by decide +kernel
theorem dX12_init_225 : decode cX12_init 225 = .ok (.newarray .int, 2) := by decide +kernel
theorem dX12_init_227 : decode cX12_init 227 = .ok (.putfield 89, 3) := by decide +kernel
theorem dX12_init_230 : decode cX12_init 230 = .ok (.aload_n 0, 1) := by decide +kernel
theorem dX12_init_231 : decode cX12_init 231 = .ok (.bipush 6, 2) := by decide +kernel
theorem dX12_init_233 : decode cX12_init 233 = .ok (.newarray .long, 2) := by decide +kernel
theorem dX12_init_235 : decode cX12_init 235 = .ok (.putfield 92, 3) := by decide +kernel
theorem dX12_init_238 : decode cX12_init 238 = .ok (.aload_n 0, 1) := by decide +kernel
theorem dX12_init_239 : decode cX12_init 239 = .ok (.bipush 6, 2) := by decide +kernel
theorem dX12_init_241 : decode cX12_init 241 = .ok (.newarray .long, 2) := by decide +kernel
theorem dX12_init_243 : decode cX12_init 243 = .ok (.putfield 95, 3) := by decide +kernel
theorem dX12_init_246 : decode cX12_init 246 = .ok (.return_, 1) := by decide +kernel
theorem dX12_thrown_0 : decode cX12_thrown 0 = .ok (.aload_n 0, 1) := by decide +kernel
theorem dX12_thrown_1 : decode cX12_thrown 1 = .ok (.getfield 98, 3) := by decide +kernel
theorem dX12_thrown_4 : decode cX12_thrown 4 = .ok (.ireturn, 1) := by decide +kernel
theorem dX12_in_0 : decode cX12_in 0 = .ok (.iload_n 0, 1) := by decide +kernel
theorem dX12_in_1 : decode cX12_in 1 = .ok (.iload_n 1, 1) := by decide +kernel
theorem dX12_in_2 : decode cX12_in 2 = .ok (.if_icmp .lt 12, 3) := by decide +kernel
theorem dX12_in_5 : decode cX12_in 5 = .ok (.iload_n 0, 1) := by decide +kernel
theorem dX12_in_6 : decode cX12_in 6 = .ok (.iload_n 2, 1) := by decide +kernel
theorem dX12_in_7 : decode cX12_in 7 = .ok (.if_icmp .gt 7, 3) := by decide +kernel
theorem dX12_in_10 : decode cX12_in 10 = .ok (.iconst 1, 1) := by decide +kernel
theorem dX12_in_11 : decode cX12_in 11 = .ok (.goto 4, 3) := by decide +kernel
theorem dX12_in_14 : decode cX12_in 14 = .ok (.iconst 0, 1) := by decide +kernel
theorem dX12_in_15 : decode cX12_in 15 = .ok (.ireturn, 1) := by decide +kernel
theorem dX12_fails_0 : decode cX12_fails 0 = .ok (.aload_n 0, 1) := by decide +kernel
theorem dX12_fails_1 : decode cX12_fails 1 = .ok (.iload_n 1, 1) := by decide +kernel
theorem dX12_fails_2 : decode cX12_fails 2 = .ok (.putfield 98, 3) := by decide +kernel
theorem dX12_fails_5 : decode cX12_fails 5 = .ok (.iconst 0, 1) := by decide +kernel
theorem dX12_fails_6 : decode cX12_fails 6 = .ok (.ireturn, 1) := by decide +kernel
theorem dX12_done_0 : decode cX12_done 0 = .ok (.aload_n 0, 1) := by decide +kernel
theorem dX12_done_1 : decode cX12_done 1 = .ok (.iconst 0, 1) := by decide +kernel
theorem dX12_done_2 : decode cX12_done 2 = .ok (.putfield 98, 3) := by decide +kernel
theorem dX12_done_5 : decode cX12_done 5 = .ok (.iload_n 1, 1) := by decide +kernel
theorem dX12_done_6 : decode cX12_done 6 = .ok (.ireturn, 1) := by decide +kernel
theorem dX12_so_0 : decode cX12_so 0 = .ok (.aload_n 0, 1) := by decide +kernel
theorem dX12_so_1 : decode cX12_so 1 = .ok (.iconst 0, 1) := by decide +kernel
theorem dX12_so_2 : decode cX12_so 2 = .ok (.putfield 98, 3) := by decide +kernel
theorem dX12_so_5 : decode cX12_so 5 = .ok (.iload_n 1, 1) := by decide +kernel
theorem dX12_so_6 : decode cX12_so 6 = .ok (.ireturn, 1) := by decide +kernel
theorem dX12_not_0 : decode cX12_not 0 = .ok (.aload_n 0, 1) := by decide +kernel
theorem dX12_not_1 : decode cX12_not 1 = .ok (.iload_n 1, 1) := by decide +kernel
theorem dX12_not_2 : decode cX12_not 2 = .ok (.putfield 98, 3) := by decide +kernel
theorem dX12_not_5 : decode cX12_not 5 = .ok (.iconst 0, 1) := by decide +kernel
theorem dX12_not_6 : decode cX12_not 6 = .ok (.ireturn, 1) := by decide +kernel
theorem dX12_isRegister_0 : decode cX12_isRegister 0 = .ok (.iload_n 0, 1) := by decide +kernel
theorem dX12_isRegister_1 : decode cX12_isRegister 1 = .ok (.iconst 0, 1) := by decide +kernel
theorem dX12_isRegister_2 : decode cX12_isRegister 2 = .ok (.iconst 2, 1) := by decide +kernel
theorem dX12_isRegister_3 : decode cX12_isRegister 3 = .ok (.invokestatic 102, 3) := by decide +kernel
theorem dX12_isRegister_6 : decode cX12_isRegister 6 = .ok (.ireturn, 1) := by decide +kernel
theorem dX12_isState_0 : decode cX12_isState 0 = .ok (.iload_n 1, 1) := by decide +kernel
theorem dX12_isState_1 : decode cX12_isState 1 = .ok (.invokestatic 106, 3) := by decide +kernel
theorem dX12_isState_4 : decode cX12_isState 4 = .ok (.ifCond .eq 34, 3) := by decide +kernel
theorem dX12_isState_7 : decode cX12_isState 7 = .ok (.iload_n 2, 1) := by decide +kernel
theorem dX12_isState_8 : decode cX12_isState 8 = .ok (.iconst 0, 1) := by decide +kernel
theorem dX12_isState_9 : decode cX12_isState 9 = .ok (.aload_n 0, 1) := by decide +kernel
theorem dX12_isState_10 : decode cX12_isState 10 = .ok (.getfield 7, 3) := by decide +kernel
theorem dX12_isState_13 : decode cX12_isState 13 = .ok (.iload_n 1, 1) := by decide +kernel
theorem dX12_isState_14 : decode cX12_isState 14 = .ok (.invokestatic 106, 3) := by decide +kernel
theorem dX12_isState_17 : decode cX12_isState 17 = .ok (.ifCond .eq 7, 3) := by decide +kernel
theorem dX12_isState_20 : decode cX12_isState 20 = .ok (.iload_n 1, 1) := by decide +kernel
theorem dX12_isState_21 : decode cX12_isState 21 = .ok (.goto 4, 3) := by decide +kernel
theorem dX12_isState_24 : decode cX12_isState 24 = .ok (.iconst 0, 1) := by decide +kernel
theorem dX12_isState_25 : decode cX12_isState 25 = .ok (.iaload, 1) := by decide +kernel
theorem dX12_isState_26 : decode cX12_isState 26 = .ok (.iconst 1, 1) := by decide +kernel
theorem dX12_isState_27 : decode cX12_isState 27 = .ok (.isub, 1) := by decide +kernel
theorem dX12_isState_28 : decode cX12_isState 28 = .ok (.invokestatic 102, 3) := by decide +kernel
theorem dX12_isState_31 : decode cX12_isState 31 = .ok (.ifCond .eq 7, 3) := by decide +kernel
theorem dX12_isState_34 : decode cX12_isState 34 = .ok (.iconst 1, 1) := by decide +kernel
theorem dX12_isState_35 : decode cX12_isState 35 = .ok (.goto 4, 3) := by decide +kernel
theorem dX12_isState_38 : decode cX12_isState 38 = .ok (.iconst 0, 1) := by decide +kernel
theorem dX12_isState_39 : decode cX12_isState 39 = .ok (.ireturn, 1) := by decide +kernel
theorem dX12_isLetter_0 : decode cX12_isLetter 0 = .ok (.iload_n 0, 1) := by decide +kernel
theorem dX12_isLetter_1 : decode cX12_isLetter 1 = .ok (.iconst 0, 1) := by decide +kernel
theorem dX12_isLetter_2 : decode cX12_isLetter 2 = .ok (.iconst 2, 1) := by decide +kernel
theorem dX12_isLetter_3 : decode cX12_isLetter 3 = .ok (.invokestatic 102, 3) := by decide +kernel
theorem dX12_isLetter_6 : decode cX12_isLetter 6 = .ok (.ireturn, 1) := by decide +kernel
theorem dX12_place_0 : decode cX12_place 0 = .ok (.bipush 18, 2) := by decide +kernel
theorem dX12_place_2 : decode cX12_place 2 = .ok (.iload_n 0, 1) := by decide +kernel
theorem dX12_place_3 : decode cX12_place 3 = .ok (.imul, 1) := by decide +kernel
theorem dX12_place_4 : decode cX12_place 4 = .ok (.iconst 3, 1) := by decide +kernel
theorem dX12_place_5 : decode cX12_place 5 = .ok (.iload_n 1, 1) := by decide +kernel
theorem dX12_place_6 : decode cX12_place 6 = .ok (.imul, 1) := by decide +kernel
theorem dX12_place_7 : decode cX12_place 7 = .ok (.iadd, 1) := by decide +kernel
theorem dX12_place_8 : decode cX12_place 8 = .ok (.iload_n 2, 1) := by decide +kernel
theorem dX12_place_9 : decode cX12_place 9 = .ok (.iadd, 1) := by decide +kernel
theorem dX12_place_10 : decode cX12_place 10 = .ok (.ireturn, 1) := by decide +kernel
theorem dX12_clears_0 : decode cX12_clears 0 = .ok (.aload_n 0, 1) := by decide +kernel
theorem dX12_clears_1 : decode cX12_clears 1 = .ok (.getfield 7, 3) := by decide +kernel
theorem dX12_clears_4 : decode cX12_clears 4 = .ok (.iload_n 1, 1) := by decide +kernel
theorem dX12_clears_5 : decode cX12_clears 5 = .ok (.iload_n 2, 1) := by decide +kernel
theorem dX12_clears_6 : decode cX12_clears 6 = .ok (.iastore, 1) := by decide +kernel
theorem dX12_clears_7 : decode cX12_clears 7 = .ok (.iconst 0, 1) := by decide +kernel
theorem dX12_clears_8 : decode cX12_clears 8 = .ok (.istore_n 3, 1) := by decide +kernel
theorem dX12_clears_9 : decode cX12_clears 9 = .ok (.iload_n 3, 1) := by decide +kernel
theorem dX12_clears_10 : decode cX12_clears 10 = .ok (.bipush 6, 2) := by decide +kernel
theorem dX12_clears_12 : decode cX12_clears 12 = .ok (.if_icmp .ge 49, 3) := by decide +kernel
theorem dX12_clears_15 : decode cX12_clears 15 = .ok (.aload_n 0, 1) := by decide +kernel
theorem dX12_clears_16 : decode cX12_clears 16 = .ok (.getfield 16, 3) := by decide +kernel
theorem dX12_clears_19 : decode cX12_clears 19 = .ok (.bipush 6, 2) := by decide +kernel
theorem dX12_clears_21 : decode cX12_clears 21 = .ok (.iload_n 1, 1) := by decide +kernel
theorem dX12_clears_22 : decode cX12_clears 22 = .ok (.imul, 1) := by decide +kernel
theorem dX12_clears_23 : decode cX12_clears 23 = .ok (.iload_n 3, 1) := by decide +kernel
theorem dX12_clears_24 : decode cX12_clears 24 = .ok (.iadd, 1) := by decide +kernel
theorem dX12_clears_25 : decode cX12_clears 25 = .ok (.iconst 0, 1) := by decide +kernel
theorem dX12_clears_26 : decode cX12_clears 26 = .ok (.bastore, 1) := by decide +kernel
theorem dX12_clears_27 : decode cX12_clears 27 = .ok (.iconst 0, 1) := by decide +kernel
theorem dX12_clears_28 : decode cX12_clears 28 = .ok (.istore 4, 2) := by decide +kernel
theorem dX12_clears_30 : decode cX12_clears 30 = .ok (.iload 4, 2) := by decide +kernel
theorem dX12_clears_32 : decode cX12_clears 32 = .ok (.iconst 3, 1) := by decide +kernel
theorem dX12_clears_33 : decode cX12_clears 33 = .ok (.if_icmp .ge 22, 3) := by decide +kernel
theorem dX12_clears_36 : decode cX12_clears 36 = .ok (.aload_n 0, 1) := by decide +kernel
theorem dX12_clears_37 : decode cX12_clears 37 = .ok (.getfield 13, 3) := by decide +kernel
theorem dX12_clears_40 : decode cX12_clears 40 = .ok (.iload_n 1, 1) := by decide +kernel
theorem dX12_clears_41 : decode cX12_clears 41 = .ok (.iload_n 3, 1) := by decide +kernel
theorem dX12_clears_42 : decode cX12_clears 42 = .ok (.iload 4, 2) := by decide +kernel
theorem dX12_clears_44 : decode cX12_clears 44 = .ok (.invokestatic 110, 3) := by decide +kernel
theorem dX12_clears_47 : decode cX12_clears 47 = .ok (.iconst 0, 1) := by decide +kernel
theorem dX12_clears_48 : decode cX12_clears 48 = .ok (.iastore, 1) := by decide +kernel
theorem dX12_clears_49 : decode cX12_clears 49 = .ok (.iinc 4 1, 3) := by decide +kernel
theorem dX12_clears_52 : decode cX12_clears 52 = .ok (.goto (-22), 3) := by decide +kernel
theorem dX12_clears_55 : decode cX12_clears 55 = .ok (.iinc 3 1, 3) := by decide +kernel
theorem dX12_clears_58 : decode cX12_clears 58 = .ok (.goto (-49), 3) := by decide +kernel
theorem dX12_clears_61 : decode cX12_clears 61 = .ok (.return_, 1) := by decide +kernel
theorem dX12_reset_0 : decode cX12_reset 0 = .ok (.aload_n 0, 1) := by decide +kernel
theorem dX12_reset_1 : decode cX12_reset 1 = .ok (.iload_n 1, 1) := by decide +kernel
theorem dX12_reset_2 : decode cX12_reset 2 = .ok (.invokestatic 106, 3) := by decide +kernel
theorem dX12_reset_5 : decode cX12_reset 5 = .ok (.ifCond .ne 7, 3) := by decide +kernel
theorem dX12_reset_8 : decode cX12_reset 8 = .ok (.iconst 1, 1) := by decide +kernel
theorem dX12_reset_9 : decode cX12_reset 9 = .ok (.goto 18, 3) := by decide +kernel
theorem dX12_reset_12 : decode cX12_reset 12 = .ok (.iload_n 2, 1) := by decide +kernel
theorem dX12_reset_13 : decode cX12_reset 13 = .ok (.iconst 1, 1) := by decide +kernel
theorem dX12_reset_14 : decode cX12_reset 14 = .ok (.bipush 6, 2) := by decide +kernel
theorem dX12_reset_16 : decode cX12_reset 16 = .ok (.invokestatic 102, 3) := by decide +kernel
theorem dX12_reset_19 : decode cX12_reset 19 = .ok (.ifCond .ne 7, 3) := by decide +kernel
theorem dX12_reset_22 : decode cX12_reset 22 = .ok (.iconst 2, 1) := by decide +kernel
theorem dX12_reset_23 : decode cX12_reset 23 = .ok (.goto 4, 3) := by decide +kernel
theorem dX12_reset_26 : decode cX12_reset 26 = .ok (.iconst 0, 1) := by decide +kernel
theorem dX12_reset_27 : decode cX12_reset 27 = .ok (.putfield 98, 3) := by decide +kernel
theorem dX12_reset_30 : decode cX12_reset 30 = .ok (.aload_n 0, 1) := by decide +kernel
theorem dX12_reset_31 : decode cX12_reset 31 = .ok (.getfield 98, 3) := by decide +kernel
theorem dX12_reset_34 : decode cX12_reset 34 = .ok (.ifCond .ne 9, 3) := by decide +kernel
theorem dX12_reset_37 : decode cX12_reset 37 = .ok (.aload_n 0, 1) := by decide +kernel
theorem dX12_reset_38 : decode cX12_reset 38 = .ok (.iload_n 1, 1) := by decide +kernel
theorem dX12_reset_39 : decode cX12_reset 39 = .ok (.iload_n 2, 1) := by decide +kernel
theorem dX12_reset_40 : decode cX12_reset 40 = .ok (.invokevirtual 114, 3) := by decide +kernel
theorem dX12_reset_43 : decode cX12_reset 43 = .ok (.return_, 1) := by decide +kernel
theorem dX12_setTarget_0 : decode cX12_setTarget 0 = .ok (.aload_n 0, 1) := by decide +kernel
theorem dX12_setTarget_1 : decode cX12_setTarget 1 = .ok (.aload_n 0, 1) := by decide +kernel
theorem dX12_setTarget_2 : decode cX12_setTarget 2 = .ok (.iload_n 1, 1) := by decide +kernel
theorem dX12_setTarget_3 : decode cX12_setTarget 3 = .ok (.iload_n 2, 1) := by decide +kernel
theorem dX12_setTarget_4 : decode cX12_setTarget 4 = .ok (.invokevirtual 118, 3) := by decide +kernel
theorem dX12_setTarget_7 : decode cX12_setTarget 7 = .ok (.ifCond .eq 24, 3) := by decide +kernel
theorem dX12_setTarget_10 : decode cX12_setTarget 10 = .ok (.iload_n 3, 1) := by decide +kernel
theorem dX12_setTarget_11 : decode cX12_setTarget 11 = .ok (.invokestatic 122, 3) := by decide +kernel
theorem dX12_setTarget_14 : decode cX12_setTarget 14 = .ok (.ifCond .eq 17, 3) := by decide +kernel
theorem dX12_setTarget_17 : decode cX12_setTarget 17 = .ok (.aload_n 0, 1) := by decide +kernel
theorem dX12_setTarget_18 : decode cX12_setTarget 18 = .ok (.iload_n 1, 1) := by decide +kernel
theorem dX12_setTarget_19 : decode cX12_setTarget 19 = .ok (.iload 4, 2) := by decide +kernel
theorem dX12_setTarget_21 : decode cX12_setTarget 21 = .ok (.invokevirtual 118, 3) := by decide +kernel
theorem dX12_setTarget_24 : decode cX12_setTarget 24 = .ok (.ifCond .eq 7, 3) := by decide +kernel
theorem dX12_setTarget_27 : decode cX12_setTarget 27 = .ok (.iconst 0, 1) := by decide +kernel
theorem dX12_setTarget_28 : decode cX12_setTarget 28 = .ok (.goto 4, 3) := by decide +kernel
theorem dX12_setTarget_31 : decode cX12_setTarget 31 = .ok (.iconst 1, 1) := by decide +kernel
theorem dX12_setTarget_32 : decode cX12_setTarget 32 = .ok (.putfield 98, 3) := by decide +kernel
theorem dX12_setTarget_35 : decode cX12_setTarget 35 = .ok (.aload_n 0, 1) := by decide +kernel
theorem dX12_setTarget_36 : decode cX12_setTarget 36 = .ok (.getfield 98, 3) := by decide +kernel
theorem dX12_setTarget_39 : decode cX12_setTarget 39 = .ok (.ifCond .ne 16, 3) := by decide +kernel
theorem dX12_setTarget_42 : decode cX12_setTarget 42 = .ok (.aload_n 0, 1) := by decide +kernel
theorem dX12_setTarget_43 : decode cX12_setTarget 43 = .ok (.getfield 13, 3) := by decide +kernel
theorem dX12_setTarget_46 : decode cX12_setTarget 46 = .ok (.iload_n 1, 1) := by decide +kernel
theorem dX12_setTarget_47 : decode cX12_setTarget 47 = .ok (.iload_n 2, 1) := by decide +kernel
theorem dX12_setTarget_48 : decode cX12_setTarget 48 = .ok (.iload_n 3, 1) := by decide +kernel
theorem dX12_setTarget_49 : decode cX12_setTarget 49 = .ok (.invokestatic 110, 3) := by decide +kernel
theorem dX12_setTarget_52 : decode cX12_setTarget 52 = .ok (.iload 4, 2) := by decide +kernel
theorem dX12_setTarget_54 : decode cX12_setTarget 54 = .ok (.iastore, 1) := by decide +kernel
theorem dX12_setTarget_55 : decode cX12_setTarget 55 = .ok (.return_, 1) := by decide +kernel
theorem dX12_setFinal_0 : decode cX12_setFinal 0 = .ok (.aload_n 0, 1) := by decide +kernel
theorem dX12_setFinal_1 : decode cX12_setFinal 1 = .ok (.iload_n 1, 1) := by decide +kernel
theorem dX12_setFinal_2 : decode cX12_setFinal 2 = .ok (.iload_n 2, 1) := by decide +kernel
theorem dX12_setFinal_3 : decode cX12_setFinal 3 = .ok (.invokevirtual 118, 3) := by decide +kernel
theorem dX12_setFinal_6 : decode cX12_setFinal 6 = .ok (.ifCond .ne 9, 3) := by decide +kernel
theorem dX12_setFinal_9 : decode cX12_setFinal 9 = .ok (.aload_n 0, 1) := by decide +kernel
theorem dX12_setFinal_10 : decode cX12_setFinal 10 = .ok (.iconst 1, 1) := by decide +kernel
theorem dX12_setFinal_11 : decode cX12_setFinal 11 = .ok (.invokevirtual 125, 3) := by decide +kernel
theorem dX12_setFinal_14 : decode cX12_setFinal 14 = .ok (.ireturn, 1) := by decide +kernel
theorem dX12_setFinal_15 : decode cX12_setFinal 15 = .ok (.aload_n 0, 1) := by decide +kernel
theorem dX12_setFinal_16 : decode cX12_setFinal 16 = .ok (.getfield 16, 3) := by decide +kernel
theorem dX12_setFinal_19 : decode cX12_setFinal 19 = .ok (.bipush 6, 2) := by decide +kernel
theorem dX12_setFinal_21 : decode cX12_setFinal 21 = .ok (.iload_n 1, 1) := by decide +kernel
theorem dX12_setFinal_22 : decode cX12_setFinal 22 = .ok (.imul, 1) := by decide +kernel
theorem dX12_setFinal_23 : decode cX12_setFinal 23 = .ok (.iload_n 2, 1) := by decide +kernel
theorem dX12_setFinal_24 : decode cX12_setFinal 24 = .ok (.iadd, 1) := by decide +kernel
theorem dX12_setFinal_25 : decode cX12_setFinal 25 = .ok (.baload, 1) := by decide +kernel
theorem dX12_setFinal_26 : decode cX12_setFinal 26 = .ok (.istore 4, 2) := by decide +kernel
theorem dX12_setFinal_28 : decode cX12_setFinal 28 = .ok (.aload_n 0, 1) := by decide +kernel
theorem dX12_setFinal_29 : decode cX12_setFinal 29 = .ok (.getfield 16, 3) := by decide +kernel
theorem dX12_setFinal_32 : decode cX12_setFinal 32 = .ok (.bipush 6, 2) := by decide +kernel
theorem dX12_setFinal_34 : decode cX12_setFinal 34 = .ok (.iload_n 1, 1) := by decide +kernel
theorem dX12_setFinal_35 : decode cX12_setFinal 35 = .ok (.imul, 1) := by decide +kernel
theorem dX12_setFinal_36 : decode cX12_setFinal 36 = .ok (.iload_n 2, 1) := by decide +kernel
theorem dX12_setFinal_37 : decode cX12_setFinal 37 = .ok (.iadd, 1) := by decide +kernel
theorem dX12_setFinal_38 : decode cX12_setFinal 38 = .ok (.iload_n 3, 1) := by decide +kernel
theorem dX12_setFinal_39 : decode cX12_setFinal 39 = .ok (.bastore, 1) := by decide +kernel
theorem dX12_setFinal_40 : decode cX12_setFinal 40 = .ok (.aload_n 0, 1) := by decide +kernel
theorem dX12_setFinal_41 : decode cX12_setFinal 41 = .ok (.iload 4, 2) := by decide +kernel
theorem dX12_setFinal_43 : decode cX12_setFinal 43 = .ok (.invokevirtual 128, 3) := by decide +kernel
theorem dX12_setFinal_46 : decode cX12_setFinal 46 = .ok (.ireturn, 1) := by decide +kernel
theorem dX12_stateCount_0 : decode cX12_stateCount 0 = .ok (.iload_n 1, 1) := by decide +kernel
theorem dX12_stateCount_1 : decode cX12_stateCount 1 = .ok (.invokestatic 106, 3) := by decide +kernel
theorem dX12_stateCount_4 : decode cX12_stateCount 4 = .ok (.ifCond .eq 16, 3) := by decide +kernel
theorem dX12_stateCount_7 : decode cX12_stateCount 7 = .ok (.aload_n 0, 1) := by decide +kernel
theorem dX12_stateCount_8 : decode cX12_stateCount 8 = .ok (.aload_n 0, 1) := by decide +kernel
theorem dX12_stateCount_9 : decode cX12_stateCount 9 = .ok (.getfield 7, 3) := by decide +kernel
theorem dX12_stateCount_12 : decode cX12_stateCount 12 = .ok (.iload_n 1, 1) := by decide +kernel
theorem dX12_stateCount_13 : decode cX12_stateCount 13 = .ok (.iaload, 1) := by decide +kernel
theorem dX12_stateCount_14 : decode cX12_stateCount 14 = .ok (.invokevirtual 132, 3) := by decide +kernel
theorem dX12_stateCount_17 : decode cX12_stateCount 17 = .ok (.goto 8, 3) := by decide +kernel
theorem dX12_stateCount_20 : decode cX12_stateCount 20 = .ok (.aload_n 0, 1) := by decide +kernel
theorem dX12_stateCount_21 : decode cX12_stateCount 21 = .ok (.iconst 1, 1) := by decide +kernel
theorem dX12_stateCount_22 : decode cX12_stateCount 22 = .ok (.invokevirtual 136, 3) := by decide +kernel
theorem dX12_stateCount_25 : decode cX12_stateCount 25 = .ok (.ireturn, 1) := by decide +kernel
theorem dX12_target_0 : decode cX12_target 0 = .ok (.aload_n 0, 1) := by decide +kernel
theorem dX12_target_1 : decode cX12_target 1 = .ok (.iload_n 1, 1) := by decide +kernel
theorem dX12_target_2 : decode cX12_target 2 = .ok (.iload_n 2, 1) := by decide +kernel
theorem dX12_target_3 : decode cX12_target 3 = .ok (.invokevirtual 118, 3) := by decide +kernel
theorem dX12_target_6 : decode cX12_target 6 = .ok (.ifCond .eq 28, 3) := by decide +kernel
theorem dX12_target_9 : decode cX12_target 9 = .ok (.iload_n 3, 1) := by decide +kernel
theorem dX12_target_10 : decode cX12_target 10 = .ok (.invokestatic 122, 3) := by decide +kernel
theorem dX12_target_13 : decode cX12_target 13 = .ok (.ifCond .eq 21, 3) := by decide +kernel
theorem dX12_target_16 : decode cX12_target 16 = .ok (.aload_n 0, 1) := by decide +kernel
theorem dX12_target_17 : decode cX12_target 17 = .ok (.aload_n 0, 1) := by decide +kernel
theorem dX12_target_18 : decode cX12_target 18 = .ok (.getfield 13, 3) := by decide +kernel
theorem dX12_target_21 : decode cX12_target 21 = .ok (.iload_n 1, 1) := by decide +kernel
theorem dX12_target_22 : decode cX12_target 22 = .ok (.iload_n 2, 1) := by decide +kernel
theorem dX12_target_23 : decode cX12_target 23 = .ok (.iload_n 3, 1) := by decide +kernel
theorem dX12_target_24 : decode cX12_target 24 = .ok (.invokestatic 110, 3) := by decide +kernel
theorem dX12_target_27 : decode cX12_target 27 = .ok (.iaload, 1) := by decide +kernel
theorem dX12_target_28 : decode cX12_target 28 = .ok (.invokevirtual 132, 3) := by decide +kernel
theorem dX12_target_31 : decode cX12_target 31 = .ok (.goto 8, 3) := by decide +kernel
theorem dX12_target_34 : decode cX12_target 34 = .ok (.aload_n 0, 1) := by decide +kernel
theorem dX12_target_35 : decode cX12_target 35 = .ok (.iconst 1, 1) := by decide +kernel
theorem dX12_target_36 : decode cX12_target 36 = .ok (.invokevirtual 136, 3) := by decide +kernel
theorem dX12_target_39 : decode cX12_target 39 = .ok (.ireturn, 1) := by decide +kernel
theorem dX12_isFinal_0 : decode cX12_isFinal 0 = .ok (.aload_n 0, 1) := by decide +kernel
theorem dX12_isFinal_1 : decode cX12_isFinal 1 = .ok (.iload_n 1, 1) := by decide +kernel
theorem dX12_isFinal_2 : decode cX12_isFinal 2 = .ok (.iload_n 2, 1) := by decide +kernel
theorem dX12_isFinal_3 : decode cX12_isFinal 3 = .ok (.invokevirtual 118, 3) := by decide +kernel
theorem dX12_isFinal_6 : decode cX12_isFinal 6 = .ok (.ifCond .eq 21, 3) := by decide +kernel
theorem dX12_isFinal_9 : decode cX12_isFinal 9 = .ok (.aload_n 0, 1) := by decide +kernel
theorem dX12_isFinal_10 : decode cX12_isFinal 10 = .ok (.aload_n 0, 1) := by decide +kernel
theorem dX12_isFinal_11 : decode cX12_isFinal 11 = .ok (.getfield 16, 3) := by decide +kernel
theorem dX12_isFinal_14 : decode cX12_isFinal 14 = .ok (.bipush 6, 2) := by decide +kernel
theorem dX12_isFinal_16 : decode cX12_isFinal 16 = .ok (.iload_n 1, 1) := by decide +kernel
theorem dX12_isFinal_17 : decode cX12_isFinal 17 = .ok (.imul, 1) := by decide +kernel
theorem dX12_isFinal_18 : decode cX12_isFinal 18 = .ok (.iload_n 2, 1) := by decide +kernel
theorem dX12_isFinal_19 : decode cX12_isFinal 19 = .ok (.iadd, 1) := by decide +kernel
theorem dX12_isFinal_20 : decode cX12_isFinal 20 = .ok (.baload, 1) := by decide +kernel
theorem dX12_isFinal_21 : decode cX12_isFinal 21 = .ok (.invokevirtual 128, 3) := by decide +kernel
theorem dX12_isFinal_24 : decode cX12_isFinal 24 = .ok (.goto 8, 3) := by decide +kernel
theorem dX12_isFinal_27 : decode cX12_isFinal 27 = .ok (.aload_n 0, 1) := by decide +kernel
theorem dX12_isFinal_28 : decode cX12_isFinal 28 = .ok (.iconst 1, 1) := by decide +kernel
theorem dX12_isFinal_29 : decode cX12_isFinal 29 = .ok (.invokevirtual 125, 3) := by decide +kernel
theorem dX12_isFinal_32 : decode cX12_isFinal 32 = .ok (.ireturn, 1) := by decide +kernel
theorem dX12_draw_0 : decode cX12_draw 0 = .ok (.aload_n 0, 1) := by decide +kernel
theorem dX12_draw_1 : decode cX12_draw 1 = .ok (.aload_n 0, 1) := by decide +kernel
theorem dX12_draw_2 : decode cX12_draw 2 = .ok (.getfield 139, 3) := by decide +kernel
theorem dX12_draw_5 : decode cX12_draw 5 = .ok (.ldc 142, 2) := by decide +kernel
theorem dX12_draw_7 : decode cX12_draw 7 = .ok (.imul, 1) := by decide +kernel
theorem dX12_draw_8 : decode cX12_draw 8 = .ok (.sipush 12345, 3) := by decide +kernel
theorem dX12_draw_11 : decode cX12_draw 11 = .ok (.iadd, 1) := by decide +kernel
theorem dX12_draw_12 : decode cX12_draw 12 = .ok (.putfield 139, 3) := by decide +kernel
theorem dX12_draw_15 : decode cX12_draw 15 = .ok (.aload_n 0, 1) := by decide +kernel
theorem dX12_draw_16 : decode cX12_draw 16 = .ok (.getfield 139, 3) := by decide +kernel
theorem dX12_draw_19 : decode cX12_draw 19 = .ok (.bipush 16, 2) := by decide +kernel
theorem dX12_draw_21 : decode cX12_draw 21 = .ok (.iushr, 1) := by decide +kernel
theorem dX12_draw_22 : decode cX12_draw 22 = .ok (.iload_n 1, 1) := by decide +kernel
theorem dX12_draw_23 : decode cX12_draw 23 = .ok (.irem, 1) := by decide +kernel
theorem dX12_draw_24 : decode cX12_draw 24 = .ok (.ireturn, 1) := by decide +kernel
theorem dX12_randomize_0 : decode cX12_randomize 0 = .ok (.aload_n 0, 1) := by decide +kernel
theorem dX12_randomize_1 : decode cX12_randomize 1 = .ok (.iload_n 1, 1) := by decide +kernel
theorem dX12_randomize_2 : decode cX12_randomize 2 = .ok (.invokestatic 106, 3) := by decide +kernel
theorem dX12_randomize_5 : decode cX12_randomize 5 = .ok (.ifCond .eq 7, 3) := by decide +kernel
theorem dX12_randomize_8 : decode cX12_randomize 8 = .ok (.iconst 0, 1) := by decide +kernel
theorem dX12_randomize_9 : decode cX12_randomize 9 = .ok (.goto 4, 3) := by decide +kernel
theorem dX12_randomize_12 : decode cX12_randomize 12 = .ok (.iconst 1, 1) := by decide +kernel
theorem dX12_randomize_13 : decode cX12_randomize 13 = .ok (.putfield 98, 3) := by decide +kernel
theorem dX12_randomize_16 : decode cX12_randomize 16 = .ok (.aload_n 0, 1) := by decide +kernel
theorem dX12_randomize_17 : decode cX12_randomize 17 = .ok (.getfield 98, 3) := by decide +kernel
theorem dX12_randomize_20 : decode cX12_randomize 20 = .ok (.ifCond .eq 4, 3) := by decide +kernel
theorem dX12_randomize_23 : decode cX12_randomize 23 = .ok (.return_, 1) := by decide +kernel
theorem dX12_randomize_24 : decode cX12_randomize 24 = .ok (.aload_n 0, 1) := by decide +kernel
theorem dX12_randomize_25 : decode cX12_randomize 25 = .ok (.iload_n 2, 1) := by decide +kernel
theorem dX12_randomize_26 : decode cX12_randomize 26 = .ok (.putfield 139, 3) := by decide +kernel
theorem dX12_randomize_29 : decode cX12_randomize 29 = .ok (.iconst 0, 1) := by decide +kernel
theorem dX12_randomize_30 : decode cX12_randomize 30 = .ok (.istore_n 3, 1) := by decide +kernel
theorem dX12_randomize_31 : decode cX12_randomize 31 = .ok (.iload_n 3, 1) := by decide +kernel
theorem dX12_randomize_32 : decode cX12_randomize 32 = .ok (.aload_n 0, 1) := by decide +kernel
theorem dX12_randomize_33 : decode cX12_randomize 33 = .ok (.getfield 7, 3) := by decide +kernel
theorem dX12_randomize_36 : decode cX12_randomize 36 = .ok (.iload_n 1, 1) := by decide +kernel
theorem dX12_randomize_37 : decode cX12_randomize 37 = .ok (.iaload, 1) := by decide +kernel
theorem dX12_randomize_38 : decode cX12_randomize 38 = .ok (.if_icmp .ge 46, 3) := by decide +kernel
theorem dX12_randomize_41 : decode cX12_randomize 41 = .ok (.iconst 0, 1) := by decide +kernel
theorem dX12_randomize_42 : decode cX12_randomize 42 = .ok (.istore 4, 2) := by decide +kernel
theorem dX12_randomize_44 : decode cX12_randomize 44 = .ok (.iload 4, 2) := by decide +kernel
theorem dX12_randomize_46 : decode cX12_randomize 46 = .ok (.iconst 3, 1) := by decide +kernel
theorem dX12_randomize_47 : decode cX12_randomize 47 = .ok (.if_icmp .ge 31, 3) := by decide +kernel
theorem dX12_randomize_50 : decode cX12_randomize 50 = .ok (.aload_n 0, 1) := by decide +kernel
theorem dX12_randomize_51 : decode cX12_randomize 51 = .ok (.getfield 13, 3) := by decide +kernel
theorem dX12_randomize_54 : decode cX12_randomize 54 = .ok (.iload_n 1, 1) := by decide +kernel
theorem dX12_randomize_55 : decode cX12_randomize 55 = .ok (.iload_n 3, 1) := by decide +kernel
theorem dX12_randomize_56 : decode cX12_randomize 56 = .ok (.iload 4, 2) := by decide +kernel
theorem dX12_randomize_58 : decode cX12_randomize 58 = .ok (.invokestatic 110, 3) := by decide +kernel
theorem dX12_randomize_61 : decode cX12_randomize 61 = .ok (.aload_n 0, 1) := by decide +kernel
theorem dX12_randomize_62 : decode cX12_randomize 62 = .ok (.aload_n 0, 1) := by decide +kernel
theorem dX12_randomize_63 : decode cX12_randomize 63 = .ok (.getfield 7, 3) := by decide +kernel
theorem dX12_randomize_66 : decode cX12_randomize 66 = .ok (.iload_n 1, 1) := by decide +kernel
theorem dX12_randomize_67 : decode cX12_randomize 67 = .ok (.iaload, 1) := by decide +kernel
theorem dX12_randomize_68 : decode cX12_randomize 68 = .ok (.invokevirtual 143, 3) := by decide +kernel
theorem dX12_randomize_71 : decode cX12_randomize 71 = .ok (.iastore, 1) := by decide +kernel
theorem dX12_randomize_72 : decode cX12_randomize 72 = .ok (.iinc 4 1, 3) := by decide +kernel
theorem dX12_randomize_75 : decode cX12_randomize 75 = .ok (.goto (-31), 3) := by decide +kernel
theorem dX12_randomize_78 : decode cX12_randomize 78 = .ok (.iinc 3 1, 3) := by decide +kernel
theorem dX12_randomize_81 : decode cX12_randomize 81 = .ok (.goto (-50), 3) := by decide +kernel
theorem dX12_randomize_84 : decode cX12_randomize 84 = .ok (.iconst 0, 1) := by decide +kernel
theorem dX12_randomize_85 : decode cX12_randomize 85 = .ok (.istore_n 3, 1) := by decide +kernel
theorem dX12_randomize_86 : decode cX12_randomize 86 = .ok (.iload_n 3, 1) := by decide +kernel
theorem dX12_randomize_87 : decode cX12_randomize 87 = .ok (.aload_n 0, 1) := by decide +kernel
theorem dX12_randomize_88 : decode cX12_randomize 88 = .ok (.getfield 7, 3) := by decide +kernel
theorem dX12_randomize_91 : decode cX12_randomize 91 = .ok (.iload_n 1, 1) := by decide +kernel
theorem dX12_randomize_92 : decode cX12_randomize 92 = .ok (.iaload, 1) := by decide +kernel
theorem dX12_randomize_93 : decode cX12_randomize 93 = .ok (.if_icmp .ge 34, 3) := by decide +kernel
theorem dX12_randomize_96 : decode cX12_randomize 96 = .ok (.aload_n 0, 1) := by decide +kernel
theorem dX12_randomize_97 : decode cX12_randomize 97 = .ok (.getfield 16, 3) := by decide +kernel
theorem dX12_randomize_100 : decode cX12_randomize 100 = .ok (.bipush 6, 2) := by decide +kernel
theorem dX12_randomize_102 : decode cX12_randomize 102 = .ok (.iload_n 1, 1) := by decide +kernel
theorem dX12_randomize_103 : decode cX12_randomize 103 = .ok (.imul, 1) := by decide +kernel
theorem dX12_randomize_104 : decode cX12_randomize 104 = .ok (.iload_n 3, 1) := by decide +kernel
theorem dX12_randomize_105 : decode cX12_randomize 105 = .ok (.iadd, 1) := by decide +kernel
theorem dX12_randomize_106 : decode cX12_randomize 106 = .ok (.aload_n 0, 1) := by decide +kernel
theorem dX12_randomize_107 : decode cX12_randomize 107 = .ok (.iconst 2, 1) := by decide +kernel
theorem dX12_randomize_108 : decode cX12_randomize 108 = .ok (.invokevirtual 143, 3) := by decide +kernel
theorem dX12_randomize_111 : decode cX12_randomize 111 = .ok (.iconst 1, 1) := by decide +kernel
theorem dX12_randomize_112 : decode cX12_randomize 112 = .ok (.if_icmp .ne 7, 3) := by decide +kernel
theorem dX12_randomize_115 : decode cX12_randomize 115 = .ok (.iconst 1, 1) := by decide +kernel
theorem dX12_randomize_116 : decode cX12_randomize 116 = .ok (.goto 4, 3) := by decide +kernel
theorem dX12_randomize_119 : decode cX12_randomize 119 = .ok (.iconst 0, 1) := by decide +kernel
theorem dX12_randomize_120 : decode cX12_randomize 120 = .ok (.bastore, 1) := by decide +kernel
theorem dX12_randomize_121 : decode cX12_randomize 121 = .ok (.iinc 3 1, 3) := by decide +kernel
theorem dX12_randomize_124 : decode cX12_randomize 124 = .ok (.goto (-38), 3) := by decide +kernel
theorem dX12_randomize_127 : decode cX12_randomize 127 = .ok (.return_, 1) := by decide +kernel
theorem dX12_makeWitness_0 : decode cX12_makeWitness 0 = .ok (.aload_n 0, 1) := by decide +kernel
theorem dX12_makeWitness_1 : decode cX12_makeWitness 1 = .ok (.iload_n 1, 1) := by decide +kernel
theorem dX12_makeWitness_2 : decode cX12_makeWitness 2 = .ok (.invokestatic 106, 3) := by decide +kernel
theorem dX12_makeWitness_5 : decode cX12_makeWitness 5 = .ok (.ifCond .ne 7, 3) := by decide +kernel
theorem dX12_makeWitness_8 : decode cX12_makeWitness 8 = .ok (.iconst 1, 1) := by decide +kernel
theorem dX12_makeWitness_9 : decode cX12_makeWitness 9 = .ok (.goto 18, 3) := by decide +kernel
theorem dX12_makeWitness_12 : decode cX12_makeWitness 12 = .ok (.iload_n 2, 1) := by decide +kernel
theorem dX12_makeWitness_13 : decode cX12_makeWitness 13 = .ok (.iconst 1, 1) := by decide +kernel
theorem dX12_makeWitness_14 : decode cX12_makeWitness 14 = .ok (.bipush 6, 2) := by decide +kernel
theorem dX12_makeWitness_16 : decode cX12_makeWitness 16 = .ok (.invokestatic 102, 3) := by decide +kernel
theorem dX12_makeWitness_19 : decode cX12_makeWitness 19 = .ok (.ifCond .ne 7, 3) := by decide +kernel
theorem dX12_makeWitness_22 : decode cX12_makeWitness 22 = .ok (.iconst 2, 1) := by decide +kernel
theorem dX12_makeWitness_23 : decode cX12_makeWitness 23 = .ok (.goto 4, 3) := by decide +kernel
theorem dX12_makeWitness_26 : decode cX12_makeWitness 26 = .ok (.iconst 0, 1) := by decide +kernel
theorem dX12_makeWitness_27 : decode cX12_makeWitness 27 = .ok (.putfield 98, 3) := by decide +kernel
theorem dX12_makeWitness_30 : decode cX12_makeWitness 30 = .ok (.aload_n 0, 1) := by decide +kernel
theorem dX12_makeWitness_31 : decode cX12_makeWitness 31 = .ok (.getfield 98, 3) := by decide +kernel
theorem dX12_makeWitness_34 : decode cX12_makeWitness 34 = .ok (.ifCond .eq 4, 3) := by decide +kernel
theorem dX12_makeWitness_37 : decode cX12_makeWitness 37 = .ok (.return_, 1) := by decide +kernel
theorem dX12_makeWitness_38 : decode cX12_makeWitness 38 = .ok (.aload_n 0, 1) := by decide +kernel
theorem dX12_makeWitness_39 : decode cX12_makeWitness 39 = .ok (.iload_n 1, 1) := by decide +kernel
theorem dX12_makeWitness_40 : decode cX12_makeWitness 40 = .ok (.iload_n 2, 1) := by decide +kernel
theorem dX12_makeWitness_41 : decode cX12_makeWitness 41 = .ok (.invokevirtual 114, 3) := by decide +kernel
theorem dX12_makeWitness_44 : decode cX12_makeWitness 44 = .ok (.iconst 0, 1) := by decide +kernel
theorem dX12_makeWitness_45 : decode cX12_makeWitness 45 = .ok (.istore_n 3, 1) := by decide +kernel
theorem dX12_makeWitness_46 : decode cX12_makeWitness 46 = .ok (.iload_n 3, 1) := by decide +kernel
theorem dX12_makeWitness_47 : decode cX12_makeWitness 47 = .ok (.iload_n 2, 1) := by decide +kernel
theorem dX12_makeWitness_48 : decode cX12_makeWitness 48 = .ok (.if_icmp .ge 85, 3) := by decide +kernel
theorem dX12_makeWitness_51 : decode cX12_makeWitness 51 = .ok (.aload_n 0, 1) := by decide +kernel
theorem dX12_makeWitness_52 : decode cX12_makeWitness 52 = .ok (.getfield 13, 3) := by decide +kernel
theorem dX12_makeWitness_55 : decode cX12_makeWitness 55 = .ok (.iload_n 1, 1) := by decide +kernel
theorem dX12_makeWitness_56 : decode cX12_makeWitness 56 = .ok (.iload_n 3, 1) := by decide +kernel
theorem dX12_makeWitness_57 : decode cX12_makeWitness 57 = .ok (.iconst 0, 1) := by decide +kernel
theorem dX12_makeWitness_58 : decode cX12_makeWitness 58 = .ok (.invokestatic 110, 3) := by decide +kernel
theorem dX12_makeWitness_61 : decode cX12_makeWitness 61 = .ok (.iload_n 3, 1) := by decide +kernel
theorem dX12_makeWitness_62 : decode cX12_makeWitness 62 = .ok (.iload_n 2, 1) := by decide +kernel
theorem dX12_makeWitness_63 : decode cX12_makeWitness 63 = .ok (.iconst 1, 1) := by decide +kernel
theorem dX12_makeWitness_64 : decode cX12_makeWitness 64 = .ok (.isub, 1) := by decide +kernel
theorem dX12_makeWitness_65 : decode cX12_makeWitness 65 = .ok (.if_icmp .ne 7, 3) := by decide +kernel
theorem dX12_makeWitness_68 : decode cX12_makeWitness 68 = .ok (.iconst 0, 1) := by decide +kernel
theorem dX12_makeWitness_69 : decode cX12_makeWitness 69 = .ok (.goto 6, 3) := by decide +kernel
theorem dX12_makeWitness_72 : decode cX12_makeWitness 72 = .ok (.iload_n 3, 1) := by decide +kernel
theorem dX12_makeWitness_73 : decode cX12_makeWitness 73 = .ok (.iconst 1, 1) := by decide +kernel
theorem dX12_makeWitness_74 : decode cX12_makeWitness 74 = .ok (.iadd, 1) := by decide +kernel
theorem dX12_makeWitness_75 : decode cX12_makeWitness 75 = .ok (.iastore, 1) := by decide +kernel
theorem dX12_makeWitness_76 : decode cX12_makeWitness 76 = .ok (.aload_n 0, 1) := by decide +kernel
theorem dX12_makeWitness_77 : decode cX12_makeWitness 77 = .ok (.getfield 13, 3) := by decide +kernel
theorem dX12_makeWitness_80 : decode cX12_makeWitness 80 = .ok (.iload_n 1, 1) := by decide +kernel
theorem dX12_makeWitness_81 : decode cX12_makeWitness 81 = .ok (.iload_n 3, 1) := by decide +kernel
theorem dX12_makeWitness_82 : decode cX12_makeWitness 82 = .ok (.iconst 1, 1) := by decide +kernel
theorem dX12_makeWitness_83 : decode cX12_makeWitness 83 = .ok (.invokestatic 110, 3) := by decide +kernel
theorem dX12_makeWitness_86 : decode cX12_makeWitness 86 = .ok (.iload_n 2, 1) := by decide +kernel
theorem dX12_makeWitness_87 : decode cX12_makeWitness 87 = .ok (.iconst 1, 1) := by decide +kernel
theorem dX12_makeWitness_88 : decode cX12_makeWitness 88 = .ok (.if_icmp .le 14, 3) := by decide +kernel
theorem dX12_makeWitness_91 : decode cX12_makeWitness 91 = .ok (.iload_n 3, 1) := by decide +kernel
theorem dX12_makeWitness_92 : decode cX12_makeWitness 92 = .ok (.iconst 2, 1) := by decide +kernel
theorem dX12_makeWitness_93 : decode cX12_makeWitness 93 = .ok (.if_icmp .ge 9, 3) := by decide +kernel
theorem dX12_makeWitness_96 : decode cX12_makeWitness 96 = .ok (.iconst 1, 1) := by decide +kernel
theorem dX12_makeWitness_97 : decode cX12_makeWitness 97 = .ok (.iload_n 3, 1) := by decide +kernel
theorem dX12_makeWitness_98 : decode cX12_makeWitness 98 = .ok (.isub, 1) := by decide +kernel
theorem dX12_makeWitness_99 : decode cX12_makeWitness 99 = .ok (.goto 4, 3) := by decide +kernel
theorem dX12_makeWitness_102 : decode cX12_makeWitness 102 = .ok (.iload_n 3, 1) := by decide +kernel
theorem dX12_makeWitness_103 : decode cX12_makeWitness 103 = .ok (.iastore, 1) := by decide +kernel
theorem dX12_makeWitness_104 : decode cX12_makeWitness 104 = .ok (.aload_n 0, 1) := by decide +kernel
theorem dX12_makeWitness_105 : decode cX12_makeWitness 105 = .ok (.getfield 13, 3) := by decide +kernel
theorem dX12_makeWitness_108 : decode cX12_makeWitness 108 = .ok (.iload_n 1, 1) := by decide +kernel
theorem dX12_makeWitness_109 : decode cX12_makeWitness 109 = .ok (.iload_n 3, 1) := by decide +kernel
theorem dX12_makeWitness_110 : decode cX12_makeWitness 110 = .ok (.iconst 2, 1) := by decide +kernel
theorem dX12_makeWitness_111 : decode cX12_makeWitness 111 = .ok (.invokestatic 110, 3) := by decide +kernel
theorem dX12_makeWitness_114 : decode cX12_makeWitness 114 = .ok (.iload_n 3, 1) := by decide +kernel
theorem dX12_makeWitness_115 : decode cX12_makeWitness 115 = .ok (.iload_n 2, 1) := by decide +kernel
theorem dX12_makeWitness_116 : decode cX12_makeWitness 116 = .ok (.iconst 1, 1) := by decide +kernel
theorem dX12_makeWitness_117 : decode cX12_makeWitness 117 = .ok (.isub, 1) := by decide +kernel
theorem dX12_makeWitness_118 : decode cX12_makeWitness 118 = .ok (.if_icmp .ne 7, 3) := by decide +kernel
theorem dX12_makeWitness_121 : decode cX12_makeWitness 121 = .ok (.iconst 0, 1) := by decide +kernel
theorem dX12_makeWitness_122 : decode cX12_makeWitness 122 = .ok (.goto 4, 3) := by decide +kernel
theorem dX12_makeWitness_125 : decode cX12_makeWitness 125 = .ok (.iload_n 3, 1) := by decide +kernel
theorem dX12_makeWitness_126 : decode cX12_makeWitness 126 = .ok (.iastore, 1) := by decide +kernel
theorem dX12_makeWitness_127 : decode cX12_makeWitness 127 = .ok (.iinc 3 1, 3) := by decide +kernel
theorem dX12_makeWitness_130 : decode cX12_makeWitness 130 = .ok (.goto (-84), 3) := by decide +kernel
theorem dX12_makeWitness_133 : decode cX12_makeWitness 133 = .ok (.aload_n 0, 1) := by decide +kernel
theorem dX12_makeWitness_134 : decode cX12_makeWitness 134 = .ok (.getfield 16, 3) := by decide +kernel
theorem dX12_makeWitness_137 : decode cX12_makeWitness 137 = .ok (.bipush 6, 2) := by decide +kernel
theorem dX12_makeWitness_139 : decode cX12_makeWitness 139 = .ok (.iload_n 1, 1) := by decide +kernel
theorem dX12_makeWitness_140 : decode cX12_makeWitness 140 = .ok (.imul, 1) := by decide +kernel
theorem dX12_makeWitness_141 : decode cX12_makeWitness 141 = .ok (.iload_n 2, 1) := by decide +kernel
theorem dX12_makeWitness_142 : decode cX12_makeWitness 142 = .ok (.iadd, 1) := by decide +kernel
theorem dX12_makeWitness_143 : decode cX12_makeWitness 143 = .ok (.iconst 1, 1) := by decide +kernel
theorem dX12_makeWitness_144 : decode cX12_makeWitness 144 = .ok (.isub, 1) := by decide +kernel
theorem dX12_makeWitness_145 : decode cX12_makeWitness 145 = .ok (.iconst 1, 1) := by decide +kernel
theorem dX12_makeWitness_146 : decode cX12_makeWitness 146 = .ok (.bastore, 1) := by decide +kernel
theorem dX12_makeWitness_147 : decode cX12_makeWitness 147 = .ok (.return_, 1) := by decide +kernel
theorem dX12_appendLetter_0 : decode cX12_appendLetter 0 = .ok (.iload_n 1, 1) := by decide +kernel
theorem dX12_appendLetter_1 : decode cX12_appendLetter 1 = .ok (.invokestatic 122, 3) := by decide +kernel
theorem dX12_appendLetter_4 : decode cX12_appendLetter 4 = .ok (.ifCond .ne 9, 3) := by decide +kernel
theorem dX12_appendLetter_7 : decode cX12_appendLetter 7 = .ok (.aload_n 0, 1) := by decide +kernel
theorem dX12_appendLetter_8 : decode cX12_appendLetter 8 = .ok (.iconst 1, 1) := by decide +kernel
theorem dX12_appendLetter_9 : decode cX12_appendLetter 9 = .ok (.invokevirtual 136, 3) := by decide +kernel
theorem dX12_appendLetter_12 : decode cX12_appendLetter 12 = .ok (.ireturn, 1) := by decide +kernel
theorem dX12_appendLetter_13 : decode cX12_appendLetter 13 = .ok (.aload_n 0, 1) := by decide +kernel
theorem dX12_appendLetter_14 : decode cX12_appendLetter 14 = .ok (.getfield 146, 3) := by decide +kernel
theorem dX12_appendLetter_17 : decode cX12_appendLetter 17 = .ok (.bipush 12, 2) := by decide +kernel
theorem dX12_appendLetter_19 : decode cX12_appendLetter 19 = .ok (.if_icmp .ne 9, 3) := by decide +kernel
theorem dX12_appendLetter_22 : decode cX12_appendLetter 22 = .ok (.aload_n 0, 1) := by decide +kernel
theorem dX12_appendLetter_23 : decode cX12_appendLetter 23 = .ok (.iconst 2, 1) := by decide +kernel
theorem dX12_appendLetter_24 : decode cX12_appendLetter 24 = .ok (.invokevirtual 136, 3) := by decide +kernel
theorem dX12_appendLetter_27 : decode cX12_appendLetter 27 = .ok (.ireturn, 1) := by decide +kernel
theorem dX12_appendLetter_28 : decode cX12_appendLetter 28 = .ok (.aload_n 0, 1) := by decide +kernel
theorem dX12_appendLetter_29 : decode cX12_appendLetter 29 = .ok (.getfield 20, 3) := by decide +kernel
theorem dX12_appendLetter_32 : decode cX12_appendLetter 32 = .ok (.aload_n 0, 1) := by decide +kernel
theorem dX12_appendLetter_33 : decode cX12_appendLetter 33 = .ok (.getfield 146, 3) := by decide +kernel
theorem dX12_appendLetter_36 : decode cX12_appendLetter 36 = .ok (.iload_n 1, 1) := by decide +kernel
theorem dX12_appendLetter_37 : decode cX12_appendLetter 37 = .ok (.iastore, 1) := by decide +kernel
theorem dX12_appendLetter_38 : decode cX12_appendLetter 38 = .ok (.aload_n 0, 1) := by decide +kernel
theorem dX12_appendLetter_39 : decode cX12_appendLetter 39 = .ok (.dup, 1) := by decide +kernel
theorem dX12_appendLetter_40 : decode cX12_appendLetter 40 = .ok (.getfield 146, 3) := by decide +kernel
theorem dX12_appendLetter_43 : decode cX12_appendLetter 43 = .ok (.iconst 1, 1) := by decide +kernel
theorem dX12_appendLetter_44 : decode cX12_appendLetter 44 = .ok (.iadd, 1) := by decide +kernel
theorem dX12_appendLetter_45 : decode cX12_appendLetter 45 = .ok (.putfield 146, 3) := by decide +kernel
theorem dX12_appendLetter_48 : decode cX12_appendLetter 48 = .ok (.aload_n 0, 1) := by decide +kernel
theorem dX12_appendLetter_49 : decode cX12_appendLetter 49 = .ok (.aload_n 0, 1) := by decide +kernel
theorem dX12_appendLetter_50 : decode cX12_appendLetter 50 = .ok (.getfield 146, 3) := by decide +kernel
theorem dX12_appendLetter_53 : decode cX12_appendLetter 53 = .ok (.invokevirtual 132, 3) := by decide +kernel
theorem dX12_appendLetter_56 : decode cX12_appendLetter 56 = .ok (.ireturn, 1) := by decide +kernel
theorem dX12_clearWord_0 : decode cX12_clearWord 0 = .ok (.aload_n 0, 1) := by decide +kernel
theorem dX12_clearWord_1 : decode cX12_clearWord 1 = .ok (.getfield 146, 3) := by decide +kernel
theorem dX12_clearWord_4 : decode cX12_clearWord 4 = .ok (.istore_n 1, 1) := by decide +kernel
theorem dX12_clearWord_5 : decode cX12_clearWord 5 = .ok (.aload_n 0, 1) := by decide +kernel
theorem dX12_clearWord_6 : decode cX12_clearWord 6 = .ok (.iconst 0, 1) := by decide +kernel
theorem dX12_clearWord_7 : decode cX12_clearWord 7 = .ok (.putfield 146, 3) := by decide +kernel
theorem dX12_clearWord_10 : decode cX12_clearWord 10 = .ok (.aload_n 0, 1) := by decide +kernel
theorem dX12_clearWord_11 : decode cX12_clearWord 11 = .ok (.iload_n 1, 1) := by decide +kernel
theorem dX12_clearWord_12 : decode cX12_clearWord 12 = .ok (.invokevirtual 132, 3) := by decide +kernel
theorem dX12_clearWord_15 : decode cX12_clearWord 15 = .ok (.ireturn, 1) := by decide +kernel
theorem dX12_wordLetter_0 : decode cX12_wordLetter 0 = .ok (.iload_n 1, 1) := by decide +kernel
theorem dX12_wordLetter_1 : decode cX12_wordLetter 1 = .ok (.iconst 0, 1) := by decide +kernel
theorem dX12_wordLetter_2 : decode cX12_wordLetter 2 = .ok (.aload_n 0, 1) := by decide +kernel
theorem dX12_wordLetter_3 : decode cX12_wordLetter 3 = .ok (.getfield 146, 3) := by decide +kernel
theorem dX12_wordLetter_6 : decode cX12_wordLetter 6 = .ok (.iconst 1, 1) := by decide +kernel
theorem dX12_wordLetter_7 : decode cX12_wordLetter 7 = .ok (.isub, 1) := by decide +kernel
theorem dX12_wordLetter_8 : decode cX12_wordLetter 8 = .ok (.invokestatic 102, 3) := by decide +kernel
theorem dX12_wordLetter_11 : decode cX12_wordLetter 11 = .ok (.ifCond .eq 16, 3) := by decide +kernel
theorem dX12_wordLetter_14 : decode cX12_wordLetter 14 = .ok (.aload_n 0, 1) := by decide +kernel
theorem dX12_wordLetter_15 : decode cX12_wordLetter 15 = .ok (.aload_n 0, 1) := by decide +kernel
theorem dX12_wordLetter_16 : decode cX12_wordLetter 16 = .ok (.getfield 20, 3) := by decide +kernel
theorem dX12_wordLetter_19 : decode cX12_wordLetter 19 = .ok (.iload_n 1, 1) := by decide +kernel
theorem dX12_wordLetter_20 : decode cX12_wordLetter 20 = .ok (.iaload, 1) := by decide +kernel
theorem dX12_wordLetter_21 : decode cX12_wordLetter 21 = .ok (.invokevirtual 132, 3) := by decide +kernel
theorem dX12_wordLetter_24 : decode cX12_wordLetter 24 = .ok (.goto 8, 3) := by decide +kernel
theorem dX12_wordLetter_27 : decode cX12_wordLetter 27 = .ok (.aload_n 0, 1) := by decide +kernel
theorem dX12_wordLetter_28 : decode cX12_wordLetter 28 = .ok (.iconst 1, 1) := by decide +kernel
theorem dX12_wordLetter_29 : decode cX12_wordLetter 29 = .ok (.invokevirtual 136, 3) := by decide +kernel
theorem dX12_wordLetter_32 : decode cX12_wordLetter 32 = .ok (.ireturn, 1) := by decide +kernel
theorem dX12_stateBy_0 : decode cX12_stateBy 0 = .ok (.iload_n 2, 1) := by decide +kernel
theorem dX12_stateBy_1 : decode cX12_stateBy 1 = .ok (.istore_n 3, 1) := by decide +kernel
theorem dX12_stateBy_2 : decode cX12_stateBy 2 = .ok (.iconst 0, 1) := by decide +kernel
theorem dX12_stateBy_3 : decode cX12_stateBy 3 = .ok (.istore 4, 2) := by decide +kernel
theorem dX12_stateBy_5 : decode cX12_stateBy 5 = .ok (.iload 4, 2) := by decide +kernel
theorem dX12_stateBy_7 : decode cX12_stateBy 7 = .ok (.aload_n 0, 1) := by decide +kernel
theorem dX12_stateBy_8 : decode cX12_stateBy 8 = .ok (.getfield 146, 3) := by decide +kernel
theorem dX12_stateBy_11 : decode cX12_stateBy 11 = .ok (.if_icmp .ge 27, 3) := by decide +kernel
theorem dX12_stateBy_14 : decode cX12_stateBy 14 = .ok (.aload_n 0, 1) := by decide +kernel
theorem dX12_stateBy_15 : decode cX12_stateBy 15 = .ok (.getfield 13, 3) := by decide +kernel
theorem dX12_stateBy_18 : decode cX12_stateBy 18 = .ok (.iload_n 1, 1) := by decide +kernel
theorem dX12_stateBy_19 : decode cX12_stateBy 19 = .ok (.iload_n 3, 1) := by decide +kernel
theorem dX12_stateBy_20 : decode cX12_stateBy 20 = .ok (.aload_n 0, 1) := by decide +kernel
theorem dX12_stateBy_21 : decode cX12_stateBy 21 = .ok (.getfield 20, 3) := by decide +kernel
theorem dX12_stateBy_24 : decode cX12_stateBy 24 = .ok (.iload 4, 2) := by decide +kernel
theorem dX12_stateBy_26 : decode cX12_stateBy 26 = .ok (.iaload, 1) := by decide +kernel
theorem dX12_stateBy_27 : decode cX12_stateBy 27 = .ok (.invokestatic 110, 3) := by decide +kernel
theorem dX12_stateBy_30 : decode cX12_stateBy 30 = .ok (.iaload, 1) := by decide +kernel
theorem dX12_stateBy_31 : decode cX12_stateBy 31 = .ok (.istore_n 3, 1) := by decide +kernel
theorem dX12_stateBy_32 : decode cX12_stateBy 32 = .ok (.iinc 4 1, 3) := by decide +kernel
theorem dX12_stateBy_35 : decode cX12_stateBy 35 = .ok (.goto (-30), 3) := by decide +kernel
theorem dX12_stateBy_38 : decode cX12_stateBy 38 = .ok (.iload_n 3, 1) := by decide +kernel
theorem dX12_stateBy_39 : decode cX12_stateBy 39 = .ok (.ireturn, 1) := by decide +kernel
theorem dX12_accepts_0 : decode cX12_accepts 0 = .ok (.iload_n 1, 1) := by decide +kernel
theorem dX12_accepts_1 : decode cX12_accepts 1 = .ok (.invokestatic 106, 3) := by decide +kernel
theorem dX12_accepts_4 : decode cX12_accepts 4 = .ok (.ifCond .eq 26, 3) := by decide +kernel
theorem dX12_accepts_7 : decode cX12_accepts 7 = .ok (.aload_n 0, 1) := by decide +kernel
theorem dX12_accepts_8 : decode cX12_accepts 8 = .ok (.aload_n 0, 1) := by decide +kernel
theorem dX12_accepts_9 : decode cX12_accepts 9 = .ok (.getfield 16, 3) := by decide +kernel
theorem dX12_accepts_12 : decode cX12_accepts 12 = .ok (.bipush 6, 2) := by decide +kernel
theorem dX12_accepts_14 : decode cX12_accepts 14 = .ok (.iload_n 1, 1) := by decide +kernel
theorem dX12_accepts_15 : decode cX12_accepts 15 = .ok (.imul, 1) := by decide +kernel
theorem dX12_accepts_16 : decode cX12_accepts 16 = .ok (.aload_n 0, 1) := by decide +kernel
theorem dX12_accepts_17 : decode cX12_accepts 17 = .ok (.iload_n 1, 1) := by decide +kernel
theorem dX12_accepts_18 : decode cX12_accepts 18 = .ok (.iconst 0, 1) := by decide +kernel
theorem dX12_accepts_19 : decode cX12_accepts 19 = .ok (.invokevirtual 149, 3) := by decide +kernel
theorem dX12_accepts_22 : decode cX12_accepts 22 = .ok (.iadd, 1) := by decide +kernel
theorem dX12_accepts_23 : decode cX12_accepts 23 = .ok (.baload, 1) := by decide +kernel
theorem dX12_accepts_24 : decode cX12_accepts 24 = .ok (.invokevirtual 128, 3) := by decide +kernel
theorem dX12_accepts_27 : decode cX12_accepts 27 = .ok (.goto 8, 3) := by decide +kernel
theorem dX12_accepts_30 : decode cX12_accepts 30 = .ok (.aload_n 0, 1) := by decide +kernel
theorem dX12_accepts_31 : decode cX12_accepts 31 = .ok (.iconst 1, 1) := by decide +kernel
theorem dX12_accepts_32 : decode cX12_accepts 32 = .ok (.invokevirtual 125, 3) := by decide +kernel
theorem dX12_accepts_35 : decode cX12_accepts 35 = .ok (.ireturn, 1) := by decide +kernel
theorem dX12_nodeOf_0 : decode cX12_nodeOf 0 = .ok (.iconst 0, 1) := by decide +kernel
theorem dX12_nodeOf_1 : decode cX12_nodeOf 1 = .ok (.istore_n 3, 1) := by decide +kernel
theorem dX12_nodeOf_2 : decode cX12_nodeOf 2 = .ok (.iload_n 3, 1) := by decide +kernel
theorem dX12_nodeOf_3 : decode cX12_nodeOf 3 = .ok (.aload_n 0, 1) := by decide +kernel
theorem dX12_nodeOf_4 : decode cX12_nodeOf 4 = .ok (.getfield 153, 3) := by decide +kernel
theorem dX12_nodeOf_7 : decode cX12_nodeOf 7 = .ok (.if_icmp .ge 20, 3) := by decide +kernel
theorem dX12_nodeOf_10 : decode cX12_nodeOf 10 = .ok (.aload_n 0, 1) := by decide +kernel
theorem dX12_nodeOf_11 : decode cX12_nodeOf 11 = .ok (.getfield 49, 3) := by decide +kernel
theorem dX12_nodeOf_14 : decode cX12_nodeOf 14 = .ok (.iload_n 3, 1) := by decide +kernel
theorem dX12_nodeOf_15 : decode cX12_nodeOf 15 = .ok (.laload, 1) := by decide +kernel
theorem dX12_nodeOf_16 : decode cX12_nodeOf 16 = .ok (.lload_n 1, 1) := by decide +kernel
theorem dX12_nodeOf_17 : decode cX12_nodeOf 17 = .ok (.lcmp, 1) := by decide +kernel
theorem dX12_nodeOf_18 : decode cX12_nodeOf 18 = .ok (.ifCond .eq 9, 3) := by decide +kernel
theorem dX12_nodeOf_21 : decode cX12_nodeOf 21 = .ok (.iinc 3 1, 3) := by decide +kernel
theorem dX12_nodeOf_24 : decode cX12_nodeOf 24 = .ok (.goto (-22), 3) := by decide +kernel
theorem dX12_nodeOf_27 : decode cX12_nodeOf 27 = .ok (.iload_n 3, 1) := by decide +kernel
theorem dX12_nodeOf_28 : decode cX12_nodeOf 28 = .ok (.aload_n 0, 1) := by decide +kernel
theorem dX12_nodeOf_29 : decode cX12_nodeOf 29 = .ok (.getfield 153, 3) := by decide +kernel
theorem dX12_nodeOf_32 : decode cX12_nodeOf 32 = .ok (.if_icmp .ne 20, 3) := by decide +kernel
theorem dX12_nodeOf_35 : decode cX12_nodeOf 35 = .ok (.aload_n 0, 1) := by decide +kernel
theorem dX12_nodeOf_36 : decode cX12_nodeOf 36 = .ok (.getfield 49, 3) := by decide +kernel
theorem dX12_nodeOf_39 : decode cX12_nodeOf 39 = .ok (.iload_n 3, 1) := by decide +kernel
theorem dX12_nodeOf_40 : decode cX12_nodeOf 40 = .ok (.lload_n 1, 1) := by decide +kernel
theorem dX12_nodeOf_41 : decode cX12_nodeOf 41 = .ok (.lastore, 1) := by decide +kernel
theorem dX12_nodeOf_42 : decode cX12_nodeOf 42 = .ok (.aload_n 0, 1) := by decide +kernel
theorem dX12_nodeOf_43 : decode cX12_nodeOf 43 = .ok (.dup, 1) := by decide +kernel
theorem dX12_nodeOf_44 : decode cX12_nodeOf 44 = .ok (.getfield 153, 3) := by decide +kernel
theorem dX12_nodeOf_47 : decode cX12_nodeOf 47 = .ok (.iconst 1, 1) := by decide +kernel
theorem dX12_nodeOf_48 : decode cX12_nodeOf 48 = .ok (.iadd, 1) := by decide +kernel
theorem dX12_nodeOf_49 : decode cX12_nodeOf 49 = .ok (.putfield 153, 3) := by decide +kernel
theorem dX12_nodeOf_52 : decode cX12_nodeOf 52 = .ok (.iload_n 3, 1) := by decide +kernel
theorem dX12_nodeOf_53 : decode cX12_nodeOf 53 = .ok (.ireturn, 1) := by decide +kernel
theorem dX12_firstKey_0 : decode cX12_firstKey 0 = .ok (.aload_n 0, 1) := by decide +kernel
theorem dX12_firstKey_1 : decode cX12_firstKey 1 = .ok (.getfield 156, 3) := by decide +kernel
theorem dX12_firstKey_4 : decode cX12_firstKey 4 = .ok (.tableswitch 53 4 7 #[32, 39, 43, 48], 32) := by decide +kernel
theorem dX12_firstKey_36 : decode cX12_firstKey 36 = .ok (.aload_n 0, 1) := by decide +kernel
theorem dX12_firstKey_37 : decode cX12_firstKey 37 = .ok (.iconst 0, 1) := by decide +kernel
theorem dX12_firstKey_38 : decode cX12_firstKey 38 = .ok (.lconst 0, 1) := by decide +kernel
theorem dX12_firstKey_39 : decode cX12_firstKey 39 = .ok (.invokevirtual 159, 3) := by decide +kernel
theorem dX12_firstKey_42 : decode cX12_firstKey 42 = .ok (.lreturn, 1) := by decide +kernel
theorem dX12_firstKey_43 : decode cX12_firstKey 43 = .ok (.ldc2_w 163, 3) := by decide +kernel
theorem dX12_firstKey_46 : decode cX12_firstKey 46 = .ok (.lreturn, 1) := by decide +kernel
theorem dX12_firstKey_47 : decode cX12_firstKey 47 = .ok (.aload_n 0, 1) := by decide +kernel
theorem dX12_firstKey_48 : decode cX12_firstKey 48 = .ok (.invokevirtual 165, 3) := by decide +kernel
theorem dX12_firstKey_51 : decode cX12_firstKey 51 = .ok (.lreturn, 1) := by decide +kernel
theorem dX12_firstKey_52 : decode cX12_firstKey 52 = .ok (.aload_n 0, 1) := by decide +kernel
theorem dX12_firstKey_53 : decode cX12_firstKey 53 = .ok (.getfield 169, 3) := by decide +kernel
theorem dX12_firstKey_56 : decode cX12_firstKey 56 = .ok (.lreturn, 1) := by decide +kernel
theorem dX12_firstKey_57 : decode cX12_firstKey 57 = .ok (.lconst 0, 1) := by decide +kernel
theorem dX12_firstKey_58 : decode cX12_firstKey 58 = .ok (.lreturn, 1) := by decide +kernel
theorem dX12_finalStates_0 : decode cX12_finalStates 0 = .ok (.lconst 0, 1) := by decide +kernel
theorem dX12_finalStates_1 : decode cX12_finalStates 1 = .ok (.lstore_n 1, 1) := by decide +kernel
theorem dX12_finalStates_2 : decode cX12_finalStates 2 = .ok (.iconst 0, 1) := by decide +kernel
theorem dX12_finalStates_3 : decode cX12_finalStates 3 = .ok (.istore_n 3, 1) := by decide +kernel
theorem dX12_finalStates_4 : decode cX12_finalStates 4 = .ok (.iload_n 3, 1) := by decide +kernel
theorem dX12_finalStates_5 : decode cX12_finalStates 5 = .ok (.aload_n 0, 1) := by decide +kernel
theorem dX12_finalStates_6 : decode cX12_finalStates 6 = .ok (.getfield 7, 3) := by decide +kernel
theorem dX12_finalStates_9 : decode cX12_finalStates 9 = .ok (.aload_n 0, 1) := by decide +kernel
theorem dX12_finalStates_10 : decode cX12_finalStates 10 = .ok (.getfield 173, 3) := by decide +kernel
theorem dX12_finalStates_13 : decode cX12_finalStates 13 = .ok (.iaload, 1) := by decide +kernel
theorem dX12_finalStates_14 : decode cX12_finalStates 14 = .ok (.if_icmp .ge 36, 3) := by decide +kernel
theorem dX12_finalStates_17 : decode cX12_finalStates 17 = .ok (.lload_n 1, 1) := by decide +kernel
theorem dX12_finalStates_18 : decode cX12_finalStates 18 = .ok (.aload_n 0, 1) := by decide +kernel
theorem dX12_finalStates_19 : decode cX12_finalStates 19 = .ok (.getfield 16, 3) := by decide +kernel
theorem dX12_finalStates_22 : decode cX12_finalStates 22 = .ok (.bipush 6, 2) := by decide +kernel
theorem dX12_finalStates_24 : decode cX12_finalStates 24 = .ok (.aload_n 0, 1) := by decide +kernel
theorem dX12_finalStates_25 : decode cX12_finalStates 25 = .ok (.getfield 173, 3) := by decide +kernel
theorem dX12_finalStates_28 : decode cX12_finalStates 28 = .ok (.imul, 1) := by decide +kernel
theorem dX12_finalStates_29 : decode cX12_finalStates 29 = .ok (.iload_n 3, 1) := by decide +kernel
theorem dX12_finalStates_30 : decode cX12_finalStates 30 = .ok (.iadd, 1) := by decide +kernel
theorem dX12_finalStates_31 : decode cX12_finalStates 31 = .ok (.baload, 1) := by decide +kernel
theorem dX12_finalStates_32 : decode cX12_finalStates 32 = .ok (.ifCond .eq 9, 3) := by decide +kernel
theorem dX12_finalStates_35 : decode cX12_finalStates 35 = .ok (.lconst 1, 1) := by decide +kernel
theorem dX12_finalStates_36 : decode cX12_finalStates 36 = .ok (.iload_n 3, 1) := by decide +kernel
theorem dX12_finalStates_37 : decode cX12_finalStates 37 = .ok (.lshl, 1) := by decide +kernel
theorem dX12_finalStates_38 : decode cX12_finalStates 38 = .ok (.goto 4, 3) := by decide +kernel
theorem dX12_finalStates_41 : decode cX12_finalStates 41 = .ok (.lconst 0, 1) := by decide +kernel
theorem dX12_finalStates_42 : decode cX12_finalStates 42 = .ok (.lor, 1) := by decide +kernel
theorem dX12_finalStates_43 : decode cX12_finalStates 43 = .ok (.lstore_n 1, 1) := by decide +kernel
theorem dX12_finalStates_44 : decode cX12_finalStates 44 = .ok (.iinc 3 1, 3) := by decide +kernel
theorem dX12_finalStates_47 : decode cX12_finalStates 47 = .ok (.goto (-43), 3) := by decide +kernel
theorem dX12_finalStates_50 : decode cX12_finalStates 50 = .ok (.lload_n 1, 1) := by decide +kernel
theorem dX12_finalStates_51 : decode cX12_finalStates 51 = .ok (.lreturn, 1) := by decide +kernel
theorem dX12_concatenated_0 : decode cX12_concatenated 0 = .ok (.aload_n 0, 1) := by decide +kernel
theorem dX12_concatenated_1 : decode cX12_concatenated 1 = .ok (.getfield 16, 3) := by decide +kernel
theorem dX12_concatenated_4 : decode cX12_concatenated 4 = .ok (.bipush 6, 2) := by decide +kernel
theorem dX12_concatenated_6 : decode cX12_concatenated 6 = .ok (.aload_n 0, 1) := by decide +kernel
theorem dX12_concatenated_7 : decode cX12_concatenated 7 = .ok (.getfield 173, 3) := by decide +kernel
theorem dX12_concatenated_10 : decode cX12_concatenated 10 = .ok (.imul, 1) := by decide +kernel
theorem dX12_concatenated_11 : decode cX12_concatenated 11 = .ok (.iload_n 1, 1) := by decide +kernel
theorem dX12_concatenated_12 : decode cX12_concatenated 12 = .ok (.iadd, 1) := by decide +kernel
theorem dX12_concatenated_13 : decode cX12_concatenated 13 = .ok (.baload, 1) := by decide +kernel
theorem dX12_concatenated_14 : decode cX12_concatenated 14 = .ok (.ifCond .eq 9, 3) := by decide +kernel
theorem dX12_concatenated_17 : decode cX12_concatenated 17 = .ok (.lload_n 2, 1) := by decide +kernel
theorem dX12_concatenated_18 : decode cX12_concatenated 18 = .ok (.lconst 1, 1) := by decide +kernel
theorem dX12_concatenated_19 : decode cX12_concatenated 19 = .ok (.lor, 1) := by decide +kernel
theorem dX12_concatenated_20 : decode cX12_concatenated 20 = .ok (.goto 4, 3) := by decide +kernel
theorem dX12_concatenated_23 : decode cX12_concatenated 23 = .ok (.lload_n 2, 1) := by decide +kernel
theorem dX12_concatenated_24 : decode cX12_concatenated 24 = .ok (.iconst 3, 1) := by decide +kernel
theorem dX12_concatenated_25 : decode cX12_concatenated 25 = .ok (.lshl, 1) := by decide +kernel
theorem dX12_concatenated_26 : decode cX12_concatenated 26 = .ok (.iload_n 1, 1) := by decide +kernel
theorem dX12_concatenated_27 : decode cX12_concatenated 27 = .ok (.i2l, 1) := by decide +kernel
theorem dX12_concatenated_28 : decode cX12_concatenated 28 = .ok (.lor, 1) := by decide +kernel
theorem dX12_concatenated_29 : decode cX12_concatenated 29 = .ok (.lreturn, 1) := by decide +kernel
theorem dX12_led_0 : decode cX12_led 0 = .ok (.lconst 0, 1) := by decide +kernel
theorem dX12_led_1 : decode cX12_led 1 = .ok (.lstore 5, 2) := by decide +kernel
theorem dX12_led_3 : decode cX12_led 3 = .ok (.iconst 0, 1) := by decide +kernel
theorem dX12_led_4 : decode cX12_led 4 = .ok (.istore 7, 2) := by decide +kernel
theorem dX12_led_6 : decode cX12_led 6 = .ok (.iload 7, 2) := by decide +kernel
theorem dX12_led_8 : decode cX12_led 8 = .ok (.aload_n 0, 1) := by decide +kernel
theorem dX12_led_9 : decode cX12_led 9 = .ok (.getfield 7, 3) := by decide +kernel
theorem dX12_led_12 : decode cX12_led 12 = .ok (.iload_n 1, 1) := by decide +kernel
theorem dX12_led_13 : decode cX12_led 13 = .ok (.iaload, 1) := by decide +kernel
theorem dX12_led_14 : decode cX12_led 14 = .ok (.if_icmp .ge 44, 3) := by decide +kernel
theorem dX12_led_17 : decode cX12_led 17 = .ok (.lload 5, 2) := by decide +kernel
theorem dX12_led_19 : decode cX12_led 19 = .ok (.lload_n 2, 1) := by decide +kernel
theorem dX12_led_20 : decode cX12_led 20 = .ok (.iload 7, 2) := by decide +kernel
theorem dX12_led_22 : decode cX12_led 22 = .ok (.lshr, 1) := by decide +kernel
theorem dX12_led_23 : decode cX12_led 23 = .ok (.lconst 1, 1) := by decide +kernel
theorem dX12_led_24 : decode cX12_led 24 = .ok (.land, 1) := by decide +kernel
theorem dX12_led_25 : decode cX12_led 25 = .ok (.lconst 1, 1) := by decide +kernel
theorem dX12_led_26 : decode cX12_led 26 = .ok (.lcmp, 1) := by decide +kernel
theorem dX12_led_27 : decode cX12_led 27 = .ok (.ifCond .ne 21, 3) := by decide +kernel
theorem dX12_led_30 : decode cX12_led 30 = .ok (.lconst 1, 1) := by decide +kernel
theorem dX12_led_31 : decode cX12_led 31 = .ok (.aload_n 0, 1) := by decide +kernel
theorem dX12_led_32 : decode cX12_led 32 = .ok (.getfield 13, 3) := by decide +kernel
theorem dX12_led_35 : decode cX12_led 35 = .ok (.iload_n 1, 1) := by decide +kernel
theorem dX12_led_36 : decode cX12_led 36 = .ok (.iload 7, 2) := by decide +kernel
theorem dX12_led_38 : decode cX12_led 38 = .ok (.iload 4, 2) := by decide +kernel
theorem dX12_led_40 : decode cX12_led 40 = .ok (.invokestatic 110, 3) := by decide +kernel
theorem dX12_led_43 : decode cX12_led 43 = .ok (.iaload, 1) := by decide +kernel
theorem dX12_led_44 : decode cX12_led 44 = .ok (.lshl, 1) := by decide +kernel
theorem dX12_led_45 : decode cX12_led 45 = .ok (.goto 4, 3) := by decide +kernel
theorem dX12_led_48 : decode cX12_led 48 = .ok (.lconst 0, 1) := by decide +kernel
theorem dX12_led_49 : decode cX12_led 49 = .ok (.lor, 1) := by decide +kernel
theorem dX12_led_50 : decode cX12_led 50 = .ok (.lstore 5, 2) := by decide +kernel
theorem dX12_led_52 : decode cX12_led 52 = .ok (.iinc 7 1, 3) := by decide +kernel
theorem dX12_led_55 : decode cX12_led 55 = .ok (.goto (-49), 3) := by decide +kernel
theorem dX12_led_58 : decode cX12_led 58 = .ok (.lload 5, 2) := by decide +kernel
theorem dX12_led_60 : decode cX12_led 60 = .ok (.lreturn, 1) := by decide +kernel
theorem dX12_keyAfter_0 : decode cX12_keyAfter 0 = .ok (.aload_n 0, 1) := by decide +kernel
theorem dX12_keyAfter_1 : decode cX12_keyAfter 1 = .ok (.getfield 156, 3) := by decide +kernel
theorem dX12_keyAfter_4 : decode cX12_keyAfter 4 = .ok (.tableswitch 110 4 8 #[36, 72, 79, 86, 93], 36) := by decide +kernel
theorem dX12_keyAfter_40 : decode cX12_keyAfter 40 = .ok (.aload_n 0, 1) := by decide +kernel
theorem dX12_keyAfter_41 : decode cX12_keyAfter 41 = .ok (.aload_n 0, 1) := by decide +kernel
theorem dX12_keyAfter_42 : decode cX12_keyAfter 42 = .ok (.getfield 13, 3) := by decide +kernel
theorem dX12_keyAfter_45 : decode cX12_keyAfter 45 = .ok (.aload_n 0, 1) := by decide +kernel
theorem dX12_keyAfter_46 : decode cX12_keyAfter 46 = .ok (.getfield 173, 3) := by decide +kernel
theorem dX12_keyAfter_49 : decode cX12_keyAfter 49 = .ok (.lload_n 1, 1) := by decide +kernel
theorem dX12_keyAfter_50 : decode cX12_keyAfter 50 = .ok (.ldc2_w 176, 3) := by decide +kernel
theorem dX12_keyAfter_53 : decode cX12_keyAfter 53 = .ok (.land, 1) := by decide +kernel
theorem dX12_keyAfter_54 : decode cX12_keyAfter 54 = .ok (.l2i, 1) := by decide +kernel
theorem dX12_keyAfter_55 : decode cX12_keyAfter 55 = .ok (.iload_n 3, 1) := by decide +kernel
theorem dX12_keyAfter_56 : decode cX12_keyAfter 56 = .ok (.invokestatic 110, 3) := by decide +kernel
theorem dX12_keyAfter_59 : decode cX12_keyAfter 59 = .ok (.iaload, 1) := by decide +kernel
theorem dX12_keyAfter_60 : decode cX12_keyAfter 60 = .ok (.aload_n 0, 1) := by decide +kernel
theorem dX12_keyAfter_61 : decode cX12_keyAfter 61 = .ok (.aload_n 0, 1) := by decide +kernel
theorem dX12_keyAfter_62 : decode cX12_keyAfter 62 = .ok (.getfield 178, 3) := by decide +kernel
theorem dX12_keyAfter_65 : decode cX12_keyAfter 65 = .ok (.lload_n 1, 1) := by decide +kernel
theorem dX12_keyAfter_66 : decode cX12_keyAfter 66 = .ok (.iconst 3, 1) := by decide +kernel
theorem dX12_keyAfter_67 : decode cX12_keyAfter 67 = .ok (.lshr, 1) := by decide +kernel
theorem dX12_keyAfter_68 : decode cX12_keyAfter 68 = .ok (.iload_n 3, 1) := by decide +kernel
theorem dX12_keyAfter_69 : decode cX12_keyAfter 69 = .ok (.invokestatic 181, 3) := by decide +kernel
theorem dX12_keyAfter_72 : decode cX12_keyAfter 72 = .ok (.invokevirtual 159, 3) := by decide +kernel
theorem dX12_keyAfter_75 : decode cX12_keyAfter 75 = .ok (.lreturn, 1) := by decide +kernel
theorem dX12_keyAfter_76 : decode cX12_keyAfter 76 = .ok (.aload_n 0, 1) := by decide +kernel
theorem dX12_keyAfter_77 : decode cX12_keyAfter 77 = .ok (.lload_n 1, 1) := by decide +kernel
theorem dX12_keyAfter_78 : decode cX12_keyAfter 78 = .ok (.iload_n 3, 1) := by decide +kernel
theorem dX12_keyAfter_79 : decode cX12_keyAfter 79 = .ok (.invokevirtual 185, 3) := by decide +kernel
theorem dX12_keyAfter_82 : decode cX12_keyAfter 82 = .ok (.lreturn, 1) := by decide +kernel
theorem dX12_keyAfter_83 : decode cX12_keyAfter 83 = .ok (.aload_n 0, 1) := by decide +kernel
theorem dX12_keyAfter_84 : decode cX12_keyAfter 84 = .ok (.lload_n 1, 1) := by decide +kernel
theorem dX12_keyAfter_85 : decode cX12_keyAfter 85 = .ok (.iload_n 3, 1) := by decide +kernel
theorem dX12_keyAfter_86 : decode cX12_keyAfter 86 = .ok (.invokevirtual 189, 3) := by decide +kernel
theorem dX12_keyAfter_89 : decode cX12_keyAfter 89 = .ok (.lreturn, 1) := by decide +kernel
theorem dX12_keyAfter_90 : decode cX12_keyAfter 90 = .ok (.aload_n 0, 1) := by decide +kernel
theorem dX12_keyAfter_91 : decode cX12_keyAfter 91 = .ok (.lload_n 1, 1) := by decide +kernel
theorem dX12_keyAfter_92 : decode cX12_keyAfter 92 = .ok (.iload_n 3, 1) := by decide +kernel
theorem dX12_keyAfter_93 : decode cX12_keyAfter 93 = .ok (.invokevirtual 192, 3) := by decide +kernel
theorem dX12_keyAfter_96 : decode cX12_keyAfter 96 = .ok (.lreturn, 1) := by decide +kernel
theorem dX12_keyAfter_97 : decode cX12_keyAfter 97 = .ok (.aload_n 0, 1) := by decide +kernel
theorem dX12_keyAfter_98 : decode cX12_keyAfter 98 = .ok (.getfield 13, 3) := by decide +kernel
theorem dX12_keyAfter_101 : decode cX12_keyAfter 101 = .ok (.aload_n 0, 1) := by decide +kernel
theorem dX12_keyAfter_102 : decode cX12_keyAfter 102 = .ok (.getfield 173, 3) := by decide +kernel
theorem dX12_keyAfter_105 : decode cX12_keyAfter 105 = .ok (.lload_n 1, 1) := by decide +kernel
theorem dX12_keyAfter_106 : decode cX12_keyAfter 106 = .ok (.l2i, 1) := by decide +kernel
theorem dX12_keyAfter_107 : decode cX12_keyAfter 107 = .ok (.iload_n 3, 1) := by decide +kernel
theorem dX12_keyAfter_108 : decode cX12_keyAfter 108 = .ok (.invokestatic 110, 3) := by decide +kernel
theorem dX12_keyAfter_111 : decode cX12_keyAfter 111 = .ok (.iaload, 1) := by decide +kernel
theorem dX12_keyAfter_112 : decode cX12_keyAfter 112 = .ok (.i2l, 1) := by decide +kernel
theorem dX12_keyAfter_113 : decode cX12_keyAfter 113 = .ok (.lreturn, 1) := by decide +kernel
theorem dX12_keyAfter_114 : decode cX12_keyAfter 114 = .ok (.aload_n 0, 1) := by decide +kernel
theorem dX12_keyAfter_115 : decode cX12_keyAfter 115 = .ok (.getfield 13, 3) := by decide +kernel
theorem dX12_keyAfter_118 : decode cX12_keyAfter 118 = .ok (.aload_n 0, 1) := by decide +kernel
theorem dX12_keyAfter_119 : decode cX12_keyAfter 119 = .ok (.getfield 173, 3) := by decide +kernel
theorem dX12_keyAfter_122 : decode cX12_keyAfter 122 = .ok (.lload_n 1, 1) := by decide +kernel
theorem dX12_keyAfter_123 : decode cX12_keyAfter 123 = .ok (.ldc2_w 176, 3) := by decide +kernel
theorem dX12_keyAfter_126 : decode cX12_keyAfter 126 = .ok (.land, 1) := by decide +kernel
theorem dX12_keyAfter_127 : decode cX12_keyAfter 127 = .ok (.l2i, 1) := by decide +kernel
theorem dX12_keyAfter_128 : decode cX12_keyAfter 128 = .ok (.iload_n 3, 1) := by decide +kernel
theorem dX12_keyAfter_129 : decode cX12_keyAfter 129 = .ok (.invokestatic 110, 3) := by decide +kernel
theorem dX12_keyAfter_132 : decode cX12_keyAfter 132 = .ok (.iaload, 1) := by decide +kernel
theorem dX12_keyAfter_133 : decode cX12_keyAfter 133 = .ok (.i2l, 1) := by decide +kernel
theorem dX12_keyAfter_134 : decode cX12_keyAfter 134 = .ok (.aload_n 0, 1) := by decide +kernel
theorem dX12_keyAfter_135 : decode cX12_keyAfter 135 = .ok (.getfield 13, 3) := by decide +kernel
theorem dX12_keyAfter_138 : decode cX12_keyAfter 138 = .ok (.aload_n 0, 1) := by decide +kernel
theorem dX12_keyAfter_139 : decode cX12_keyAfter 139 = .ok (.getfield 178, 3) := by decide +kernel
theorem dX12_keyAfter_142 : decode cX12_keyAfter 142 = .ok (.lload_n 1, 1) := by decide +kernel
theorem dX12_keyAfter_143 : decode cX12_keyAfter 143 = .ok (.iconst 3, 1) := by decide +kernel
theorem dX12_keyAfter_144 : decode cX12_keyAfter 144 = .ok (.lshr, 1) := by decide +kernel
theorem dX12_keyAfter_145 : decode cX12_keyAfter 145 = .ok (.l2i, 1) := by decide +kernel
theorem dX12_keyAfter_146 : decode cX12_keyAfter 146 = .ok (.iload_n 3, 1) := by decide +kernel
theorem dX12_keyAfter_147 : decode cX12_keyAfter 147 = .ok (.invokestatic 110, 3) := by decide +kernel
theorem dX12_keyAfter_150 : decode cX12_keyAfter 150 = .ok (.iaload, 1) := by decide +kernel
theorem dX12_keyAfter_151 : decode cX12_keyAfter 151 = .ok (.i2l, 1) := by decide +kernel
theorem dX12_keyAfter_152 : decode cX12_keyAfter 152 = .ok (.iconst 3, 1) := by decide +kernel
theorem dX12_keyAfter_153 : decode cX12_keyAfter 153 = .ok (.lshl, 1) := by decide +kernel
theorem dX12_keyAfter_154 : decode cX12_keyAfter 154 = .ok (.lor, 1) := by decide +kernel
theorem dX12_keyAfter_155 : decode cX12_keyAfter 155 = .ok (.lreturn, 1) := by decide +kernel
theorem dX12_starAfter_0 : decode cX12_starAfter 0 = .ok (.aload_n 0, 1) := by decide +kernel
theorem dX12_starAfter_1 : decode cX12_starAfter 1 = .ok (.aload_n 0, 1) := by decide +kernel
theorem dX12_starAfter_2 : decode cX12_starAfter 2 = .ok (.getfield 173, 3) := by decide +kernel
theorem dX12_starAfter_5 : decode cX12_starAfter 5 = .ok (.lload_n 1, 1) := by decide +kernel
theorem dX12_starAfter_6 : decode cX12_starAfter 6 = .ok (.ldc2_w 163, 3) := by decide +kernel
theorem dX12_starAfter_9 : decode cX12_starAfter 9 = .ok (.lcmp, 1) := by decide +kernel
theorem dX12_starAfter_10 : decode cX12_starAfter 10 = .ok (.ifCond .ne 7, 3) := by decide +kernel
theorem dX12_starAfter_13 : decode cX12_starAfter 13 = .ok (.lconst 1, 1) := by decide +kernel
theorem dX12_starAfter_14 : decode cX12_starAfter 14 = .ok (.goto 4, 3) := by decide +kernel
theorem dX12_starAfter_17 : decode cX12_starAfter 17 = .ok (.lload_n 1, 1) := by decide +kernel
theorem dX12_starAfter_18 : decode cX12_starAfter 18 = .ok (.iload_n 3, 1) := by decide +kernel
theorem dX12_starAfter_19 : decode cX12_starAfter 19 = .ok (.invokestatic 181, 3) := by decide +kernel
theorem dX12_starAfter_22 : decode cX12_starAfter 22 = .ok (.lstore 4, 2) := by decide +kernel
theorem dX12_starAfter_24 : decode cX12_starAfter 24 = .ok (.lload 4, 2) := by decide +kernel
theorem dX12_starAfter_26 : decode cX12_starAfter 26 = .ok (.aload_n 0, 1) := by decide +kernel
theorem dX12_starAfter_27 : decode cX12_starAfter 27 = .ok (.invokevirtual 165, 3) := by decide +kernel
theorem dX12_starAfter_30 : decode cX12_starAfter 30 = .ok (.land, 1) := by decide +kernel
theorem dX12_starAfter_31 : decode cX12_starAfter 31 = .ok (.lconst 0, 1) := by decide +kernel
theorem dX12_starAfter_32 : decode cX12_starAfter 32 = .ok (.lcmp, 1) := by decide +kernel
theorem dX12_starAfter_33 : decode cX12_starAfter 33 = .ok (.ifCond .eq 10, 3) := by decide +kernel
theorem dX12_starAfter_36 : decode cX12_starAfter 36 = .ok (.lload 4, 2) := by decide +kernel
theorem dX12_starAfter_38 : decode cX12_starAfter 38 = .ok (.lconst 1, 1) := by decide +kernel
theorem dX12_starAfter_39 : decode cX12_starAfter 39 = .ok (.lor, 1) := by decide +kernel
theorem dX12_starAfter_40 : decode cX12_starAfter 40 = .ok (.goto 5, 3) := by decide +kernel
theorem dX12_starAfter_43 : decode cX12_starAfter 43 = .ok (.lload 4, 2) := by decide +kernel
theorem dX12_starAfter_45 : decode cX12_starAfter 45 = .ok (.lreturn, 1) := by decide +kernel
theorem dX12_ledBack_0 : decode cX12_ledBack 0 = .ok (.lconst 0, 1) := by decide +kernel
theorem dX12_ledBack_1 : decode cX12_ledBack 1 = .ok (.lstore 4, 2) := by decide +kernel
theorem dX12_ledBack_3 : decode cX12_ledBack 3 = .ok (.iconst 0, 1) := by decide +kernel
theorem dX12_ledBack_4 : decode cX12_ledBack 4 = .ok (.istore 6, 2) := by decide +kernel
theorem dX12_ledBack_6 : decode cX12_ledBack 6 = .ok (.iload 6, 2) := by decide +kernel
theorem dX12_ledBack_8 : decode cX12_ledBack 8 = .ok (.aload_n 0, 1) := by decide +kernel
theorem dX12_ledBack_9 : decode cX12_ledBack 9 = .ok (.getfield 7, 3) := by decide +kernel
theorem dX12_ledBack_12 : decode cX12_ledBack 12 = .ok (.aload_n 0, 1) := by decide +kernel
theorem dX12_ledBack_13 : decode cX12_ledBack 13 = .ok (.getfield 173, 3) := by decide +kernel
theorem dX12_ledBack_16 : decode cX12_ledBack 16 = .ok (.iaload, 1) := by decide +kernel
theorem dX12_ledBack_17 : decode cX12_ledBack 17 = .ok (.if_icmp .ge 46, 3) := by decide +kernel
theorem dX12_ledBack_20 : decode cX12_ledBack 20 = .ok (.lload 4, 2) := by decide +kernel
theorem dX12_ledBack_22 : decode cX12_ledBack 22 = .ok (.lload_n 1, 1) := by decide +kernel
theorem dX12_ledBack_23 : decode cX12_ledBack 23 = .ok (.aload_n 0, 1) := by decide +kernel
theorem dX12_ledBack_24 : decode cX12_ledBack 24 = .ok (.getfield 13, 3) := by decide +kernel
theorem dX12_ledBack_27 : decode cX12_ledBack 27 = .ok (.aload_n 0, 1) := by decide +kernel
theorem dX12_ledBack_28 : decode cX12_ledBack 28 = .ok (.getfield 173, 3) := by decide +kernel
theorem dX12_ledBack_31 : decode cX12_ledBack 31 = .ok (.iload 6, 2) := by decide +kernel
theorem dX12_ledBack_33 : decode cX12_ledBack 33 = .ok (.iload_n 3, 1) := by decide +kernel
theorem dX12_ledBack_34 : decode cX12_ledBack 34 = .ok (.invokestatic 110, 3) := by decide +kernel
theorem dX12_ledBack_37 : decode cX12_ledBack 37 = .ok (.iaload, 1) := by decide +kernel
theorem dX12_ledBack_38 : decode cX12_ledBack 38 = .ok (.lshr, 1) := by decide +kernel
theorem dX12_ledBack_39 : decode cX12_ledBack 39 = .ok (.lconst 1, 1) := by decide +kernel
theorem dX12_ledBack_40 : decode cX12_ledBack 40 = .ok (.land, 1) := by decide +kernel
theorem dX12_ledBack_41 : decode cX12_ledBack 41 = .ok (.lconst 1, 1) := by decide +kernel
theorem dX12_ledBack_42 : decode cX12_ledBack 42 = .ok (.lcmp, 1) := by decide +kernel
theorem dX12_ledBack_43 : decode cX12_ledBack 43 = .ok (.ifCond .ne 10, 3) := by decide +kernel
theorem dX12_ledBack_46 : decode cX12_ledBack 46 = .ok (.lconst 1, 1) := by decide +kernel
theorem dX12_ledBack_47 : decode cX12_ledBack 47 = .ok (.iload 6, 2) := by decide +kernel
theorem dX12_ledBack_49 : decode cX12_ledBack 49 = .ok (.lshl, 1) := by decide +kernel
theorem dX12_ledBack_50 : decode cX12_ledBack 50 = .ok (.goto 4, 3) := by decide +kernel
theorem dX12_ledBack_53 : decode cX12_ledBack 53 = .ok (.lconst 0, 1) := by decide +kernel
theorem dX12_ledBack_54 : decode cX12_ledBack 54 = .ok (.lor, 1) := by decide +kernel
theorem dX12_ledBack_55 : decode cX12_ledBack 55 = .ok (.lstore 4, 2) := by decide +kernel
theorem dX12_ledBack_57 : decode cX12_ledBack 57 = .ok (.iinc 6 1, 3) := by decide +kernel
theorem dX12_ledBack_60 : decode cX12_ledBack 60 = .ok (.goto (-54), 3) := by decide +kernel
theorem dX12_ledBack_63 : decode cX12_ledBack 63 = .ok (.lload 4, 2) := by decide +kernel
theorem dX12_ledBack_65 : decode cX12_ledBack 65 = .ok (.lreturn, 1) := by decide +kernel
theorem dX12_atomsAfter_0 : decode cX12_atomsAfter 0 = .ok (.lconst 0, 1) := by decide +kernel
theorem dX12_atomsAfter_1 : decode cX12_atomsAfter 1 = .ok (.lstore 4, 2) := by decide +kernel
theorem dX12_atomsAfter_3 : decode cX12_atomsAfter 3 = .ok (.iconst 0, 1) := by decide +kernel
theorem dX12_atomsAfter_4 : decode cX12_atomsAfter 4 = .ok (.istore 6, 2) := by decide +kernel
theorem dX12_atomsAfter_6 : decode cX12_atomsAfter 6 = .ok (.iload 6, 2) := by decide +kernel
theorem dX12_atomsAfter_8 : decode cX12_atomsAfter 8 = .ok (.aload_n 0, 1) := by decide +kernel
theorem dX12_atomsAfter_9 : decode cX12_atomsAfter 9 = .ok (.getfield 195, 3) := by decide +kernel
theorem dX12_atomsAfter_12 : decode cX12_atomsAfter 12 = .ok (.if_icmp .ge 40, 3) := by decide +kernel
theorem dX12_atomsAfter_15 : decode cX12_atomsAfter 15 = .ok (.lload 4, 2) := by decide +kernel
theorem dX12_atomsAfter_17 : decode cX12_atomsAfter 17 = .ok (.lload_n 1, 1) := by decide +kernel
theorem dX12_atomsAfter_18 : decode cX12_atomsAfter 18 = .ok (.iload 6, 2) := by decide +kernel
theorem dX12_atomsAfter_20 : decode cX12_atomsAfter 20 = .ok (.lushr, 1) := by decide +kernel
theorem dX12_atomsAfter_21 : decode cX12_atomsAfter 21 = .ok (.lconst 1, 1) := by decide +kernel
theorem dX12_atomsAfter_22 : decode cX12_atomsAfter 22 = .ok (.land, 1) := by decide +kernel
theorem dX12_atomsAfter_23 : decode cX12_atomsAfter 23 = .ok (.lconst 1, 1) := by decide +kernel
theorem dX12_atomsAfter_24 : decode cX12_atomsAfter 24 = .ok (.lcmp, 1) := by decide +kernel
theorem dX12_atomsAfter_25 : decode cX12_atomsAfter 25 = .ok (.ifCond .ne 17, 3) := by decide +kernel
theorem dX12_atomsAfter_28 : decode cX12_atomsAfter 28 = .ok (.aload_n 0, 1) := by decide +kernel
theorem dX12_atomsAfter_29 : decode cX12_atomsAfter 29 = .ok (.getfield 80, 3) := by decide +kernel
theorem dX12_atomsAfter_32 : decode cX12_atomsAfter 32 = .ok (.iconst 3, 1) := by decide +kernel
theorem dX12_atomsAfter_33 : decode cX12_atomsAfter 33 = .ok (.iload 6, 2) := by decide +kernel
theorem dX12_atomsAfter_35 : decode cX12_atomsAfter 35 = .ok (.imul, 1) := by decide +kernel
theorem dX12_atomsAfter_36 : decode cX12_atomsAfter 36 = .ok (.iload_n 3, 1) := by decide +kernel
theorem dX12_atomsAfter_37 : decode cX12_atomsAfter 37 = .ok (.iadd, 1) := by decide +kernel
theorem dX12_atomsAfter_38 : decode cX12_atomsAfter 38 = .ok (.laload, 1) := by decide +kernel
theorem dX12_atomsAfter_39 : decode cX12_atomsAfter 39 = .ok (.goto 4, 3) := by decide +kernel
theorem dX12_atomsAfter_42 : decode cX12_atomsAfter 42 = .ok (.lconst 0, 1) := by decide +kernel
theorem dX12_atomsAfter_43 : decode cX12_atomsAfter 43 = .ok (.lor, 1) := by decide +kernel
theorem dX12_atomsAfter_44 : decode cX12_atomsAfter 44 = .ok (.lstore 4, 2) := by decide +kernel
theorem dX12_atomsAfter_46 : decode cX12_atomsAfter 46 = .ok (.iinc 6 1, 3) := by decide +kernel
theorem dX12_atomsAfter_49 : decode cX12_atomsAfter 49 = .ok (.goto (-43), 3) := by decide +kernel
theorem dX12_atomsAfter_52 : decode cX12_atomsAfter 52 = .ok (.lload 4, 2) := by decide +kernel
theorem dX12_atomsAfter_54 : decode cX12_atomsAfter 54 = .ok (.lreturn, 1) := by decide +kernel
theorem dX12_isEnd_0 : decode cX12_isEnd 0 = .ok (.aload_n 0, 1) := by decide +kernel
theorem dX12_isEnd_1 : decode cX12_isEnd 1 = .ok (.getfield 156, 3) := by decide +kernel
theorem dX12_isEnd_4 : decode cX12_isEnd 4 = .ok (.iconst 4, 1) := by decide +kernel
theorem dX12_isEnd_5 : decode cX12_isEnd 5 = .ok (.if_icmp .ge 29, 3) := by decide +kernel
theorem dX12_isEnd_8 : decode cX12_isEnd 8 = .ok (.aload_n 0, 1) := by decide +kernel
theorem dX12_isEnd_9 : decode cX12_isEnd 9 = .ok (.getfield 16, 3) := by decide +kernel
theorem dX12_isEnd_12 : decode cX12_isEnd 12 = .ok (.bipush 6, 2) := by decide +kernel
theorem dX12_isEnd_14 : decode cX12_isEnd 14 = .ok (.aload_n 0, 1) := by decide +kernel
theorem dX12_isEnd_15 : decode cX12_isEnd 15 = .ok (.getfield 173, 3) := by decide +kernel
theorem dX12_isEnd_18 : decode cX12_isEnd 18 = .ok (.imul, 1) := by decide +kernel
theorem dX12_isEnd_19 : decode cX12_isEnd 19 = .ok (.lload_n 1, 1) := by decide +kernel
theorem dX12_isEnd_20 : decode cX12_isEnd 20 = .ok (.ldc2_w 176, 3) := by decide +kernel
theorem dX12_isEnd_23 : decode cX12_isEnd 23 = .ok (.land, 1) := by decide +kernel
theorem dX12_isEnd_24 : decode cX12_isEnd 24 = .ok (.l2i, 1) := by decide +kernel
theorem dX12_isEnd_25 : decode cX12_isEnd 25 = .ok (.iadd, 1) := by decide +kernel
theorem dX12_isEnd_26 : decode cX12_isEnd 26 = .ok (.baload, 1) := by decide +kernel
theorem dX12_isEnd_27 : decode cX12_isEnd 27 = .ok (.ifCond .eq 7, 3) := by decide +kernel
theorem dX12_isEnd_30 : decode cX12_isEnd 30 = .ok (.iconst 1, 1) := by decide +kernel
theorem dX12_isEnd_31 : decode cX12_isEnd 31 = .ok (.goto 4, 3) := by decide +kernel
theorem dX12_isEnd_34 : decode cX12_isEnd 34 = .ok (.iconst 0, 1) := by decide +kernel
theorem dX12_isEnd_35 : decode cX12_isEnd 35 = .ok (.istore_n 3, 1) := by decide +kernel
theorem dX12_isEnd_36 : decode cX12_isEnd 36 = .ok (.aload_n 0, 1) := by decide +kernel
theorem dX12_isEnd_37 : decode cX12_isEnd 37 = .ok (.getfield 156, 3) := by decide +kernel
theorem dX12_isEnd_40 : decode cX12_isEnd 40 = .ok (.iconst 4, 1) := by decide +kernel
theorem dX12_isEnd_41 : decode cX12_isEnd 41 = .ok (.if_icmp .ge 27, 3) := by decide +kernel
theorem dX12_isEnd_44 : decode cX12_isEnd 44 = .ok (.aload_n 0, 1) := by decide +kernel
theorem dX12_isEnd_45 : decode cX12_isEnd 45 = .ok (.getfield 16, 3) := by decide +kernel
theorem dX12_isEnd_48 : decode cX12_isEnd 48 = .ok (.bipush 6, 2) := by decide +kernel
theorem dX12_isEnd_50 : decode cX12_isEnd 50 = .ok (.aload_n 0, 1) := by decide +kernel
theorem dX12_isEnd_51 : decode cX12_isEnd 51 = .ok (.getfield 178, 3) := by decide +kernel
theorem dX12_isEnd_54 : decode cX12_isEnd 54 = .ok (.imul, 1) := by decide +kernel
theorem dX12_isEnd_55 : decode cX12_isEnd 55 = .ok (.lload_n 1, 1) := by decide +kernel
theorem dX12_isEnd_56 : decode cX12_isEnd 56 = .ok (.iconst 3, 1) := by decide +kernel
theorem dX12_isEnd_57 : decode cX12_isEnd 57 = .ok (.lshr, 1) := by decide +kernel
theorem dX12_isEnd_58 : decode cX12_isEnd 58 = .ok (.l2i, 1) := by decide +kernel
theorem dX12_isEnd_59 : decode cX12_isEnd 59 = .ok (.iadd, 1) := by decide +kernel
theorem dX12_isEnd_60 : decode cX12_isEnd 60 = .ok (.baload, 1) := by decide +kernel
theorem dX12_isEnd_61 : decode cX12_isEnd 61 = .ok (.ifCond .eq 7, 3) := by decide +kernel
theorem dX12_isEnd_64 : decode cX12_isEnd 64 = .ok (.iconst 1, 1) := by decide +kernel
theorem dX12_isEnd_65 : decode cX12_isEnd 65 = .ok (.goto 4, 3) := by decide +kernel
theorem dX12_isEnd_68 : decode cX12_isEnd 68 = .ok (.iconst 0, 1) := by decide +kernel
theorem dX12_isEnd_69 : decode cX12_isEnd 69 = .ok (.istore 4, 2) := by decide +kernel
theorem dX12_isEnd_71 : decode cX12_isEnd 71 = .ok (.aload_n 0, 1) := by decide +kernel
theorem dX12_isEnd_72 : decode cX12_isEnd 72 = .ok (.getfield 156, 3) := by decide +kernel
theorem dX12_isEnd_75 : decode cX12_isEnd 75 = .ok (.tableswitch 172 0 7 #[45, 60, 75, 90, 102, 114, 139, 153], 45) := by decide +kernel
theorem dX12_isEnd_120 : decode cX12_isEnd 120 = .ok (.iload_n 3, 1) := by decide +kernel
theorem dX12_isEnd_121 : decode cX12_isEnd 121 = .ok (.ifCond .ne 8, 3) := by decide +kernel
theorem dX12_isEnd_124 : decode cX12_isEnd 124 = .ok (.iload 4, 2) := by decide +kernel
theorem dX12_isEnd_126 : decode cX12_isEnd 126 = .ok (.ifCond .eq 7, 3) := by decide +kernel
theorem dX12_isEnd_129 : decode cX12_isEnd 129 = .ok (.iconst 1, 1) := by decide +kernel
theorem dX12_isEnd_130 : decode cX12_isEnd 130 = .ok (.goto 4, 3) := by decide +kernel
theorem dX12_isEnd_133 : decode cX12_isEnd 133 = .ok (.iconst 0, 1) := by decide +kernel
theorem dX12_isEnd_134 : decode cX12_isEnd 134 = .ok (.ireturn, 1) := by decide +kernel
theorem dX12_isEnd_135 : decode cX12_isEnd 135 = .ok (.iload_n 3, 1) := by decide +kernel
theorem dX12_isEnd_136 : decode cX12_isEnd 136 = .ok (.ifCond .eq 12, 3) := by decide +kernel
theorem dX12_isEnd_139 : decode cX12_isEnd 139 = .ok (.iload 4, 2) := by decide +kernel
theorem dX12_isEnd_141 : decode cX12_isEnd 141 = .ok (.ifCond .eq 7, 3) := by decide +kernel
theorem dX12_isEnd_144 : decode cX12_isEnd 144 = .ok (.iconst 1, 1) := by decide +kernel
theorem dX12_isEnd_145 : decode cX12_isEnd 145 = .ok (.goto 4, 3) := by decide +kernel
theorem dX12_isEnd_148 : decode cX12_isEnd 148 = .ok (.iconst 0, 1) := by decide +kernel
theorem dX12_isEnd_149 : decode cX12_isEnd 149 = .ok (.ireturn, 1) := by decide +kernel
theorem dX12_isEnd_150 : decode cX12_isEnd 150 = .ok (.iload_n 3, 1) := by decide +kernel
theorem dX12_isEnd_151 : decode cX12_isEnd 151 = .ok (.ifCond .eq 12, 3) := by decide +kernel
theorem dX12_isEnd_154 : decode cX12_isEnd 154 = .ok (.iload 4, 2) := by decide +kernel
theorem dX12_isEnd_156 : decode cX12_isEnd 156 = .ok (.ifCond .ne 7, 3) := by decide +kernel
theorem dX12_isEnd_159 : decode cX12_isEnd 159 = .ok (.iconst 1, 1) := by decide +kernel
theorem dX12_isEnd_160 : decode cX12_isEnd 160 = .ok (.goto 4, 3) := by decide +kernel
theorem dX12_isEnd_163 : decode cX12_isEnd 163 = .ok (.iconst 0, 1) := by decide +kernel
theorem dX12_isEnd_164 : decode cX12_isEnd 164 = .ok (.ireturn, 1) := by decide +kernel
theorem dX12_isEnd_165 : decode cX12_isEnd 165 = .ok (.iload_n 3, 1) := by decide +kernel
theorem dX12_isEnd_166 : decode cX12_isEnd 166 = .ok (.iload 4, 2) := by decide +kernel
theorem dX12_isEnd_168 : decode cX12_isEnd 168 = .ok (.if_icmp .eq 7, 3) := by decide +kernel
theorem dX12_isEnd_171 : decode cX12_isEnd 171 = .ok (.iconst 1, 1) := by decide +kernel
theorem dX12_isEnd_172 : decode cX12_isEnd 172 = .ok (.goto 4, 3) := by decide +kernel
theorem dX12_isEnd_175 : decode cX12_isEnd 175 = .ok (.iconst 0, 1) := by decide +kernel
theorem dX12_isEnd_176 : decode cX12_isEnd 176 = .ok (.ireturn, 1) := by decide +kernel
theorem dX12_isEnd_177 : decode cX12_isEnd 177 = .ok (.aload_n 0, 1) := by decide +kernel
theorem dX12_isEnd_178 : decode cX12_isEnd 178 = .ok (.aload_n 0, 1) := by decide +kernel
theorem dX12_isEnd_179 : decode cX12_isEnd 179 = .ok (.getfield 178, 3) := by decide +kernel
theorem dX12_isEnd_182 : decode cX12_isEnd 182 = .ok (.lload_n 1, 1) := by decide +kernel
theorem dX12_isEnd_183 : decode cX12_isEnd 183 = .ok (.iconst 3, 1) := by decide +kernel
theorem dX12_isEnd_184 : decode cX12_isEnd 184 = .ok (.lshr, 1) := by decide +kernel
theorem dX12_isEnd_185 : decode cX12_isEnd 185 = .ok (.invokevirtual 198, 3) := by decide +kernel
theorem dX12_isEnd_188 : decode cX12_isEnd 188 = .ok (.ireturn, 1) := by decide +kernel
theorem dX12_isEnd_189 : decode cX12_isEnd 189 = .ok (.lload_n 1, 1) := by decide +kernel
theorem dX12_isEnd_190 : decode cX12_isEnd 190 = .ok (.ldc2_w 163, 3) := by decide +kernel
theorem dX12_isEnd_193 : decode cX12_isEnd 193 = .ok (.lcmp, 1) := by decide +kernel
theorem dX12_isEnd_194 : decode cX12_isEnd 194 = .ok (.ifCond .eq 14, 3) := by decide +kernel
theorem dX12_isEnd_197 : decode cX12_isEnd 197 = .ok (.lload_n 1, 1) := by decide +kernel
theorem dX12_isEnd_198 : decode cX12_isEnd 198 = .ok (.aload_n 0, 1) := by decide +kernel
theorem dX12_isEnd_199 : decode cX12_isEnd 199 = .ok (.invokevirtual 165, 3) := by decide +kernel
theorem dX12_isEnd_202 : decode cX12_isEnd 202 = .ok (.land, 1) := by decide +kernel
theorem dX12_isEnd_203 : decode cX12_isEnd 203 = .ok (.lconst 0, 1) := by decide +kernel
theorem dX12_isEnd_204 : decode cX12_isEnd 204 = .ok (.lcmp, 1) := by decide +kernel
theorem dX12_isEnd_205 : decode cX12_isEnd 205 = .ok (.ifCond .eq 7, 3) := by decide +kernel
theorem dX12_isEnd_208 : decode cX12_isEnd 208 = .ok (.iconst 1, 1) := by decide +kernel
theorem dX12_isEnd_209 : decode cX12_isEnd 209 = .ok (.goto 4, 3) := by decide +kernel
theorem dX12_isEnd_212 : decode cX12_isEnd 212 = .ok (.iconst 0, 1) := by decide +kernel
theorem dX12_isEnd_213 : decode cX12_isEnd 213 = .ok (.ireturn, 1) := by decide +kernel
theorem dX12_isEnd_214 : decode cX12_isEnd 214 = .ok (.lload_n 1, 1) := by decide +kernel
theorem dX12_isEnd_215 : decode cX12_isEnd 215 = .ok (.lconst 1, 1) := by decide +kernel
theorem dX12_isEnd_216 : decode cX12_isEnd 216 = .ok (.land, 1) := by decide +kernel
theorem dX12_isEnd_217 : decode cX12_isEnd 217 = .ok (.lconst 1, 1) := by decide +kernel
theorem dX12_isEnd_218 : decode cX12_isEnd 218 = .ok (.lcmp, 1) := by decide +kernel
theorem dX12_isEnd_219 : decode cX12_isEnd 219 = .ok (.ifCond .ne 7, 3) := by decide +kernel
theorem dX12_isEnd_222 : decode cX12_isEnd 222 = .ok (.iconst 1, 1) := by decide +kernel
theorem dX12_isEnd_223 : decode cX12_isEnd 223 = .ok (.goto 4, 3) := by decide +kernel
theorem dX12_isEnd_226 : decode cX12_isEnd 226 = .ok (.iconst 0, 1) := by decide +kernel
theorem dX12_isEnd_227 : decode cX12_isEnd 227 = .ok (.ireturn, 1) := by decide +kernel
theorem dX12_isEnd_228 : decode cX12_isEnd 228 = .ok (.lload_n 1, 1) := by decide +kernel
theorem dX12_isEnd_229 : decode cX12_isEnd 229 = .ok (.aload_n 0, 1) := by decide +kernel
theorem dX12_isEnd_230 : decode cX12_isEnd 230 = .ok (.getfield 202, 3) := by decide +kernel
theorem dX12_isEnd_233 : decode cX12_isEnd 233 = .ok (.lushr, 1) := by decide +kernel
theorem dX12_isEnd_234 : decode cX12_isEnd 234 = .ok (.lconst 1, 1) := by decide +kernel
theorem dX12_isEnd_235 : decode cX12_isEnd 235 = .ok (.land, 1) := by decide +kernel
theorem dX12_isEnd_236 : decode cX12_isEnd 236 = .ok (.lconst 1, 1) := by decide +kernel
theorem dX12_isEnd_237 : decode cX12_isEnd 237 = .ok (.lcmp, 1) := by decide +kernel
theorem dX12_isEnd_238 : decode cX12_isEnd 238 = .ok (.ifCond .ne 7, 3) := by decide +kernel
theorem dX12_isEnd_241 : decode cX12_isEnd 241 = .ok (.iconst 1, 1) := by decide +kernel
theorem dX12_isEnd_242 : decode cX12_isEnd 242 = .ok (.goto 4, 3) := by decide +kernel
theorem dX12_isEnd_245 : decode cX12_isEnd 245 = .ok (.iconst 0, 1) := by decide +kernel
theorem dX12_isEnd_246 : decode cX12_isEnd 246 = .ok (.ireturn, 1) := by decide +kernel
theorem dX12_isEnd_247 : decode cX12_isEnd 247 = .ok (.aload_n 0, 1) := by decide +kernel
theorem dX12_isEnd_248 : decode cX12_isEnd 248 = .ok (.getfield 16, 3) := by decide +kernel
theorem dX12_isEnd_251 : decode cX12_isEnd 251 = .ok (.bipush 6, 2) := by decide +kernel
theorem dX12_isEnd_253 : decode cX12_isEnd 253 = .ok (.aload_n 0, 1) := by decide +kernel
theorem dX12_isEnd_254 : decode cX12_isEnd 254 = .ok (.getfield 173, 3) := by decide +kernel
theorem dX12_isEnd_257 : decode cX12_isEnd 257 = .ok (.imul, 1) := by decide +kernel
theorem dX12_isEnd_258 : decode cX12_isEnd 258 = .ok (.lload_n 1, 1) := by decide +kernel
theorem dX12_isEnd_259 : decode cX12_isEnd 259 = .ok (.l2i, 1) := by decide +kernel
theorem dX12_isEnd_260 : decode cX12_isEnd 260 = .ok (.iadd, 1) := by decide +kernel
theorem dX12_isEnd_261 : decode cX12_isEnd 261 = .ok (.baload, 1) := by decide +kernel
theorem dX12_isEnd_262 : decode cX12_isEnd 262 = .ok (.ireturn, 1) := by decide +kernel
theorem dX12_hasFinal_0 : decode cX12_hasFinal 0 = .ok (.iconst 0, 1) := by decide +kernel
theorem dX12_hasFinal_1 : decode cX12_hasFinal 1 = .ok (.istore 4, 2) := by decide +kernel
theorem dX12_hasFinal_3 : decode cX12_hasFinal 3 = .ok (.iconst 0, 1) := by decide +kernel
theorem dX12_hasFinal_4 : decode cX12_hasFinal 4 = .ok (.istore 5, 2) := by decide +kernel
theorem dX12_hasFinal_6 : decode cX12_hasFinal 6 = .ok (.iload 5, 2) := by decide +kernel
theorem dX12_hasFinal_8 : decode cX12_hasFinal 8 = .ok (.aload_n 0, 1) := by decide +kernel
theorem dX12_hasFinal_9 : decode cX12_hasFinal 9 = .ok (.getfield 7, 3) := by decide +kernel
theorem dX12_hasFinal_12 : decode cX12_hasFinal 12 = .ok (.iload_n 1, 1) := by decide +kernel
theorem dX12_hasFinal_13 : decode cX12_hasFinal 13 = .ok (.iaload, 1) := by decide +kernel
theorem dX12_hasFinal_14 : decode cX12_hasFinal 14 = .ok (.if_icmp .ge 47, 3) := by decide +kernel
theorem dX12_hasFinal_17 : decode cX12_hasFinal 17 = .ok (.iload 4, 2) := by decide +kernel
theorem dX12_hasFinal_19 : decode cX12_hasFinal 19 = .ok (.ifCond .ne 29, 3) := by decide +kernel
theorem dX12_hasFinal_22 : decode cX12_hasFinal 22 = .ok (.lload_n 2, 1) := by decide +kernel
theorem dX12_hasFinal_23 : decode cX12_hasFinal 23 = .ok (.iload 5, 2) := by decide +kernel
theorem dX12_hasFinal_25 : decode cX12_hasFinal 25 = .ok (.lshr, 1) := by decide +kernel
theorem dX12_hasFinal_26 : decode cX12_hasFinal 26 = .ok (.lconst 1, 1) := by decide +kernel
theorem dX12_hasFinal_27 : decode cX12_hasFinal 27 = .ok (.land, 1) := by decide +kernel
theorem dX12_hasFinal_28 : decode cX12_hasFinal 28 = .ok (.lconst 1, 1) := by decide +kernel
theorem dX12_hasFinal_29 : decode cX12_hasFinal 29 = .ok (.lcmp, 1) := by decide +kernel
theorem dX12_hasFinal_30 : decode cX12_hasFinal 30 = .ok (.ifCond .ne 22, 3) := by decide +kernel
theorem dX12_hasFinal_33 : decode cX12_hasFinal 33 = .ok (.aload_n 0, 1) := by decide +kernel
theorem dX12_hasFinal_34 : decode cX12_hasFinal 34 = .ok (.getfield 16, 3) := by decide +kernel
theorem dX12_hasFinal_37 : decode cX12_hasFinal 37 = .ok (.bipush 6, 2) := by decide +kernel
theorem dX12_hasFinal_39 : decode cX12_hasFinal 39 = .ok (.iload_n 1, 1) := by decide +kernel
theorem dX12_hasFinal_40 : decode cX12_hasFinal 40 = .ok (.imul, 1) := by decide +kernel
theorem dX12_hasFinal_41 : decode cX12_hasFinal 41 = .ok (.iload 5, 2) := by decide +kernel
theorem dX12_hasFinal_43 : decode cX12_hasFinal 43 = .ok (.iadd, 1) := by decide +kernel
theorem dX12_hasFinal_44 : decode cX12_hasFinal 44 = .ok (.baload, 1) := by decide +kernel
theorem dX12_hasFinal_45 : decode cX12_hasFinal 45 = .ok (.ifCond .eq 7, 3) := by decide +kernel
theorem dX12_hasFinal_48 : decode cX12_hasFinal 48 = .ok (.iconst 1, 1) := by decide +kernel
theorem dX12_hasFinal_49 : decode cX12_hasFinal 49 = .ok (.goto 4, 3) := by decide +kernel
theorem dX12_hasFinal_52 : decode cX12_hasFinal 52 = .ok (.iconst 0, 1) := by decide +kernel
theorem dX12_hasFinal_53 : decode cX12_hasFinal 53 = .ok (.istore 4, 2) := by decide +kernel
theorem dX12_hasFinal_55 : decode cX12_hasFinal 55 = .ok (.iinc 5 1, 3) := by decide +kernel
theorem dX12_hasFinal_58 : decode cX12_hasFinal 58 = .ok (.goto (-52), 3) := by decide +kernel
theorem dX12_hasFinal_61 : decode cX12_hasFinal 61 = .ok (.iload 4, 2) := by decide +kernel
theorem dX12_hasFinal_63 : decode cX12_hasFinal 63 = .ok (.ireturn, 1) := by decide +kernel
theorem dX12_makes_0 : decode cX12_makes 0 = .ok (.aload_n 0, 1) := by decide +kernel
theorem dX12_makes_1 : decode cX12_makes 1 = .ok (.iload_n 1, 1) := by decide +kernel
theorem dX12_makes_2 : decode cX12_makes 2 = .ok (.putfield 156, 3) := by decide +kernel
theorem dX12_makes_5 : decode cX12_makes 5 = .ok (.aload_n 0, 1) := by decide +kernel
theorem dX12_makes_6 : decode cX12_makes 6 = .ok (.iload_n 2, 1) := by decide +kernel
theorem dX12_makes_7 : decode cX12_makes 7 = .ok (.putfield 173, 3) := by decide +kernel
theorem dX12_makes_10 : decode cX12_makes 10 = .ok (.aload_n 0, 1) := by decide +kernel
theorem dX12_makes_11 : decode cX12_makes 11 = .ok (.iload_n 3, 1) := by decide +kernel
theorem dX12_makes_12 : decode cX12_makes 12 = .ok (.putfield 178, 3) := by decide +kernel
theorem dX12_makes_15 : decode cX12_makes 15 = .ok (.aload_n 0, 1) := by decide +kernel
theorem dX12_makes_16 : decode cX12_makes 16 = .ok (.iconst 0, 1) := by decide +kernel
theorem dX12_makes_17 : decode cX12_makes 17 = .ok (.putfield 153, 3) := by decide +kernel
theorem dX12_makes_20 : decode cX12_makes 20 = .ok (.aload_n 0, 1) := by decide +kernel
theorem dX12_makes_21 : decode cX12_makes 21 = .ok (.aload_n 0, 1) := by decide +kernel
theorem dX12_makes_22 : decode cX12_makes 22 = .ok (.invokevirtual 205, 3) := by decide +kernel
theorem dX12_makes_25 : decode cX12_makes 25 = .ok (.invokevirtual 208, 3) := by decide +kernel
theorem dX12_makes_28 : decode cX12_makes 28 = .ok (.pop, 1) := by decide +kernel
theorem dX12_makes_29 : decode cX12_makes 29 = .ok (.iconst 0, 1) := by decide +kernel
theorem dX12_makes_30 : decode cX12_makes 30 = .ok (.istore 4, 2) := by decide +kernel
theorem dX12_makes_32 : decode cX12_makes 32 = .ok (.iload 4, 2) := by decide +kernel
theorem dX12_makes_34 : decode cX12_makes 34 = .ok (.aload_n 0, 1) := by decide +kernel
theorem dX12_makes_35 : decode cX12_makes 35 = .ok (.getfield 153, 3) := by decide +kernel
theorem dX12_makes_38 : decode cX12_makes 38 = .ok (.if_icmp .ge 115, 3) := by decide +kernel
theorem dX12_makes_41 : decode cX12_makes 41 = .ok (.iconst 0, 1) := by decide +kernel
theorem dX12_makes_42 : decode cX12_makes 42 = .ok (.istore 5, 2) := by decide +kernel
theorem dX12_makes_44 : decode cX12_makes 44 = .ok (.iload 5, 2) := by decide +kernel
theorem dX12_makes_46 : decode cX12_makes 46 = .ok (.iconst 3, 1) := by decide +kernel
theorem dX12_makes_47 : decode cX12_makes 47 = .ok (.if_icmp .ge 100, 3) := by decide +kernel
theorem dX12_makes_50 : decode cX12_makes 50 = .ok (.aload_n 0, 1) := by decide +kernel
theorem dX12_makes_51 : decode cX12_makes 51 = .ok (.getfield 153, 3) := by decide +kernel
theorem dX12_makes_54 : decode cX12_makes 54 = .ok (.istore 6, 2) := by decide +kernel
theorem dX12_makes_56 : decode cX12_makes 56 = .ok (.aload_n 0, 1) := by decide +kernel
theorem dX12_makes_57 : decode cX12_makes 57 = .ok (.aload_n 0, 1) := by decide +kernel
theorem dX12_makes_58 : decode cX12_makes 58 = .ok (.aload_n 0, 1) := by decide +kernel
theorem dX12_makes_59 : decode cX12_makes 59 = .ok (.getfield 49, 3) := by decide +kernel
theorem dX12_makes_62 : decode cX12_makes 62 = .ok (.iload 4, 2) := by decide +kernel
theorem dX12_makes_64 : decode cX12_makes 64 = .ok (.laload, 1) := by decide +kernel
theorem dX12_makes_65 : decode cX12_makes 65 = .ok (.iload 5, 2) := by decide +kernel
theorem dX12_makes_67 : decode cX12_makes 67 = .ok (.invokevirtual 212, 3) := by decide +kernel
theorem dX12_makes_70 : decode cX12_makes 70 = .ok (.invokevirtual 208, 3) := by decide +kernel
theorem dX12_makes_73 : decode cX12_makes 73 = .ok (.istore 7, 2) := by decide +kernel
theorem dX12_makes_75 : decode cX12_makes 75 = .ok (.aload_n 0, 1) := by decide +kernel
theorem dX12_makes_76 : decode cX12_makes 76 = .ok (.getfield 53, 3) := by decide +kernel
theorem dX12_makes_79 : decode cX12_makes 79 = .ok (.iconst 3, 1) := by decide +kernel
theorem dX12_makes_80 : decode cX12_makes 80 = .ok (.iload 4, 2) := by decide +kernel
theorem dX12_makes_82 : decode cX12_makes 82 = .ok (.imul, 1) := by decide +kernel
theorem dX12_makes_83 : decode cX12_makes 83 = .ok (.iload 5, 2) := by decide +kernel
theorem dX12_makes_85 : decode cX12_makes 85 = .ok (.iadd, 1) := by decide +kernel
theorem dX12_makes_86 : decode cX12_makes 86 = .ok (.iload 7, 2) := by decide +kernel
theorem dX12_makes_88 : decode cX12_makes 88 = .ok (.iastore, 1) := by decide +kernel
theorem dX12_makes_89 : decode cX12_makes 89 = .ok (.aload_n 0, 1) := by decide +kernel
theorem dX12_makes_90 : decode cX12_makes 90 = .ok (.getfield 59, 3) := by decide +kernel
theorem dX12_makes_93 : decode cX12_makes 93 = .ok (.iload 7, 2) := by decide +kernel
theorem dX12_makes_95 : decode cX12_makes 95 = .ok (.iload 7, 2) := by decide +kernel
theorem dX12_makes_97 : decode cX12_makes 97 = .ok (.iload 6, 2) := by decide +kernel
theorem dX12_makes_99 : decode cX12_makes 99 = .ok (.if_icmp .ne 8, 3) := by decide +kernel
theorem dX12_makes_102 : decode cX12_makes 102 = .ok (.iload 4, 2) := by decide +kernel
theorem dX12_makes_104 : decode cX12_makes 104 = .ok (.goto 10, 3) := by decide +kernel
theorem dX12_makes_107 : decode cX12_makes 107 = .ok (.aload_n 0, 1) := by decide +kernel
theorem dX12_makes_108 : decode cX12_makes 108 = .ok (.getfield 59, 3) := by decide +kernel
theorem dX12_makes_111 : decode cX12_makes 111 = .ok (.iload 7, 2) := by decide +kernel
theorem dX12_makes_113 : decode cX12_makes 113 = .ok (.iaload, 1) := by decide +kernel
theorem dX12_makes_114 : decode cX12_makes 114 = .ok (.iastore, 1) := by decide +kernel
theorem dX12_makes_115 : decode cX12_makes 115 = .ok (.aload_n 0, 1) := by decide +kernel
theorem dX12_makes_116 : decode cX12_makes 116 = .ok (.getfield 62, 3) := by decide +kernel
theorem dX12_makes_119 : decode cX12_makes 119 = .ok (.iload 7, 2) := by decide +kernel
theorem dX12_makes_121 : decode cX12_makes 121 = .ok (.iload 7, 2) := by decide +kernel
theorem dX12_makes_123 : decode cX12_makes 123 = .ok (.iload 6, 2) := by decide +kernel
theorem dX12_makes_125 : decode cX12_makes 125 = .ok (.if_icmp .ne 8, 3) := by decide +kernel
theorem dX12_makes_128 : decode cX12_makes 128 = .ok (.iload 5, 2) := by decide +kernel
theorem dX12_makes_130 : decode cX12_makes 130 = .ok (.goto 10, 3) := by decide +kernel
theorem dX12_makes_133 : decode cX12_makes 133 = .ok (.aload_n 0, 1) := by decide +kernel
theorem dX12_makes_134 : decode cX12_makes 134 = .ok (.getfield 62, 3) := by decide +kernel
theorem dX12_makes_137 : decode cX12_makes 137 = .ok (.iload 7, 2) := by decide +kernel
theorem dX12_makes_139 : decode cX12_makes 139 = .ok (.iaload, 1) := by decide +kernel
theorem dX12_makes_140 : decode cX12_makes 140 = .ok (.iastore, 1) := by decide +kernel
theorem dX12_makes_141 : decode cX12_makes 141 = .ok (.iinc 5 1, 3) := by decide +kernel
theorem dX12_makes_144 : decode cX12_makes 144 = .ok (.goto (-100), 3) := by decide +kernel
theorem dX12_makes_147 : decode cX12_makes 147 = .ok (.iinc 4 1, 3) := by decide +kernel
theorem dX12_makes_150 : decode cX12_makes 150 = .ok (.goto (-118), 3) := by decide +kernel
theorem dX12_makes_153 : decode cX12_makes 153 = .ok (.iconst 0, 1) := by decide +kernel
theorem dX12_makes_154 : decode cX12_makes 154 = .ok (.istore 4, 2) := by decide +kernel
theorem dX12_makes_156 : decode cX12_makes 156 = .ok (.iload 4, 2) := by decide +kernel
theorem dX12_makes_158 : decode cX12_makes 158 = .ok (.aload_n 0, 1) := by decide +kernel
theorem dX12_makes_159 : decode cX12_makes 159 = .ok (.getfield 153, 3) := by decide +kernel
theorem dX12_makes_162 : decode cX12_makes 162 = .ok (.if_icmp .ge 27, 3) := by decide +kernel
theorem dX12_makes_165 : decode cX12_makes 165 = .ok (.aload_n 0, 1) := by decide +kernel
theorem dX12_makes_166 : decode cX12_makes 166 = .ok (.getfield 56, 3) := by decide +kernel
theorem dX12_makes_169 : decode cX12_makes 169 = .ok (.iload 4, 2) := by decide +kernel
theorem dX12_makes_171 : decode cX12_makes 171 = .ok (.aload_n 0, 1) := by decide +kernel
theorem dX12_makes_172 : decode cX12_makes 172 = .ok (.aload_n 0, 1) := by decide +kernel
theorem dX12_makes_173 : decode cX12_makes 173 = .ok (.getfield 49, 3) := by decide +kernel
theorem dX12_makes_176 : decode cX12_makes 176 = .ok (.iload 4, 2) := by decide +kernel
theorem dX12_makes_178 : decode cX12_makes 178 = .ok (.laload, 1) := by decide +kernel
theorem dX12_makes_179 : decode cX12_makes 179 = .ok (.invokevirtual 215, 3) := by decide +kernel
theorem dX12_makes_182 : decode cX12_makes 182 = .ok (.bastore, 1) := by decide +kernel
theorem dX12_makes_183 : decode cX12_makes 183 = .ok (.iinc 4 1, 3) := by decide +kernel
theorem dX12_makes_186 : decode cX12_makes 186 = .ok (.goto (-30), 3) := by decide +kernel
theorem dX12_makes_189 : decode cX12_makes 189 = .ok (.aload_n 0, 1) := by decide +kernel
theorem dX12_makes_190 : decode cX12_makes 190 = .ok (.invokevirtual 219, 3) := by decide +kernel
theorem dX12_makes_193 : decode cX12_makes 193 = .ok (.return_, 1) := by decide +kernel
theorem dX12_isAlike_0 : decode cX12_isAlike 0 = .ok (.aload_n 0, 1) := by decide +kernel
theorem dX12_isAlike_1 : decode cX12_isAlike 1 = .ok (.getfield 65, 3) := by decide +kernel
theorem dX12_isAlike_4 : decode cX12_isAlike 4 = .ok (.iload_n 1, 1) := by decide +kernel
theorem dX12_isAlike_5 : decode cX12_isAlike 5 = .ok (.iaload, 1) := by decide +kernel
theorem dX12_isAlike_6 : decode cX12_isAlike 6 = .ok (.aload_n 0, 1) := by decide +kernel
theorem dX12_isAlike_7 : decode cX12_isAlike 7 = .ok (.getfield 65, 3) := by decide +kernel
theorem dX12_isAlike_10 : decode cX12_isAlike 10 = .ok (.iload_n 2, 1) := by decide +kernel
theorem dX12_isAlike_11 : decode cX12_isAlike 11 = .ok (.iaload, 1) := by decide +kernel
theorem dX12_isAlike_12 : decode cX12_isAlike 12 = .ok (.if_icmp .ne 7, 3) := by decide +kernel
theorem dX12_isAlike_15 : decode cX12_isAlike 15 = .ok (.iconst 1, 1) := by decide +kernel
theorem dX12_isAlike_16 : decode cX12_isAlike 16 = .ok (.goto 4, 3) := by decide +kernel
theorem dX12_isAlike_19 : decode cX12_isAlike 19 = .ok (.iconst 0, 1) := by decide +kernel
theorem dX12_isAlike_20 : decode cX12_isAlike 20 = .ok (.istore_n 3, 1) := by decide +kernel
theorem dX12_isAlike_21 : decode cX12_isAlike 21 = .ok (.iconst 0, 1) := by decide +kernel
theorem dX12_isAlike_22 : decode cX12_isAlike 22 = .ok (.istore 4, 2) := by decide +kernel
theorem dX12_isAlike_24 : decode cX12_isAlike 24 = .ok (.iload 4, 2) := by decide +kernel
theorem dX12_isAlike_26 : decode cX12_isAlike 26 = .ok (.iconst 3, 1) := by decide +kernel
theorem dX12_isAlike_27 : decode cX12_isAlike 27 = .ok (.if_icmp .ge 54, 3) := by decide +kernel
theorem dX12_isAlike_30 : decode cX12_isAlike 30 = .ok (.iload_n 3, 1) := by decide +kernel
theorem dX12_isAlike_31 : decode cX12_isAlike 31 = .ok (.ifCond .eq 42, 3) := by decide +kernel
theorem dX12_isAlike_34 : decode cX12_isAlike 34 = .ok (.aload_n 0, 1) := by decide +kernel
theorem dX12_isAlike_35 : decode cX12_isAlike 35 = .ok (.getfield 65, 3) := by decide +kernel
theorem dX12_isAlike_38 : decode cX12_isAlike 38 = .ok (.aload_n 0, 1) := by decide +kernel
theorem dX12_isAlike_39 : decode cX12_isAlike 39 = .ok (.getfield 53, 3) := by decide +kernel
theorem dX12_isAlike_42 : decode cX12_isAlike 42 = .ok (.iconst 3, 1) := by decide +kernel
theorem dX12_isAlike_43 : decode cX12_isAlike 43 = .ok (.iload_n 1, 1) := by decide +kernel
theorem dX12_isAlike_44 : decode cX12_isAlike 44 = .ok (.imul, 1) := by decide +kernel
theorem dX12_isAlike_45 : decode cX12_isAlike 45 = .ok (.iload 4, 2) := by decide +kernel
theorem dX12_isAlike_47 : decode cX12_isAlike 47 = .ok (.iadd, 1) := by decide +kernel
theorem dX12_isAlike_48 : decode cX12_isAlike 48 = .ok (.iaload, 1) := by decide +kernel
theorem dX12_isAlike_49 : decode cX12_isAlike 49 = .ok (.iaload, 1) := by decide +kernel
theorem dX12_isAlike_50 : decode cX12_isAlike 50 = .ok (.aload_n 0, 1) := by decide +kernel
theorem dX12_isAlike_51 : decode cX12_isAlike 51 = .ok (.getfield 65, 3) := by decide +kernel
theorem dX12_isAlike_54 : decode cX12_isAlike 54 = .ok (.aload_n 0, 1) := by decide +kernel
theorem dX12_isAlike_55 : decode cX12_isAlike 55 = .ok (.getfield 53, 3) := by decide +kernel
theorem dX12_isAlike_58 : decode cX12_isAlike 58 = .ok (.iconst 3, 1) := by decide +kernel
theorem dX12_isAlike_59 : decode cX12_isAlike 59 = .ok (.iload_n 2, 1) := by decide +kernel
theorem dX12_isAlike_60 : decode cX12_isAlike 60 = .ok (.imul, 1) := by decide +kernel
theorem dX12_isAlike_61 : decode cX12_isAlike 61 = .ok (.iload 4, 2) := by decide +kernel
theorem dX12_isAlike_63 : decode cX12_isAlike 63 = .ok (.iadd, 1) := by decide +kernel
theorem dX12_isAlike_64 : decode cX12_isAlike 64 = .ok (.iaload, 1) := by decide +kernel
theorem dX12_isAlike_65 : decode cX12_isAlike 65 = .ok (.iaload, 1) := by decide +kernel
theorem dX12_isAlike_66 : decode cX12_isAlike 66 = .ok (.if_icmp .ne 7, 3) := by decide +kernel
theorem dX12_isAlike_69 : decode cX12_isAlike 69 = .ok (.iconst 1, 1) := by decide +kernel
theorem dX12_isAlike_70 : decode cX12_isAlike 70 = .ok (.goto 4, 3) := by decide +kernel
theorem dX12_isAlike_73 : decode cX12_isAlike 73 = .ok (.iconst 0, 1) := by decide +kernel
theorem dX12_isAlike_74 : decode cX12_isAlike 74 = .ok (.istore_n 3, 1) := by decide +kernel
theorem dX12_isAlike_75 : decode cX12_isAlike 75 = .ok (.iinc 4 1, 3) := by decide +kernel
theorem dX12_isAlike_78 : decode cX12_isAlike 78 = .ok (.goto (-54), 3) := by decide +kernel
theorem dX12_isAlike_81 : decode cX12_isAlike 81 = .ok (.iload_n 3, 1) := by decide +kernel
theorem dX12_isAlike_82 : decode cX12_isAlike 82 = .ok (.ireturn, 1) := by decide +kernel
theorem dX12_parts_0 : decode cX12_parts 0 = .ok (.iconst 0, 1) := by decide +kernel
theorem dX12_parts_1 : decode cX12_parts 1 = .ok (.istore_n 1, 1) := by decide +kernel
theorem dX12_parts_2 : decode cX12_parts 2 = .ok (.iload_n 1, 1) := by decide +kernel
theorem dX12_parts_3 : decode cX12_parts 3 = .ok (.aload_n 0, 1) := by decide +kernel
theorem dX12_parts_4 : decode cX12_parts 4 = .ok (.getfield 153, 3) := by decide +kernel
theorem dX12_parts_7 : decode cX12_parts 7 = .ok (.if_icmp .ge 35, 3) := by decide +kernel
theorem dX12_parts_10 : decode cX12_parts 10 = .ok (.aload_n 0, 1) := by decide +kernel
theorem dX12_parts_11 : decode cX12_parts 11 = .ok (.getfield 65, 3) := by decide +kernel
theorem dX12_parts_14 : decode cX12_parts 14 = .ok (.iload_n 1, 1) := by decide +kernel
theorem dX12_parts_15 : decode cX12_parts 15 = .ok (.aload_n 0, 1) := by decide +kernel
theorem dX12_parts_16 : decode cX12_parts 16 = .ok (.getfield 56, 3) := by decide +kernel
theorem dX12_parts_19 : decode cX12_parts 19 = .ok (.iload_n 1, 1) := by decide +kernel
theorem dX12_parts_20 : decode cX12_parts 20 = .ok (.baload, 1) := by decide +kernel
theorem dX12_parts_21 : decode cX12_parts 21 = .ok (.aload_n 0, 1) := by decide +kernel
theorem dX12_parts_22 : decode cX12_parts 22 = .ok (.getfield 56, 3) := by decide +kernel
theorem dX12_parts_25 : decode cX12_parts 25 = .ok (.iconst 0, 1) := by decide +kernel
theorem dX12_parts_26 : decode cX12_parts 26 = .ok (.baload, 1) := by decide +kernel
theorem dX12_parts_27 : decode cX12_parts 27 = .ok (.if_icmp .ne 7, 3) := by decide +kernel
theorem dX12_parts_30 : decode cX12_parts 30 = .ok (.iconst 0, 1) := by decide +kernel
theorem dX12_parts_31 : decode cX12_parts 31 = .ok (.goto 4, 3) := by decide +kernel
theorem dX12_parts_34 : decode cX12_parts 34 = .ok (.iconst 1, 1) := by decide +kernel
theorem dX12_parts_35 : decode cX12_parts 35 = .ok (.iastore, 1) := by decide +kernel
theorem dX12_parts_36 : decode cX12_parts 36 = .ok (.iinc 1 1, 3) := by decide +kernel
theorem dX12_parts_39 : decode cX12_parts 39 = .ok (.goto (-37), 3) := by decide +kernel
theorem dX12_parts_42 : decode cX12_parts 42 = .ok (.iconst 0, 1) := by decide +kernel
theorem dX12_parts_43 : decode cX12_parts 43 = .ok (.istore_n 1, 1) := by decide +kernel
theorem dX12_parts_44 : decode cX12_parts 44 = .ok (.aload_n 0, 1) := by decide +kernel
theorem dX12_parts_45 : decode cX12_parts 45 = .ok (.iconst (-1), 1) := by decide +kernel
theorem dX12_parts_46 : decode cX12_parts 46 = .ok (.putfield 222, 3) := by decide +kernel
theorem dX12_parts_49 : decode cX12_parts 49 = .ok (.aload_n 0, 1) := by decide +kernel
theorem dX12_parts_50 : decode cX12_parts 50 = .ok (.getfield 222, 3) := by decide +kernel
theorem dX12_parts_53 : decode cX12_parts 53 = .ok (.iload_n 1, 1) := by decide +kernel
theorem dX12_parts_54 : decode cX12_parts 54 = .ok (.if_icmp .eq 125, 3) := by decide +kernel
theorem dX12_parts_57 : decode cX12_parts 57 = .ok (.aload_n 0, 1) := by decide +kernel
theorem dX12_parts_58 : decode cX12_parts 58 = .ok (.getfield 222, 3) := by decide +kernel
theorem dX12_parts_61 : decode cX12_parts 61 = .ok (.istore_n 1, 1) := by decide +kernel
theorem dX12_parts_62 : decode cX12_parts 62 = .ok (.aload_n 0, 1) := by decide +kernel
theorem dX12_parts_63 : decode cX12_parts 63 = .ok (.iconst 0, 1) := by decide +kernel
theorem dX12_parts_64 : decode cX12_parts 64 = .ok (.putfield 222, 3) := by decide +kernel
theorem dX12_parts_67 : decode cX12_parts 67 = .ok (.iconst 0, 1) := by decide +kernel
theorem dX12_parts_68 : decode cX12_parts 68 = .ok (.istore_n 2, 1) := by decide +kernel
theorem dX12_parts_69 : decode cX12_parts 69 = .ok (.iload_n 2, 1) := by decide +kernel
theorem dX12_parts_70 : decode cX12_parts 70 = .ok (.aload_n 0, 1) := by decide +kernel
theorem dX12_parts_71 : decode cX12_parts 71 = .ok (.getfield 153, 3) := by decide +kernel
theorem dX12_parts_74 : decode cX12_parts 74 = .ok (.if_icmp .ge 74, 3) := by decide +kernel
theorem dX12_parts_77 : decode cX12_parts 77 = .ok (.iconst 0, 1) := by decide +kernel
theorem dX12_parts_78 : decode cX12_parts 78 = .ok (.istore_n 3, 1) := by decide +kernel
theorem dX12_parts_79 : decode cX12_parts 79 = .ok (.iload_n 3, 1) := by decide +kernel
theorem dX12_parts_80 : decode cX12_parts 80 = .ok (.iload_n 2, 1) := by decide +kernel
theorem dX12_parts_81 : decode cX12_parts 81 = .ok (.if_icmp .ge 18, 3) := by decide +kernel
theorem dX12_parts_84 : decode cX12_parts 84 = .ok (.aload_n 0, 1) := by decide +kernel
theorem dX12_parts_85 : decode cX12_parts 85 = .ok (.iload_n 2, 1) := by decide +kernel
theorem dX12_parts_86 : decode cX12_parts 86 = .ok (.iload_n 3, 1) := by decide +kernel
theorem dX12_parts_87 : decode cX12_parts 87 = .ok (.invokevirtual 225, 3) := by decide +kernel
theorem dX12_parts_90 : decode cX12_parts 90 = .ok (.ifCond .ne 9, 3) := by decide +kernel
theorem dX12_parts_93 : decode cX12_parts 93 = .ok (.iinc 3 1, 3) := by decide +kernel
theorem dX12_parts_96 : decode cX12_parts 96 = .ok (.goto (-17), 3) := by decide +kernel
theorem dX12_parts_99 : decode cX12_parts 99 = .ok (.aload_n 0, 1) := by decide +kernel
theorem dX12_parts_100 : decode cX12_parts 100 = .ok (.getfield 68, 3) := by decide +kernel
theorem dX12_parts_103 : decode cX12_parts 103 = .ok (.iload_n 2, 1) := by decide +kernel
theorem dX12_parts_104 : decode cX12_parts 104 = .ok (.iload_n 3, 1) := by decide +kernel
theorem dX12_parts_105 : decode cX12_parts 105 = .ok (.iload_n 2, 1) := by decide +kernel
theorem dX12_parts_106 : decode cX12_parts 106 = .ok (.if_icmp .ge 12, 3) := by decide +kernel
theorem dX12_parts_109 : decode cX12_parts 109 = .ok (.aload_n 0, 1) := by decide +kernel
theorem dX12_parts_110 : decode cX12_parts 110 = .ok (.getfield 68, 3) := by decide +kernel
theorem dX12_parts_113 : decode cX12_parts 113 = .ok (.iload_n 3, 1) := by decide +kernel
theorem dX12_parts_114 : decode cX12_parts 114 = .ok (.iaload, 1) := by decide +kernel
theorem dX12_parts_115 : decode cX12_parts 115 = .ok (.goto 7, 3) := by decide +kernel
theorem dX12_parts_118 : decode cX12_parts 118 = .ok (.aload_n 0, 1) := by decide +kernel
theorem dX12_parts_119 : decode cX12_parts 119 = .ok (.getfield 222, 3) := by decide +kernel
theorem dX12_parts_122 : decode cX12_parts 122 = .ok (.iastore, 1) := by decide +kernel
theorem dX12_parts_123 : decode cX12_parts 123 = .ok (.aload_n 0, 1) := by decide +kernel
theorem dX12_parts_124 : decode cX12_parts 124 = .ok (.dup, 1) := by decide +kernel
theorem dX12_parts_125 : decode cX12_parts 125 = .ok (.getfield 222, 3) := by decide +kernel
theorem dX12_parts_128 : decode cX12_parts 128 = .ok (.iload_n 3, 1) := by decide +kernel
theorem dX12_parts_129 : decode cX12_parts 129 = .ok (.iload_n 2, 1) := by decide +kernel
theorem dX12_parts_130 : decode cX12_parts 130 = .ok (.if_icmp .ge 7, 3) := by decide +kernel
theorem dX12_parts_133 : decode cX12_parts 133 = .ok (.iconst 0, 1) := by decide +kernel
theorem dX12_parts_134 : decode cX12_parts 134 = .ok (.goto 4, 3) := by decide +kernel
theorem dX12_parts_137 : decode cX12_parts 137 = .ok (.iconst 1, 1) := by decide +kernel
theorem dX12_parts_138 : decode cX12_parts 138 = .ok (.iadd, 1) := by decide +kernel
theorem dX12_parts_139 : decode cX12_parts 139 = .ok (.putfield 222, 3) := by decide +kernel
theorem dX12_parts_142 : decode cX12_parts 142 = .ok (.iinc 2 1, 3) := by decide +kernel
theorem dX12_parts_145 : decode cX12_parts 145 = .ok (.goto (-76), 3) := by decide +kernel
theorem dX12_parts_148 : decode cX12_parts 148 = .ok (.iconst 0, 1) := by decide +kernel
theorem dX12_parts_149 : decode cX12_parts 149 = .ok (.istore_n 2, 1) := by decide +kernel
theorem dX12_parts_150 : decode cX12_parts 150 = .ok (.iload_n 2, 1) := by decide +kernel
theorem dX12_parts_151 : decode cX12_parts 151 = .ok (.aload_n 0, 1) := by decide +kernel
theorem dX12_parts_152 : decode cX12_parts 152 = .ok (.getfield 153, 3) := by decide +kernel
theorem dX12_parts_155 : decode cX12_parts 155 = .ok (.if_icmp .ge 21, 3) := by decide +kernel
theorem dX12_parts_158 : decode cX12_parts 158 = .ok (.aload_n 0, 1) := by decide +kernel
theorem dX12_parts_159 : decode cX12_parts 159 = .ok (.getfield 65, 3) := by decide +kernel
theorem dX12_parts_162 : decode cX12_parts 162 = .ok (.iload_n 2, 1) := by decide +kernel
theorem dX12_parts_163 : decode cX12_parts 163 = .ok (.aload_n 0, 1) := by decide +kernel
theorem dX12_parts_164 : decode cX12_parts 164 = .ok (.getfield 68, 3) := by decide +kernel
theorem dX12_parts_167 : decode cX12_parts 167 = .ok (.iload_n 2, 1) := by decide +kernel
theorem dX12_parts_168 : decode cX12_parts 168 = .ok (.iaload, 1) := by decide +kernel
theorem dX12_parts_169 : decode cX12_parts 169 = .ok (.iastore, 1) := by decide +kernel
theorem dX12_parts_170 : decode cX12_parts 170 = .ok (.iinc 2 1, 3) := by decide +kernel
theorem dX12_parts_173 : decode cX12_parts 173 = .ok (.goto (-23), 3) := by decide +kernel
theorem dX12_parts_176 : decode cX12_parts 176 = .ok (.goto (-127), 3) := by decide +kernel
theorem dX12_parts_179 : decode cX12_parts 179 = .ok (.return_, 1) := by decide +kernel
theorem dX12_nodeOfClass_0 : decode cX12_nodeOfClass 0 = .ok (.iconst 0, 1) := by decide +kernel
theorem dX12_nodeOfClass_1 : decode cX12_nodeOfClass 1 = .ok (.istore_n 2, 1) := by decide +kernel
theorem dX12_nodeOfClass_2 : decode cX12_nodeOfClass 2 = .ok (.aload_n 0, 1) := by decide +kernel
theorem dX12_nodeOfClass_3 : decode cX12_nodeOfClass 3 = .ok (.getfield 65, 3) := by decide +kernel
theorem dX12_nodeOfClass_6 : decode cX12_nodeOfClass 6 = .ok (.iload_n 2, 1) := by decide +kernel
theorem dX12_nodeOfClass_7 : decode cX12_nodeOfClass 7 = .ok (.iaload, 1) := by decide +kernel
theorem dX12_nodeOfClass_8 : decode cX12_nodeOfClass 8 = .ok (.iload_n 1, 1) := by decide +kernel
theorem dX12_nodeOfClass_9 : decode cX12_nodeOfClass 9 = .ok (.if_icmp .eq 9, 3) := by decide +kernel
theorem dX12_nodeOfClass_12 : decode cX12_nodeOfClass 12 = .ok (.iinc 2 1, 3) := by decide +kernel
theorem dX12_nodeOfClass_15 : decode cX12_nodeOfClass 15 = .ok (.goto (-13), 3) := by decide +kernel
theorem dX12_nodeOfClass_18 : decode cX12_nodeOfClass 18 = .ok (.iload_n 2, 1) := by decide +kernel
theorem dX12_nodeOfClass_19 : decode cX12_nodeOfClass 19 = .ok (.ireturn, 1) := by decide +kernel
theorem dX12_stores_0 : decode cX12_stores 0 = .ok (.aload_n 0, 1) := by decide +kernel
theorem dX12_stores_1 : decode cX12_stores 1 = .ok (.getfield 222, 3) := by decide +kernel
theorem dX12_stores_4 : decode cX12_stores 4 = .ok (.istore_n 2, 1) := by decide +kernel
theorem dX12_stores_5 : decode cX12_stores 5 = .ok (.iconst 0, 1) := by decide +kernel
theorem dX12_stores_6 : decode cX12_stores 6 = .ok (.istore_n 3, 1) := by decide +kernel
theorem dX12_stores_7 : decode cX12_stores 7 = .ok (.iload_n 3, 1) := by decide +kernel
theorem dX12_stores_8 : decode cX12_stores 8 = .ok (.iload_n 2, 1) := by decide +kernel
theorem dX12_stores_9 : decode cX12_stores 9 = .ok (.if_icmp .ge 78, 3) := by decide +kernel
theorem dX12_stores_12 : decode cX12_stores 12 = .ok (.aload_n 0, 1) := by decide +kernel
theorem dX12_stores_13 : decode cX12_stores 13 = .ok (.iload_n 3, 1) := by decide +kernel
theorem dX12_stores_14 : decode cX12_stores 14 = .ok (.invokevirtual 228, 3) := by decide +kernel
theorem dX12_stores_17 : decode cX12_stores 17 = .ok (.istore 4, 2) := by decide +kernel
theorem dX12_stores_19 : decode cX12_stores 19 = .ok (.aload_n 0, 1) := by decide +kernel
theorem dX12_stores_20 : decode cX12_stores 20 = .ok (.getfield 16, 3) := by decide +kernel
theorem dX12_stores_23 : decode cX12_stores 23 = .ok (.bipush 6, 2) := by decide +kernel
theorem dX12_stores_25 : decode cX12_stores 25 = .ok (.iload_n 1, 1) := by decide +kernel
theorem dX12_stores_26 : decode cX12_stores 26 = .ok (.imul, 1) := by decide +kernel
theorem dX12_stores_27 : decode cX12_stores 27 = .ok (.iload_n 3, 1) := by decide +kernel
theorem dX12_stores_28 : decode cX12_stores 28 = .ok (.iadd, 1) := by decide +kernel
theorem dX12_stores_29 : decode cX12_stores 29 = .ok (.aload_n 0, 1) := by decide +kernel
theorem dX12_stores_30 : decode cX12_stores 30 = .ok (.getfield 56, 3) := by decide +kernel
theorem dX12_stores_33 : decode cX12_stores 33 = .ok (.iload 4, 2) := by decide +kernel
theorem dX12_stores_35 : decode cX12_stores 35 = .ok (.baload, 1) := by decide +kernel
theorem dX12_stores_36 : decode cX12_stores 36 = .ok (.bastore, 1) := by decide +kernel
theorem dX12_stores_37 : decode cX12_stores 37 = .ok (.iconst 0, 1) := by decide +kernel
theorem dX12_stores_38 : decode cX12_stores 38 = .ok (.istore 5, 2) := by decide +kernel
theorem dX12_stores_40 : decode cX12_stores 40 = .ok (.iload 5, 2) := by decide +kernel
theorem dX12_stores_42 : decode cX12_stores 42 = .ok (.iconst 3, 1) := by decide +kernel
theorem dX12_stores_43 : decode cX12_stores 43 = .ok (.if_icmp .ge 38, 3) := by decide +kernel
theorem dX12_stores_46 : decode cX12_stores 46 = .ok (.aload_n 0, 1) := by decide +kernel
theorem dX12_stores_47 : decode cX12_stores 47 = .ok (.getfield 13, 3) := by decide +kernel
theorem dX12_stores_50 : decode cX12_stores 50 = .ok (.iload_n 1, 1) := by decide +kernel
theorem dX12_stores_51 : decode cX12_stores 51 = .ok (.iload_n 3, 1) := by decide +kernel
theorem dX12_stores_52 : decode cX12_stores 52 = .ok (.iload 5, 2) := by decide +kernel
theorem dX12_stores_54 : decode cX12_stores 54 = .ok (.invokestatic 110, 3) := by decide +kernel
theorem dX12_stores_57 : decode cX12_stores 57 = .ok (.aload_n 0, 1) := by decide +kernel
theorem dX12_stores_58 : decode cX12_stores 58 = .ok (.getfield 65, 3) := by decide +kernel
theorem dX12_stores_61 : decode cX12_stores 61 = .ok (.aload_n 0, 1) := by decide +kernel
theorem dX12_stores_62 : decode cX12_stores 62 = .ok (.getfield 53, 3) := by decide +kernel
theorem dX12_stores_65 : decode cX12_stores 65 = .ok (.iconst 3, 1) := by decide +kernel
theorem dX12_stores_66 : decode cX12_stores 66 = .ok (.iload 4, 2) := by decide +kernel
theorem dX12_stores_68 : decode cX12_stores 68 = .ok (.imul, 1) := by decide +kernel
theorem dX12_stores_69 : decode cX12_stores 69 = .ok (.iload 5, 2) := by decide +kernel
theorem dX12_stores_71 : decode cX12_stores 71 = .ok (.iadd, 1) := by decide +kernel
theorem dX12_stores_72 : decode cX12_stores 72 = .ok (.iaload, 1) := by decide +kernel
theorem dX12_stores_73 : decode cX12_stores 73 = .ok (.iaload, 1) := by decide +kernel
theorem dX12_stores_74 : decode cX12_stores 74 = .ok (.iastore, 1) := by decide +kernel
theorem dX12_stores_75 : decode cX12_stores 75 = .ok (.iinc 5 1, 3) := by decide +kernel
theorem dX12_stores_78 : decode cX12_stores 78 = .ok (.goto (-38), 3) := by decide +kernel
theorem dX12_stores_81 : decode cX12_stores 81 = .ok (.iinc 3 1, 3) := by decide +kernel
theorem dX12_stores_84 : decode cX12_stores 84 = .ok (.goto (-77), 3) := by decide +kernel
theorem dX12_stores_87 : decode cX12_stores 87 = .ok (.iload_n 2, 1) := by decide +kernel
theorem dX12_stores_88 : decode cX12_stores 88 = .ok (.istore_n 3, 1) := by decide +kernel
theorem dX12_stores_89 : decode cX12_stores 89 = .ok (.iload_n 3, 1) := by decide +kernel
theorem dX12_stores_90 : decode cX12_stores 90 = .ok (.bipush 6, 2) := by decide +kernel
theorem dX12_stores_92 : decode cX12_stores 92 = .ok (.if_icmp .ge 49, 3) := by decide +kernel
theorem dX12_stores_95 : decode cX12_stores 95 = .ok (.aload_n 0, 1) := by decide +kernel
theorem dX12_stores_96 : decode cX12_stores 96 = .ok (.getfield 16, 3) := by decide +kernel
theorem dX12_stores_99 : decode cX12_stores 99 = .ok (.bipush 6, 2) := by decide +kernel
theorem dX12_stores_101 : decode cX12_stores 101 = .ok (.iload_n 1, 1) := by decide +kernel
theorem dX12_stores_102 : decode cX12_stores 102 = .ok (.imul, 1) := by decide +kernel
theorem dX12_stores_103 : decode cX12_stores 103 = .ok (.iload_n 3, 1) := by decide +kernel
theorem dX12_stores_104 : decode cX12_stores 104 = .ok (.iadd, 1) := by decide +kernel
theorem dX12_stores_105 : decode cX12_stores 105 = .ok (.iconst 0, 1) := by decide +kernel
theorem dX12_stores_106 : decode cX12_stores 106 = .ok (.bastore, 1) := by decide +kernel
theorem dX12_stores_107 : decode cX12_stores 107 = .ok (.iconst 0, 1) := by decide +kernel
theorem dX12_stores_108 : decode cX12_stores 108 = .ok (.istore 4, 2) := by decide +kernel
theorem dX12_stores_110 : decode cX12_stores 110 = .ok (.iload 4, 2) := by decide +kernel
theorem dX12_stores_112 : decode cX12_stores 112 = .ok (.iconst 3, 1) := by decide +kernel
theorem dX12_stores_113 : decode cX12_stores 113 = .ok (.if_icmp .ge 22, 3) := by decide +kernel
theorem dX12_stores_116 : decode cX12_stores 116 = .ok (.aload_n 0, 1) := by decide +kernel
theorem dX12_stores_117 : decode cX12_stores 117 = .ok (.getfield 13, 3) := by decide +kernel
theorem dX12_stores_120 : decode cX12_stores 120 = .ok (.iload_n 1, 1) := by decide +kernel
theorem dX12_stores_121 : decode cX12_stores 121 = .ok (.iload_n 3, 1) := by decide +kernel
theorem dX12_stores_122 : decode cX12_stores 122 = .ok (.iload 4, 2) := by decide +kernel
theorem dX12_stores_124 : decode cX12_stores 124 = .ok (.invokestatic 110, 3) := by decide +kernel
theorem dX12_stores_127 : decode cX12_stores 127 = .ok (.iconst 0, 1) := by decide +kernel
theorem dX12_stores_128 : decode cX12_stores 128 = .ok (.iastore, 1) := by decide +kernel
theorem dX12_stores_129 : decode cX12_stores 129 = .ok (.iinc 4 1, 3) := by decide +kernel
theorem dX12_stores_132 : decode cX12_stores 132 = .ok (.goto (-22), 3) := by decide +kernel
theorem dX12_stores_135 : decode cX12_stores 135 = .ok (.iinc 3 1, 3) := by decide +kernel
theorem dX12_stores_138 : decode cX12_stores 138 = .ok (.goto (-49), 3) := by decide +kernel
theorem dX12_stores_141 : decode cX12_stores 141 = .ok (.aload_n 0, 1) := by decide +kernel
theorem dX12_stores_142 : decode cX12_stores 142 = .ok (.getfield 7, 3) := by decide +kernel
theorem dX12_stores_145 : decode cX12_stores 145 = .ok (.iload_n 1, 1) := by decide +kernel
theorem dX12_stores_146 : decode cX12_stores 146 = .ok (.iload_n 2, 1) := by decide +kernel
theorem dX12_stores_147 : decode cX12_stores 147 = .ok (.iastore, 1) := by decide +kernel
theorem dX12_stores_148 : decode cX12_stores 148 = .ok (.aload_n 0, 1) := by decide +kernel
theorem dX12_stores_149 : decode cX12_stores 149 = .ok (.iload_n 2, 1) := by decide +kernel
theorem dX12_stores_150 : decode cX12_stores 150 = .ok (.invokevirtual 132, 3) := by decide +kernel
theorem dX12_stores_153 : decode cX12_stores 153 = .ok (.ireturn, 1) := by decide +kernel
theorem dX12_size_0 : decode cX12_size 0 = .ok (.iload_n 1, 1) := by decide +kernel
theorem dX12_size_1 : decode cX12_size 1 = .ok (.invokestatic 106, 3) := by decide +kernel
theorem dX12_size_4 : decode cX12_size 4 = .ok (.ifCond .ne 9, 3) := by decide +kernel
theorem dX12_size_7 : decode cX12_size 7 = .ok (.aload_n 0, 1) := by decide +kernel
theorem dX12_size_8 : decode cX12_size 8 = .ok (.iconst 1, 1) := by decide +kernel
theorem dX12_size_9 : decode cX12_size 9 = .ok (.invokevirtual 136, 3) := by decide +kernel
theorem dX12_size_12 : decode cX12_size 12 = .ok (.ireturn, 1) := by decide +kernel
theorem dX12_size_13 : decode cX12_size 13 = .ok (.aload_n 0, 1) := by decide +kernel
theorem dX12_size_14 : decode cX12_size 14 = .ok (.bipush 8, 2) := by decide +kernel
theorem dX12_size_16 : decode cX12_size 16 = .ok (.iload_n 1, 1) := by decide +kernel
theorem dX12_size_17 : decode cX12_size 17 = .ok (.iload_n 1, 1) := by decide +kernel
theorem dX12_size_18 : decode cX12_size 18 = .ok (.invokevirtual 231, 3) := by decide +kernel
theorem dX12_size_21 : decode cX12_size 21 = .ok (.aload_n 0, 1) := by decide +kernel
theorem dX12_size_22 : decode cX12_size 22 = .ok (.aload_n 0, 1) := by decide +kernel
theorem dX12_size_23 : decode cX12_size 23 = .ok (.getfield 222, 3) := by decide +kernel
theorem dX12_size_26 : decode cX12_size 26 = .ok (.invokevirtual 132, 3) := by decide +kernel
theorem dX12_size_29 : decode cX12_size 29 = .ok (.ireturn, 1) := by decide +kernel
theorem dX12_minimize_0 : decode cX12_minimize 0 = .ok (.iload_n 1, 1) := by decide +kernel
theorem dX12_minimize_1 : decode cX12_minimize 1 = .ok (.invokestatic 106, 3) := by decide +kernel
theorem dX12_minimize_4 : decode cX12_minimize 4 = .ok (.ifCond .ne 9, 3) := by decide +kernel
theorem dX12_minimize_7 : decode cX12_minimize 7 = .ok (.aload_n 0, 1) := by decide +kernel
theorem dX12_minimize_8 : decode cX12_minimize 8 = .ok (.iconst 1, 1) := by decide +kernel
theorem dX12_minimize_9 : decode cX12_minimize 9 = .ok (.invokevirtual 136, 3) := by decide +kernel
theorem dX12_minimize_12 : decode cX12_minimize 12 = .ok (.ireturn, 1) := by decide +kernel
theorem dX12_minimize_13 : decode cX12_minimize 13 = .ok (.aload_n 0, 1) := by decide +kernel
theorem dX12_minimize_14 : decode cX12_minimize 14 = .ok (.bipush 8, 2) := by decide +kernel
theorem dX12_minimize_16 : decode cX12_minimize 16 = .ok (.iload_n 1, 1) := by decide +kernel
theorem dX12_minimize_17 : decode cX12_minimize 17 = .ok (.iload_n 1, 1) := by decide +kernel
theorem dX12_minimize_18 : decode cX12_minimize 18 = .ok (.invokevirtual 231, 3) := by decide +kernel
theorem dX12_minimize_21 : decode cX12_minimize 21 = .ok (.aload_n 0, 1) := by decide +kernel
theorem dX12_minimize_22 : decode cX12_minimize 22 = .ok (.iload_n 1, 1) := by decide +kernel
theorem dX12_minimize_23 : decode cX12_minimize 23 = .ok (.invokevirtual 235, 3) := by decide +kernel
theorem dX12_minimize_26 : decode cX12_minimize 26 = .ok (.ireturn, 1) := by decide +kernel
theorem dX12_quotientOfWord_0 : decode cX12_quotientOfWord 0 = .ok (.iload_n 1, 1) := by decide +kernel
theorem dX12_quotientOfWord_1 : decode cX12_quotientOfWord 1 = .ok (.invokestatic 106, 3) := by decide +kernel
theorem dX12_quotientOfWord_4 : decode cX12_quotientOfWord 4 = .ok (.ifCond .ne 9, 3) := by decide +kernel
theorem dX12_quotientOfWord_7 : decode cX12_quotientOfWord 7 = .ok (.aload_n 0, 1) := by decide +kernel
theorem dX12_quotientOfWord_8 : decode cX12_quotientOfWord 8 = .ok (.iconst 1, 1) := by decide +kernel
theorem dX12_quotientOfWord_9 : decode cX12_quotientOfWord 9 = .ok (.invokevirtual 136, 3) := by decide +kernel
theorem dX12_quotientOfWord_12 : decode cX12_quotientOfWord 12 = .ok (.ireturn, 1) := by decide +kernel
theorem dX12_quotientOfWord_13 : decode cX12_quotientOfWord 13 = .ok (.aload_n 0, 1) := by decide +kernel
theorem dX12_quotientOfWord_14 : decode cX12_quotientOfWord 14 = .ok (.bipush 8, 2) := by decide +kernel
theorem dX12_quotientOfWord_16 : decode cX12_quotientOfWord 16 = .ok (.iload_n 1, 1) := by decide +kernel
theorem dX12_quotientOfWord_17 : decode cX12_quotientOfWord 17 = .ok (.iload_n 1, 1) := by decide +kernel
theorem dX12_quotientOfWord_18 : decode cX12_quotientOfWord 18 = .ok (.invokevirtual 231, 3) := by decide +kernel
theorem dX12_quotientOfWord_21 : decode cX12_quotientOfWord 21 = .ok (.iconst 0, 1) := by decide +kernel
theorem dX12_quotientOfWord_22 : decode cX12_quotientOfWord 22 = .ok (.istore_n 2, 1) := by decide +kernel
theorem dX12_quotientOfWord_23 : decode cX12_quotientOfWord 23 = .ok (.iconst 0, 1) := by decide +kernel
theorem dX12_quotientOfWord_24 : decode cX12_quotientOfWord 24 = .ok (.istore_n 3, 1) := by decide +kernel
theorem dX12_quotientOfWord_25 : decode cX12_quotientOfWord 25 = .ok (.iload_n 3, 1) := by decide +kernel
theorem dX12_quotientOfWord_26 : decode cX12_quotientOfWord 26 = .ok (.aload_n 0, 1) := by decide +kernel
theorem dX12_quotientOfWord_27 : decode cX12_quotientOfWord 27 = .ok (.getfield 146, 3) := by decide +kernel
theorem dX12_quotientOfWord_30 : decode cX12_quotientOfWord 30 = .ok (.if_icmp .ge 25, 3) := by decide +kernel
theorem dX12_quotientOfWord_33 : decode cX12_quotientOfWord 33 = .ok (.aload_n 0, 1) := by decide +kernel
theorem dX12_quotientOfWord_34 : decode cX12_quotientOfWord 34 = .ok (.getfield 53, 3) := by decide +kernel
theorem dX12_quotientOfWord_37 : decode cX12_quotientOfWord 37 = .ok (.iconst 3, 1) := by decide +kernel
theorem dX12_quotientOfWord_38 : decode cX12_quotientOfWord 38 = .ok (.iload_n 2, 1) := by decide +kernel
theorem dX12_quotientOfWord_39 : decode cX12_quotientOfWord 39 = .ok (.imul, 1) := by decide +kernel
theorem dX12_quotientOfWord_40 : decode cX12_quotientOfWord 40 = .ok (.aload_n 0, 1) := by decide +kernel
theorem dX12_quotientOfWord_41 : decode cX12_quotientOfWord 41 = .ok (.getfield 20, 3) := by decide +kernel
theorem dX12_quotientOfWord_44 : decode cX12_quotientOfWord 44 = .ok (.iload_n 3, 1) := by decide +kernel
theorem dX12_quotientOfWord_45 : decode cX12_quotientOfWord 45 = .ok (.iaload, 1) := by decide +kernel
theorem dX12_quotientOfWord_46 : decode cX12_quotientOfWord 46 = .ok (.iadd, 1) := by decide +kernel
theorem dX12_quotientOfWord_47 : decode cX12_quotientOfWord 47 = .ok (.iaload, 1) := by decide +kernel
theorem dX12_quotientOfWord_48 : decode cX12_quotientOfWord 48 = .ok (.istore_n 2, 1) := by decide +kernel
theorem dX12_quotientOfWord_49 : decode cX12_quotientOfWord 49 = .ok (.iinc 3 1, 3) := by decide +kernel
theorem dX12_quotientOfWord_52 : decode cX12_quotientOfWord 52 = .ok (.goto (-27), 3) := by decide +kernel
theorem dX12_quotientOfWord_55 : decode cX12_quotientOfWord 55 = .ok (.aload_n 0, 1) := by decide +kernel
theorem dX12_quotientOfWord_56 : decode cX12_quotientOfWord 56 = .ok (.aload_n 0, 1) := by decide +kernel
theorem dX12_quotientOfWord_57 : decode cX12_quotientOfWord 57 = .ok (.getfield 65, 3) := by decide +kernel
theorem dX12_quotientOfWord_60 : decode cX12_quotientOfWord 60 = .ok (.iload_n 2, 1) := by decide +kernel
theorem dX12_quotientOfWord_61 : decode cX12_quotientOfWord 61 = .ok (.iaload, 1) := by decide +kernel
theorem dX12_quotientOfWord_62 : decode cX12_quotientOfWord 62 = .ok (.invokevirtual 132, 3) := by decide +kernel
theorem dX12_quotientOfWord_65 : decode cX12_quotientOfWord 65 = .ok (.ireturn, 1) := by decide +kernel
theorem dX12_tellAtoms_0 : decode cX12_tellAtoms 0 = .ok (.aload_n 0, 1) := by decide +kernel
theorem dX12_tellAtoms_1 : decode cX12_tellAtoms 1 = .ok (.bipush 8, 2) := by decide +kernel
theorem dX12_tellAtoms_3 : decode cX12_tellAtoms 3 = .ok (.iload_n 1, 1) := by decide +kernel
theorem dX12_tellAtoms_4 : decode cX12_tellAtoms 4 = .ok (.iload_n 1, 1) := by decide +kernel
theorem dX12_tellAtoms_5 : decode cX12_tellAtoms 5 = .ok (.invokevirtual 231, 3) := by decide +kernel
theorem dX12_tellAtoms_8 : decode cX12_tellAtoms 8 = .ok (.aload_n 0, 1) := by decide +kernel
theorem dX12_tellAtoms_9 : decode cX12_tellAtoms 9 = .ok (.aload_n 0, 1) := by decide +kernel
theorem dX12_tellAtoms_10 : decode cX12_tellAtoms 10 = .ok (.getfield 222, 3) := by decide +kernel
theorem dX12_tellAtoms_13 : decode cX12_tellAtoms 13 = .ok (.putfield 238, 3) := by decide +kernel
theorem dX12_tellAtoms_16 : decode cX12_tellAtoms 16 = .ok (.iconst 0, 1) := by decide +kernel
theorem dX12_tellAtoms_17 : decode cX12_tellAtoms 17 = .ok (.istore_n 2, 1) := by decide +kernel
theorem dX12_tellAtoms_18 : decode cX12_tellAtoms 18 = .ok (.iload_n 2, 1) := by decide +kernel
theorem dX12_tellAtoms_19 : decode cX12_tellAtoms 19 = .ok (.aload_n 0, 1) := by decide +kernel
theorem dX12_tellAtoms_20 : decode cX12_tellAtoms 20 = .ok (.getfield 238, 3) := by decide +kernel
theorem dX12_tellAtoms_23 : decode cX12_tellAtoms 23 = .ok (.if_icmp .ge 26, 3) := by decide +kernel
theorem dX12_tellAtoms_26 : decode cX12_tellAtoms 26 = .ok (.aload_n 0, 1) := by decide +kernel
theorem dX12_tellAtoms_27 : decode cX12_tellAtoms 27 = .ok (.getfield 71, 3) := by decide +kernel
theorem dX12_tellAtoms_30 : decode cX12_tellAtoms 30 = .ok (.iload_n 2, 1) := by decide +kernel
theorem dX12_tellAtoms_31 : decode cX12_tellAtoms 31 = .ok (.aload_n 0, 1) := by decide +kernel
theorem dX12_tellAtoms_32 : decode cX12_tellAtoms 32 = .ok (.getfield 49, 3) := by decide +kernel
theorem dX12_tellAtoms_35 : decode cX12_tellAtoms 35 = .ok (.aload_n 0, 1) := by decide +kernel
theorem dX12_tellAtoms_36 : decode cX12_tellAtoms 36 = .ok (.iload_n 2, 1) := by decide +kernel
theorem dX12_tellAtoms_37 : decode cX12_tellAtoms 37 = .ok (.invokevirtual 228, 3) := by decide +kernel
theorem dX12_tellAtoms_40 : decode cX12_tellAtoms 40 = .ok (.laload, 1) := by decide +kernel
theorem dX12_tellAtoms_41 : decode cX12_tellAtoms 41 = .ok (.l2i, 1) := by decide +kernel
theorem dX12_tellAtoms_42 : decode cX12_tellAtoms 42 = .ok (.iastore, 1) := by decide +kernel
theorem dX12_tellAtoms_43 : decode cX12_tellAtoms 43 = .ok (.iinc 2 1, 3) := by decide +kernel
theorem dX12_tellAtoms_46 : decode cX12_tellAtoms 46 = .ok (.goto (-28), 3) := by decide +kernel
theorem dX12_tellAtoms_49 : decode cX12_tellAtoms 49 = .ok (.aload_n 0, 1) := by decide +kernel
theorem dX12_tellAtoms_50 : decode cX12_tellAtoms 50 = .ok (.bipush 6, 2) := by decide +kernel
theorem dX12_tellAtoms_52 : decode cX12_tellAtoms 52 = .ok (.iload_n 1, 1) := by decide +kernel
theorem dX12_tellAtoms_53 : decode cX12_tellAtoms 53 = .ok (.iload_n 1, 1) := by decide +kernel
theorem dX12_tellAtoms_54 : decode cX12_tellAtoms 54 = .ok (.invokevirtual 231, 3) := by decide +kernel
theorem dX12_tellAtoms_57 : decode cX12_tellAtoms 57 = .ok (.iconst 0, 1) := by decide +kernel
theorem dX12_tellAtoms_58 : decode cX12_tellAtoms 58 = .ok (.istore_n 2, 1) := by decide +kernel
theorem dX12_tellAtoms_59 : decode cX12_tellAtoms 59 = .ok (.iload_n 2, 1) := by decide +kernel
theorem dX12_tellAtoms_60 : decode cX12_tellAtoms 60 = .ok (.bipush 64, 2) := by decide +kernel
theorem dX12_tellAtoms_62 : decode cX12_tellAtoms 62 = .ok (.if_icmp .ge 16, 3) := by decide +kernel
theorem dX12_tellAtoms_65 : decode cX12_tellAtoms 65 = .ok (.aload_n 0, 1) := by decide +kernel
theorem dX12_tellAtoms_66 : decode cX12_tellAtoms 66 = .ok (.getfield 77, 3) := by decide +kernel
theorem dX12_tellAtoms_69 : decode cX12_tellAtoms 69 = .ok (.iload_n 2, 1) := by decide +kernel
theorem dX12_tellAtoms_70 : decode cX12_tellAtoms 70 = .ok (.iconst 0, 1) := by decide +kernel
theorem dX12_tellAtoms_71 : decode cX12_tellAtoms 71 = .ok (.bastore, 1) := by decide +kernel
theorem dX12_tellAtoms_72 : decode cX12_tellAtoms 72 = .ok (.iinc 2 1, 3) := by decide +kernel
theorem dX12_tellAtoms_75 : decode cX12_tellAtoms 75 = .ok (.goto (-16), 3) := by decide +kernel
theorem dX12_tellAtoms_78 : decode cX12_tellAtoms 78 = .ok (.iconst 0, 1) := by decide +kernel
theorem dX12_tellAtoms_79 : decode cX12_tellAtoms 79 = .ok (.istore_n 2, 1) := by decide +kernel
theorem dX12_tellAtoms_80 : decode cX12_tellAtoms 80 = .ok (.iload_n 2, 1) := by decide +kernel
theorem dX12_tellAtoms_81 : decode cX12_tellAtoms 81 = .ok (.aload_n 0, 1) := by decide +kernel
theorem dX12_tellAtoms_82 : decode cX12_tellAtoms 82 = .ok (.getfield 153, 3) := by decide +kernel
theorem dX12_tellAtoms_85 : decode cX12_tellAtoms 85 = .ok (.if_icmp .ge 25, 3) := by decide +kernel
theorem dX12_tellAtoms_88 : decode cX12_tellAtoms 88 = .ok (.aload_n 0, 1) := by decide +kernel
theorem dX12_tellAtoms_89 : decode cX12_tellAtoms 89 = .ok (.getfield 77, 3) := by decide +kernel
theorem dX12_tellAtoms_92 : decode cX12_tellAtoms 92 = .ok (.aload_n 0, 1) := by decide +kernel
theorem dX12_tellAtoms_93 : decode cX12_tellAtoms 93 = .ok (.aload_n 0, 1) := by decide +kernel
theorem dX12_tellAtoms_94 : decode cX12_tellAtoms 94 = .ok (.getfield 49, 3) := by decide +kernel
theorem dX12_tellAtoms_97 : decode cX12_tellAtoms 97 = .ok (.iload_n 2, 1) := by decide +kernel
theorem dX12_tellAtoms_98 : decode cX12_tellAtoms 98 = .ok (.laload, 1) := by decide +kernel
theorem dX12_tellAtoms_99 : decode cX12_tellAtoms 99 = .ok (.invokevirtual 241, 3) := by decide +kernel
theorem dX12_tellAtoms_102 : decode cX12_tellAtoms 102 = .ok (.iconst 1, 1) := by decide +kernel
theorem dX12_tellAtoms_103 : decode cX12_tellAtoms 103 = .ok (.bastore, 1) := by decide +kernel
theorem dX12_tellAtoms_104 : decode cX12_tellAtoms 104 = .ok (.iinc 2 1, 3) := by decide +kernel
theorem dX12_tellAtoms_107 : decode cX12_tellAtoms 107 = .ok (.goto (-27), 3) := by decide +kernel
theorem dX12_tellAtoms_110 : decode cX12_tellAtoms 110 = .ok (.aload_n 0, 1) := by decide +kernel
theorem dX12_tellAtoms_111 : decode cX12_tellAtoms 111 = .ok (.iconst 0, 1) := by decide +kernel
theorem dX12_tellAtoms_112 : decode cX12_tellAtoms 112 = .ok (.putfield 195, 3) := by decide +kernel
theorem dX12_tellAtoms_115 : decode cX12_tellAtoms 115 = .ok (.iconst 0, 1) := by decide +kernel
theorem dX12_tellAtoms_116 : decode cX12_tellAtoms 116 = .ok (.istore_n 2, 1) := by decide +kernel
theorem dX12_tellAtoms_117 : decode cX12_tellAtoms 117 = .ok (.iload_n 2, 1) := by decide +kernel
theorem dX12_tellAtoms_118 : decode cX12_tellAtoms 118 = .ok (.bipush 64, 2) := by decide +kernel
theorem dX12_tellAtoms_120 : decode cX12_tellAtoms 120 = .ok (.if_icmp .ge 38, 3) := by decide +kernel
theorem dX12_tellAtoms_123 : decode cX12_tellAtoms 123 = .ok (.aload_n 0, 1) := by decide +kernel
theorem dX12_tellAtoms_124 : decode cX12_tellAtoms 124 = .ok (.getfield 77, 3) := by decide +kernel
theorem dX12_tellAtoms_127 : decode cX12_tellAtoms 127 = .ok (.iload_n 2, 1) := by decide +kernel
theorem dX12_tellAtoms_128 : decode cX12_tellAtoms 128 = .ok (.baload, 1) := by decide +kernel
theorem dX12_tellAtoms_129 : decode cX12_tellAtoms 129 = .ok (.ifCond .eq 23, 3) := by decide +kernel
theorem dX12_tellAtoms_132 : decode cX12_tellAtoms 132 = .ok (.aload_n 0, 1) := by decide +kernel
theorem dX12_tellAtoms_133 : decode cX12_tellAtoms 133 = .ok (.getfield 74, 3) := by decide +kernel
theorem dX12_tellAtoms_136 : decode cX12_tellAtoms 136 = .ok (.aload_n 0, 1) := by decide +kernel
theorem dX12_tellAtoms_137 : decode cX12_tellAtoms 137 = .ok (.getfield 195, 3) := by decide +kernel
theorem dX12_tellAtoms_140 : decode cX12_tellAtoms 140 = .ok (.iload_n 2, 1) := by decide +kernel
theorem dX12_tellAtoms_141 : decode cX12_tellAtoms 141 = .ok (.iastore, 1) := by decide +kernel
theorem dX12_tellAtoms_142 : decode cX12_tellAtoms 142 = .ok (.aload_n 0, 1) := by decide +kernel
theorem dX12_tellAtoms_143 : decode cX12_tellAtoms 143 = .ok (.dup, 1) := by decide +kernel
theorem dX12_tellAtoms_144 : decode cX12_tellAtoms 144 = .ok (.getfield 195, 3) := by decide +kernel
theorem dX12_tellAtoms_147 : decode cX12_tellAtoms 147 = .ok (.iconst 1, 1) := by decide +kernel
theorem dX12_tellAtoms_148 : decode cX12_tellAtoms 148 = .ok (.iadd, 1) := by decide +kernel
theorem dX12_tellAtoms_149 : decode cX12_tellAtoms 149 = .ok (.putfield 195, 3) := by decide +kernel
theorem dX12_tellAtoms_152 : decode cX12_tellAtoms 152 = .ok (.iinc 2 1, 3) := by decide +kernel
theorem dX12_tellAtoms_155 : decode cX12_tellAtoms 155 = .ok (.goto (-38), 3) := by decide +kernel
theorem dX12_tellAtoms_158 : decode cX12_tellAtoms 158 = .ok (.return_, 1) := by decide +kernel
theorem dX12_ofStates_0 : decode cX12_ofStates 0 = .ok (.iconst 0, 1) := by decide +kernel
theorem dX12_ofStates_1 : decode cX12_ofStates 1 = .ok (.istore_n 3, 1) := by decide +kernel
theorem dX12_ofStates_2 : decode cX12_ofStates 2 = .ok (.iconst 0, 1) := by decide +kernel
theorem dX12_ofStates_3 : decode cX12_ofStates 3 = .ok (.istore 4, 2) := by decide +kernel
theorem dX12_ofStates_5 : decode cX12_ofStates 5 = .ok (.iload 4, 2) := by decide +kernel
theorem dX12_ofStates_7 : decode cX12_ofStates 7 = .ok (.aload_n 0, 1) := by decide +kernel
theorem dX12_ofStates_8 : decode cX12_ofStates 8 = .ok (.getfield 238, 3) := by decide +kernel
theorem dX12_ofStates_11 : decode cX12_ofStates 11 = .ok (.if_icmp .ge 36, 3) := by decide +kernel
theorem dX12_ofStates_14 : decode cX12_ofStates 14 = .ok (.iload_n 3, 1) := by decide +kernel
theorem dX12_ofStates_15 : decode cX12_ofStates 15 = .ok (.lload_n 1, 1) := by decide +kernel
theorem dX12_ofStates_16 : decode cX12_ofStates 16 = .ok (.aload_n 0, 1) := by decide +kernel
theorem dX12_ofStates_17 : decode cX12_ofStates 17 = .ok (.getfield 71, 3) := by decide +kernel
theorem dX12_ofStates_20 : decode cX12_ofStates 20 = .ok (.iload 4, 2) := by decide +kernel
theorem dX12_ofStates_22 : decode cX12_ofStates 22 = .ok (.iaload, 1) := by decide +kernel
theorem dX12_ofStates_23 : decode cX12_ofStates 23 = .ok (.lshr, 1) := by decide +kernel
theorem dX12_ofStates_24 : decode cX12_ofStates 24 = .ok (.lconst 1, 1) := by decide +kernel
theorem dX12_ofStates_25 : decode cX12_ofStates 25 = .ok (.land, 1) := by decide +kernel
theorem dX12_ofStates_26 : decode cX12_ofStates 26 = .ok (.lconst 1, 1) := by decide +kernel
theorem dX12_ofStates_27 : decode cX12_ofStates 27 = .ok (.lcmp, 1) := by decide +kernel
theorem dX12_ofStates_28 : decode cX12_ofStates 28 = .ok (.ifCond .ne 10, 3) := by decide +kernel
theorem dX12_ofStates_31 : decode cX12_ofStates 31 = .ok (.iconst 1, 1) := by decide +kernel
theorem dX12_ofStates_32 : decode cX12_ofStates 32 = .ok (.iload 4, 2) := by decide +kernel
theorem dX12_ofStates_34 : decode cX12_ofStates 34 = .ok (.ishl, 1) := by decide +kernel
theorem dX12_ofStates_35 : decode cX12_ofStates 35 = .ok (.goto 4, 3) := by decide +kernel
theorem dX12_ofStates_38 : decode cX12_ofStates 38 = .ok (.iconst 0, 1) := by decide +kernel
theorem dX12_ofStates_39 : decode cX12_ofStates 39 = .ok (.ior, 1) := by decide +kernel
theorem dX12_ofStates_40 : decode cX12_ofStates 40 = .ok (.istore_n 3, 1) := by decide +kernel
theorem dX12_ofStates_41 : decode cX12_ofStates 41 = .ok (.iinc 4 1, 3) := by decide +kernel
theorem dX12_ofStates_44 : decode cX12_ofStates 44 = .ok (.goto (-39), 3) := by decide +kernel
theorem dX12_ofStates_47 : decode cX12_ofStates 47 = .ok (.iload_n 3, 1) := by decide +kernel
theorem dX12_ofStates_48 : decode cX12_ofStates 48 = .ok (.ireturn, 1) := by decide +kernel
theorem dX12_numberOf_0 : decode cX12_numberOf 0 = .ok (.iconst 0, 1) := by decide +kernel
theorem dX12_numberOf_1 : decode cX12_numberOf 1 = .ok (.istore_n 2, 1) := by decide +kernel
theorem dX12_numberOf_2 : decode cX12_numberOf 2 = .ok (.iload_n 2, 1) := by decide +kernel
theorem dX12_numberOf_3 : decode cX12_numberOf 3 = .ok (.aload_n 0, 1) := by decide +kernel
theorem dX12_numberOf_4 : decode cX12_numberOf 4 = .ok (.getfield 195, 3) := by decide +kernel
theorem dX12_numberOf_7 : decode cX12_numberOf 7 = .ok (.if_icmp .ge 19, 3) := by decide +kernel
theorem dX12_numberOf_10 : decode cX12_numberOf 10 = .ok (.aload_n 0, 1) := by decide +kernel
theorem dX12_numberOf_11 : decode cX12_numberOf 11 = .ok (.getfield 74, 3) := by decide +kernel
theorem dX12_numberOf_14 : decode cX12_numberOf 14 = .ok (.iload_n 2, 1) := by decide +kernel
theorem dX12_numberOf_15 : decode cX12_numberOf 15 = .ok (.iaload, 1) := by decide +kernel
theorem dX12_numberOf_16 : decode cX12_numberOf 16 = .ok (.iload_n 1, 1) := by decide +kernel
theorem dX12_numberOf_17 : decode cX12_numberOf 17 = .ok (.if_icmp .eq 9, 3) := by decide +kernel
theorem dX12_numberOf_20 : decode cX12_numberOf 20 = .ok (.iinc 2 1, 3) := by decide +kernel
theorem dX12_numberOf_23 : decode cX12_numberOf 23 = .ok (.goto (-21), 3) := by decide +kernel
theorem dX12_numberOf_26 : decode cX12_numberOf 26 = .ok (.iload_n 2, 1) := by decide +kernel
theorem dX12_numberOf_27 : decode cX12_numberOf 27 = .ok (.ireturn, 1) := by decide +kernel
theorem dX12_isAtom_0 : decode cX12_isAtom 0 = .ok (.iload_n 1, 1) := by decide +kernel
theorem dX12_isAtom_1 : decode cX12_isAtom 1 = .ok (.iconst 0, 1) := by decide +kernel
theorem dX12_isAtom_2 : decode cX12_isAtom 2 = .ok (.aload_n 0, 1) := by decide +kernel
theorem dX12_isAtom_3 : decode cX12_isAtom 3 = .ok (.getfield 195, 3) := by decide +kernel
theorem dX12_isAtom_6 : decode cX12_isAtom 6 = .ok (.iconst 1, 1) := by decide +kernel
theorem dX12_isAtom_7 : decode cX12_isAtom 7 = .ok (.isub, 1) := by decide +kernel
theorem dX12_isAtom_8 : decode cX12_isAtom 8 = .ok (.invokestatic 102, 3) := by decide +kernel
theorem dX12_isAtom_11 : decode cX12_isAtom 11 = .ok (.ireturn, 1) := by decide +kernel
theorem dX12_atomCount_0 : decode cX12_atomCount 0 = .ok (.iload_n 1, 1) := by decide +kernel
theorem dX12_atomCount_1 : decode cX12_atomCount 1 = .ok (.invokestatic 106, 3) := by decide +kernel
theorem dX12_atomCount_4 : decode cX12_atomCount 4 = .ok (.ifCond .ne 9, 3) := by decide +kernel
theorem dX12_atomCount_7 : decode cX12_atomCount 7 = .ok (.aload_n 0, 1) := by decide +kernel
theorem dX12_atomCount_8 : decode cX12_atomCount 8 = .ok (.iconst 1, 1) := by decide +kernel
theorem dX12_atomCount_9 : decode cX12_atomCount 9 = .ok (.invokevirtual 136, 3) := by decide +kernel
theorem dX12_atomCount_12 : decode cX12_atomCount 12 = .ok (.ireturn, 1) := by decide +kernel
theorem dX12_atomCount_13 : decode cX12_atomCount 13 = .ok (.aload_n 0, 1) := by decide +kernel
theorem dX12_atomCount_14 : decode cX12_atomCount 14 = .ok (.iload_n 1, 1) := by decide +kernel
theorem dX12_atomCount_15 : decode cX12_atomCount 15 = .ok (.invokevirtual 244, 3) := by decide +kernel
theorem dX12_atomCount_18 : decode cX12_atomCount 18 = .ok (.aload_n 0, 1) := by decide +kernel
theorem dX12_atomCount_19 : decode cX12_atomCount 19 = .ok (.aload_n 0, 1) := by decide +kernel
theorem dX12_atomCount_20 : decode cX12_atomCount 20 = .ok (.getfield 195, 3) := by decide +kernel
theorem dX12_atomCount_23 : decode cX12_atomCount 23 = .ok (.invokevirtual 132, 3) := by decide +kernel
theorem dX12_atomCount_26 : decode cX12_atomCount 26 = .ok (.ireturn, 1) := by decide +kernel
theorem dX12_atomSet_0 : decode cX12_atomSet 0 = .ok (.iload_n 1, 1) := by decide +kernel
theorem dX12_atomSet_1 : decode cX12_atomSet 1 = .ok (.invokestatic 106, 3) := by decide +kernel
theorem dX12_atomSet_4 : decode cX12_atomSet 4 = .ok (.ifCond .ne 9, 3) := by decide +kernel
theorem dX12_atomSet_7 : decode cX12_atomSet 7 = .ok (.aload_n 0, 1) := by decide +kernel
theorem dX12_atomSet_8 : decode cX12_atomSet 8 = .ok (.iconst 1, 1) := by decide +kernel
theorem dX12_atomSet_9 : decode cX12_atomSet 9 = .ok (.invokevirtual 136, 3) := by decide +kernel
theorem dX12_atomSet_12 : decode cX12_atomSet 12 = .ok (.ireturn, 1) := by decide +kernel
theorem dX12_atomSet_13 : decode cX12_atomSet 13 = .ok (.aload_n 0, 1) := by decide +kernel
theorem dX12_atomSet_14 : decode cX12_atomSet 14 = .ok (.iload_n 1, 1) := by decide +kernel
theorem dX12_atomSet_15 : decode cX12_atomSet 15 = .ok (.invokevirtual 244, 3) := by decide +kernel
theorem dX12_atomSet_18 : decode cX12_atomSet 18 = .ok (.aload_n 0, 1) := by decide +kernel
theorem dX12_atomSet_19 : decode cX12_atomSet 19 = .ok (.iload_n 2, 1) := by decide +kernel
theorem dX12_atomSet_20 : decode cX12_atomSet 20 = .ok (.invokevirtual 248, 3) := by decide +kernel
theorem dX12_atomSet_23 : decode cX12_atomSet 23 = .ok (.ifCond .eq 16, 3) := by decide +kernel
theorem dX12_atomSet_26 : decode cX12_atomSet 26 = .ok (.aload_n 0, 1) := by decide +kernel
theorem dX12_atomSet_27 : decode cX12_atomSet 27 = .ok (.aload_n 0, 1) := by decide +kernel
theorem dX12_atomSet_28 : decode cX12_atomSet 28 = .ok (.getfield 74, 3) := by decide +kernel
theorem dX12_atomSet_31 : decode cX12_atomSet 31 = .ok (.iload_n 2, 1) := by decide +kernel
theorem dX12_atomSet_32 : decode cX12_atomSet 32 = .ok (.iaload, 1) := by decide +kernel
theorem dX12_atomSet_33 : decode cX12_atomSet 33 = .ok (.invokevirtual 132, 3) := by decide +kernel
theorem dX12_atomSet_36 : decode cX12_atomSet 36 = .ok (.goto 8, 3) := by decide +kernel
theorem dX12_atomSet_39 : decode cX12_atomSet 39 = .ok (.aload_n 0, 1) := by decide +kernel
theorem dX12_atomSet_40 : decode cX12_atomSet 40 = .ok (.iconst 1, 1) := by decide +kernel
theorem dX12_atomSet_41 : decode cX12_atomSet 41 = .ok (.invokevirtual 136, 3) := by decide +kernel
theorem dX12_atomSet_44 : decode cX12_atomSet 44 = .ok (.ireturn, 1) := by decide +kernel
theorem dX12_atomOfWord_0 : decode cX12_atomOfWord 0 = .ok (.iload_n 1, 1) := by decide +kernel
theorem dX12_atomOfWord_1 : decode cX12_atomOfWord 1 = .ok (.invokestatic 106, 3) := by decide +kernel
theorem dX12_atomOfWord_4 : decode cX12_atomOfWord 4 = .ok (.ifCond .ne 9, 3) := by decide +kernel
theorem dX12_atomOfWord_7 : decode cX12_atomOfWord 7 = .ok (.aload_n 0, 1) := by decide +kernel
theorem dX12_atomOfWord_8 : decode cX12_atomOfWord 8 = .ok (.iconst 1, 1) := by decide +kernel
theorem dX12_atomOfWord_9 : decode cX12_atomOfWord 9 = .ok (.invokevirtual 136, 3) := by decide +kernel
theorem dX12_atomOfWord_12 : decode cX12_atomOfWord 12 = .ok (.ireturn, 1) := by decide +kernel
theorem dX12_atomOfWord_13 : decode cX12_atomOfWord 13 = .ok (.aload_n 0, 1) := by decide +kernel
theorem dX12_atomOfWord_14 : decode cX12_atomOfWord 14 = .ok (.iload_n 1, 1) := by decide +kernel
theorem dX12_atomOfWord_15 : decode cX12_atomOfWord 15 = .ok (.invokevirtual 244, 3) := by decide +kernel
theorem dX12_atomOfWord_18 : decode cX12_atomOfWord 18 = .ok (.iconst 0, 1) := by decide +kernel
theorem dX12_atomOfWord_19 : decode cX12_atomOfWord 19 = .ok (.istore_n 2, 1) := by decide +kernel
theorem dX12_atomOfWord_20 : decode cX12_atomOfWord 20 = .ok (.iconst 0, 1) := by decide +kernel
theorem dX12_atomOfWord_21 : decode cX12_atomOfWord 21 = .ok (.istore_n 3, 1) := by decide +kernel
theorem dX12_atomOfWord_22 : decode cX12_atomOfWord 22 = .ok (.iload_n 3, 1) := by decide +kernel
theorem dX12_atomOfWord_23 : decode cX12_atomOfWord 23 = .ok (.aload_n 0, 1) := by decide +kernel
theorem dX12_atomOfWord_24 : decode cX12_atomOfWord 24 = .ok (.getfield 238, 3) := by decide +kernel
theorem dX12_atomOfWord_27 : decode cX12_atomOfWord 27 = .ok (.if_icmp .ge 43, 3) := by decide +kernel
theorem dX12_atomOfWord_30 : decode cX12_atomOfWord 30 = .ok (.iload_n 2, 1) := by decide +kernel
theorem dX12_atomOfWord_31 : decode cX12_atomOfWord 31 = .ok (.aload_n 0, 1) := by decide +kernel
theorem dX12_atomOfWord_32 : decode cX12_atomOfWord 32 = .ok (.getfield 16, 3) := by decide +kernel
theorem dX12_atomOfWord_35 : decode cX12_atomOfWord 35 = .ok (.bipush 6, 2) := by decide +kernel
theorem dX12_atomOfWord_37 : decode cX12_atomOfWord 37 = .ok (.iload_n 1, 1) := by decide +kernel
theorem dX12_atomOfWord_38 : decode cX12_atomOfWord 38 = .ok (.imul, 1) := by decide +kernel
theorem dX12_atomOfWord_39 : decode cX12_atomOfWord 39 = .ok (.aload_n 0, 1) := by decide +kernel
theorem dX12_atomOfWord_40 : decode cX12_atomOfWord 40 = .ok (.iload_n 1, 1) := by decide +kernel
theorem dX12_atomOfWord_41 : decode cX12_atomOfWord 41 = .ok (.aload_n 0, 1) := by decide +kernel
theorem dX12_atomOfWord_42 : decode cX12_atomOfWord 42 = .ok (.getfield 71, 3) := by decide +kernel
theorem dX12_atomOfWord_45 : decode cX12_atomOfWord 45 = .ok (.iload_n 3, 1) := by decide +kernel
theorem dX12_atomOfWord_46 : decode cX12_atomOfWord 46 = .ok (.iaload, 1) := by decide +kernel
theorem dX12_atomOfWord_47 : decode cX12_atomOfWord 47 = .ok (.invokevirtual 149, 3) := by decide +kernel
theorem dX12_atomOfWord_50 : decode cX12_atomOfWord 50 = .ok (.iadd, 1) := by decide +kernel
theorem dX12_atomOfWord_51 : decode cX12_atomOfWord 51 = .ok (.baload, 1) := by decide +kernel
theorem dX12_atomOfWord_52 : decode cX12_atomOfWord 52 = .ok (.ifCond .eq 9, 3) := by decide +kernel
theorem dX12_atomOfWord_55 : decode cX12_atomOfWord 55 = .ok (.iconst 1, 1) := by decide +kernel
theorem dX12_atomOfWord_56 : decode cX12_atomOfWord 56 = .ok (.iload_n 3, 1) := by decide +kernel
theorem dX12_atomOfWord_57 : decode cX12_atomOfWord 57 = .ok (.ishl, 1) := by decide +kernel
theorem dX12_atomOfWord_58 : decode cX12_atomOfWord 58 = .ok (.goto 4, 3) := by decide +kernel
theorem dX12_atomOfWord_61 : decode cX12_atomOfWord 61 = .ok (.iconst 0, 1) := by decide +kernel
theorem dX12_atomOfWord_62 : decode cX12_atomOfWord 62 = .ok (.ior, 1) := by decide +kernel
theorem dX12_atomOfWord_63 : decode cX12_atomOfWord 63 = .ok (.istore_n 2, 1) := by decide +kernel
theorem dX12_atomOfWord_64 : decode cX12_atomOfWord 64 = .ok (.iinc 3 1, 3) := by decide +kernel
theorem dX12_atomOfWord_67 : decode cX12_atomOfWord 67 = .ok (.goto (-45), 3) := by decide +kernel
theorem dX12_atomOfWord_70 : decode cX12_atomOfWord 70 = .ok (.aload_n 0, 1) := by decide +kernel
theorem dX12_atomOfWord_71 : decode cX12_atomOfWord 71 = .ok (.aload_n 0, 1) := by decide +kernel
theorem dX12_atomOfWord_72 : decode cX12_atomOfWord 72 = .ok (.iload_n 2, 1) := by decide +kernel
theorem dX12_atomOfWord_73 : decode cX12_atomOfWord 73 = .ok (.invokevirtual 251, 3) := by decide +kernel
theorem dX12_atomOfWord_76 : decode cX12_atomOfWord 76 = .ok (.invokevirtual 132, 3) := by decide +kernel
theorem dX12_atomOfWord_79 : decode cX12_atomOfWord 79 = .ok (.ireturn, 1) := by decide +kernel
theorem dX12_setAhead_0 : decode cX12_setAhead 0 = .ok (.iconst 0, 1) := by decide +kernel
theorem dX12_setAhead_1 : decode cX12_setAhead 1 = .ok (.istore 4, 2) := by decide +kernel
theorem dX12_setAhead_3 : decode cX12_setAhead 3 = .ok (.iconst 0, 1) := by decide +kernel
theorem dX12_setAhead_4 : decode cX12_setAhead 4 = .ok (.istore 5, 2) := by decide +kernel
theorem dX12_setAhead_6 : decode cX12_setAhead 6 = .ok (.iload 5, 2) := by decide +kernel
theorem dX12_setAhead_8 : decode cX12_setAhead 8 = .ok (.aload_n 0, 1) := by decide +kernel
theorem dX12_setAhead_9 : decode cX12_setAhead 9 = .ok (.getfield 238, 3) := by decide +kernel
theorem dX12_setAhead_12 : decode cX12_setAhead 12 = .ok (.if_icmp .ge 56, 3) := by decide +kernel
theorem dX12_setAhead_15 : decode cX12_setAhead 15 = .ok (.aload_n 0, 1) := by decide +kernel
theorem dX12_setAhead_16 : decode cX12_setAhead 16 = .ok (.getfield 13, 3) := by decide +kernel
theorem dX12_setAhead_19 : decode cX12_setAhead 19 = .ok (.iload_n 1, 1) := by decide +kernel
theorem dX12_setAhead_20 : decode cX12_setAhead 20 = .ok (.aload_n 0, 1) := by decide +kernel
theorem dX12_setAhead_21 : decode cX12_setAhead 21 = .ok (.getfield 71, 3) := by decide +kernel
theorem dX12_setAhead_24 : decode cX12_setAhead 24 = .ok (.iload 5, 2) := by decide +kernel
theorem dX12_setAhead_26 : decode cX12_setAhead 26 = .ok (.iaload, 1) := by decide +kernel
theorem dX12_setAhead_27 : decode cX12_setAhead 27 = .ok (.iload_n 3, 1) := by decide +kernel
theorem dX12_setAhead_28 : decode cX12_setAhead 28 = .ok (.invokestatic 110, 3) := by decide +kernel
theorem dX12_setAhead_31 : decode cX12_setAhead 31 = .ok (.iaload, 1) := by decide +kernel
theorem dX12_setAhead_32 : decode cX12_setAhead 32 = .ok (.istore 6, 2) := by decide +kernel
theorem dX12_setAhead_34 : decode cX12_setAhead 34 = .ok (.iload 4, 2) := by decide +kernel
theorem dX12_setAhead_36 : decode cX12_setAhead 36 = .ok (.iload_n 2, 1) := by decide +kernel
theorem dX12_setAhead_37 : decode cX12_setAhead 37 = .ok (.aload_n 0, 1) := by decide +kernel
theorem dX12_setAhead_38 : decode cX12_setAhead 38 = .ok (.getfield 83, 3) := by decide +kernel
theorem dX12_setAhead_41 : decode cX12_setAhead 41 = .ok (.iload 6, 2) := by decide +kernel
theorem dX12_setAhead_43 : decode cX12_setAhead 43 = .ok (.iaload, 1) := by decide +kernel
theorem dX12_setAhead_44 : decode cX12_setAhead 44 = .ok (.ishr, 1) := by decide +kernel
theorem dX12_setAhead_45 : decode cX12_setAhead 45 = .ok (.iconst 1, 1) := by decide +kernel
theorem dX12_setAhead_46 : decode cX12_setAhead 46 = .ok (.iand, 1) := by decide +kernel
theorem dX12_setAhead_47 : decode cX12_setAhead 47 = .ok (.iconst 1, 1) := by decide +kernel
theorem dX12_setAhead_48 : decode cX12_setAhead 48 = .ok (.if_icmp .ne 10, 3) := by decide +kernel
theorem dX12_setAhead_51 : decode cX12_setAhead 51 = .ok (.iconst 1, 1) := by decide +kernel
theorem dX12_setAhead_52 : decode cX12_setAhead 52 = .ok (.iload 5, 2) := by decide +kernel
theorem dX12_setAhead_54 : decode cX12_setAhead 54 = .ok (.ishl, 1) := by decide +kernel
theorem dX12_setAhead_55 : decode cX12_setAhead 55 = .ok (.goto 4, 3) := by decide +kernel
theorem dX12_setAhead_58 : decode cX12_setAhead 58 = .ok (.iconst 0, 1) := by decide +kernel
theorem dX12_setAhead_59 : decode cX12_setAhead 59 = .ok (.ior, 1) := by decide +kernel
theorem dX12_setAhead_60 : decode cX12_setAhead 60 = .ok (.istore 4, 2) := by decide +kernel
theorem dX12_setAhead_62 : decode cX12_setAhead 62 = .ok (.iinc 5 1, 3) := by decide +kernel
theorem dX12_setAhead_65 : decode cX12_setAhead 65 = .ok (.goto (-59), 3) := by decide +kernel
theorem dX12_setAhead_68 : decode cX12_setAhead 68 = .ok (.iload 4, 2) := by decide +kernel
theorem dX12_setAhead_70 : decode cX12_setAhead 70 = .ok (.ireturn, 1) := by decide +kernel
theorem dX12_tellAtomMachine_0 : decode cX12_tellAtomMachine 0 = .ok (.aload_n 0, 1) := by decide +kernel
theorem dX12_tellAtomMachine_1 : decode cX12_tellAtomMachine 1 = .ok (.iload_n 1, 1) := by decide +kernel
theorem dX12_tellAtomMachine_2 : decode cX12_tellAtomMachine 2 = .ok (.invokevirtual 244, 3) := by decide +kernel
theorem dX12_tellAtomMachine_5 : decode cX12_tellAtomMachine 5 = .ok (.aload_n 0, 1) := by decide +kernel
theorem dX12_tellAtomMachine_6 : decode cX12_tellAtomMachine 6 = .ok (.bipush 8, 2) := by decide +kernel
theorem dX12_tellAtomMachine_8 : decode cX12_tellAtomMachine 8 = .ok (.iload_n 1, 1) := by decide +kernel
theorem dX12_tellAtomMachine_9 : decode cX12_tellAtomMachine 9 = .ok (.iload_n 1, 1) := by decide +kernel
theorem dX12_tellAtomMachine_10 : decode cX12_tellAtomMachine 10 = .ok (.invokevirtual 231, 3) := by decide +kernel
theorem dX12_tellAtomMachine_13 : decode cX12_tellAtomMachine 13 = .ok (.iconst 0, 1) := by decide +kernel
theorem dX12_tellAtomMachine_14 : decode cX12_tellAtomMachine 14 = .ok (.istore_n 2, 1) := by decide +kernel
theorem dX12_tellAtomMachine_15 : decode cX12_tellAtomMachine 15 = .ok (.iload_n 2, 1) := by decide +kernel
theorem dX12_tellAtomMachine_16 : decode cX12_tellAtomMachine 16 = .ok (.aload_n 0, 1) := by decide +kernel
theorem dX12_tellAtomMachine_17 : decode cX12_tellAtomMachine 17 = .ok (.getfield 153, 3) := by decide +kernel
theorem dX12_tellAtomMachine_20 : decode cX12_tellAtomMachine 20 = .ok (.if_icmp .ge 27, 3) := by decide +kernel
theorem dX12_tellAtomMachine_23 : decode cX12_tellAtomMachine 23 = .ok (.aload_n 0, 1) := by decide +kernel
theorem dX12_tellAtomMachine_24 : decode cX12_tellAtomMachine 24 = .ok (.getfield 83, 3) := by decide +kernel
theorem dX12_tellAtomMachine_27 : decode cX12_tellAtomMachine 27 = .ok (.aload_n 0, 1) := by decide +kernel
theorem dX12_tellAtomMachine_28 : decode cX12_tellAtomMachine 28 = .ok (.getfield 49, 3) := by decide +kernel
theorem dX12_tellAtomMachine_31 : decode cX12_tellAtomMachine 31 = .ok (.iload_n 2, 1) := by decide +kernel
theorem dX12_tellAtomMachine_32 : decode cX12_tellAtomMachine 32 = .ok (.laload, 1) := by decide +kernel
theorem dX12_tellAtomMachine_33 : decode cX12_tellAtomMachine 33 = .ok (.l2i, 1) := by decide +kernel
theorem dX12_tellAtomMachine_34 : decode cX12_tellAtomMachine 34 = .ok (.aload_n 0, 1) := by decide +kernel
theorem dX12_tellAtomMachine_35 : decode cX12_tellAtomMachine 35 = .ok (.getfield 65, 3) := by decide +kernel
theorem dX12_tellAtomMachine_38 : decode cX12_tellAtomMachine 38 = .ok (.iload_n 2, 1) := by decide +kernel
theorem dX12_tellAtomMachine_39 : decode cX12_tellAtomMachine 39 = .ok (.iaload, 1) := by decide +kernel
theorem dX12_tellAtomMachine_40 : decode cX12_tellAtomMachine 40 = .ok (.iastore, 1) := by decide +kernel
theorem dX12_tellAtomMachine_41 : decode cX12_tellAtomMachine 41 = .ok (.iinc 2 1, 3) := by decide +kernel
theorem dX12_tellAtomMachine_44 : decode cX12_tellAtomMachine 44 = .ok (.goto (-29), 3) := by decide +kernel
theorem dX12_tellAtomMachine_47 : decode cX12_tellAtomMachine 47 = .ok (.iconst 0, 1) := by decide +kernel
theorem dX12_tellAtomMachine_48 : decode cX12_tellAtomMachine 48 = .ok (.istore_n 2, 1) := by decide +kernel
theorem dX12_tellAtomMachine_49 : decode cX12_tellAtomMachine 49 = .ok (.iload_n 2, 1) := by decide +kernel
theorem dX12_tellAtomMachine_50 : decode cX12_tellAtomMachine 50 = .ok (.sipush 192, 3) := by decide +kernel
theorem dX12_tellAtomMachine_53 : decode cX12_tellAtomMachine 53 = .ok (.if_icmp .ge 16, 3) := by decide +kernel
theorem dX12_tellAtomMachine_56 : decode cX12_tellAtomMachine 56 = .ok (.aload_n 0, 1) := by decide +kernel
theorem dX12_tellAtomMachine_57 : decode cX12_tellAtomMachine 57 = .ok (.getfield 80, 3) := by decide +kernel
theorem dX12_tellAtomMachine_60 : decode cX12_tellAtomMachine 60 = .ok (.iload_n 2, 1) := by decide +kernel
theorem dX12_tellAtomMachine_61 : decode cX12_tellAtomMachine 61 = .ok (.lconst 0, 1) := by decide +kernel
theorem dX12_tellAtomMachine_62 : decode cX12_tellAtomMachine 62 = .ok (.lastore, 1) := by decide +kernel
theorem dX12_tellAtomMachine_63 : decode cX12_tellAtomMachine 63 = .ok (.iinc 2 1, 3) := by decide +kernel
theorem dX12_tellAtomMachine_66 : decode cX12_tellAtomMachine 66 = .ok (.goto (-17), 3) := by decide +kernel
theorem dX12_tellAtomMachine_69 : decode cX12_tellAtomMachine 69 = .ok (.iconst 0, 1) := by decide +kernel
theorem dX12_tellAtomMachine_70 : decode cX12_tellAtomMachine 70 = .ok (.istore_n 2, 1) := by decide +kernel
theorem dX12_tellAtomMachine_71 : decode cX12_tellAtomMachine 71 = .ok (.iload_n 2, 1) := by decide +kernel
theorem dX12_tellAtomMachine_72 : decode cX12_tellAtomMachine 72 = .ok (.aload_n 0, 1) := by decide +kernel
theorem dX12_tellAtomMachine_73 : decode cX12_tellAtomMachine 73 = .ok (.getfield 195, 3) := by decide +kernel
theorem dX12_tellAtomMachine_76 : decode cX12_tellAtomMachine 76 = .ok (.if_icmp .ge 53, 3) := by decide +kernel
theorem dX12_tellAtomMachine_79 : decode cX12_tellAtomMachine 79 = .ok (.iconst 0, 1) := by decide +kernel
theorem dX12_tellAtomMachine_80 : decode cX12_tellAtomMachine 80 = .ok (.istore_n 3, 1) := by decide +kernel
theorem dX12_tellAtomMachine_81 : decode cX12_tellAtomMachine 81 = .ok (.iload_n 3, 1) := by decide +kernel
theorem dX12_tellAtomMachine_82 : decode cX12_tellAtomMachine 82 = .ok (.iconst 3, 1) := by decide +kernel
theorem dX12_tellAtomMachine_83 : decode cX12_tellAtomMachine 83 = .ok (.if_icmp .ge 40, 3) := by decide +kernel
theorem dX12_tellAtomMachine_86 : decode cX12_tellAtomMachine 86 = .ok (.aload_n 0, 1) := by decide +kernel
theorem dX12_tellAtomMachine_87 : decode cX12_tellAtomMachine 87 = .ok (.getfield 80, 3) := by decide +kernel
theorem dX12_tellAtomMachine_90 : decode cX12_tellAtomMachine 90 = .ok (.iconst 3, 1) := by decide +kernel
theorem dX12_tellAtomMachine_91 : decode cX12_tellAtomMachine 91 = .ok (.aload_n 0, 1) := by decide +kernel
theorem dX12_tellAtomMachine_92 : decode cX12_tellAtomMachine 92 = .ok (.aload_n 0, 1) := by decide +kernel
theorem dX12_tellAtomMachine_93 : decode cX12_tellAtomMachine 93 = .ok (.iload_n 1, 1) := by decide +kernel
theorem dX12_tellAtomMachine_94 : decode cX12_tellAtomMachine 94 = .ok (.aload_n 0, 1) := by decide +kernel
theorem dX12_tellAtomMachine_95 : decode cX12_tellAtomMachine 95 = .ok (.getfield 74, 3) := by decide +kernel
theorem dX12_tellAtomMachine_98 : decode cX12_tellAtomMachine 98 = .ok (.iload_n 2, 1) := by decide +kernel
theorem dX12_tellAtomMachine_99 : decode cX12_tellAtomMachine 99 = .ok (.iaload, 1) := by decide +kernel
theorem dX12_tellAtomMachine_100 : decode cX12_tellAtomMachine 100 = .ok (.iload_n 3, 1) := by decide +kernel
theorem dX12_tellAtomMachine_101 : decode cX12_tellAtomMachine 101 = .ok (.invokevirtual 254, 3) := by decide +kernel
theorem dX12_tellAtomMachine_104 : decode cX12_tellAtomMachine 104 = .ok (.invokevirtual 251, 3) := by decide +kernel
theorem dX12_tellAtomMachine_107 : decode cX12_tellAtomMachine 107 = .ok (.imul, 1) := by decide +kernel
theorem dX12_tellAtomMachine_108 : decode cX12_tellAtomMachine 108 = .ok (.iload_n 3, 1) := by decide +kernel
theorem dX12_tellAtomMachine_109 : decode cX12_tellAtomMachine 109 = .ok (.iadd, 1) := by decide +kernel
theorem dX12_tellAtomMachine_110 : decode cX12_tellAtomMachine 110 = .ok (.dup2, 1) := by decide +kernel
theorem dX12_tellAtomMachine_111 : decode cX12_tellAtomMachine 111 = .ok (.laload, 1) := by decide +kernel
theorem dX12_tellAtomMachine_112 : decode cX12_tellAtomMachine 112 = .ok (.lconst 1, 1) := by decide +kernel
theorem dX12_tellAtomMachine_113 : decode cX12_tellAtomMachine 113 = .ok (.iload_n 2, 1) := by decide +kernel
theorem dX12_tellAtomMachine_114 : decode cX12_tellAtomMachine 114 = .ok (.lshl, 1) := by decide +kernel
theorem dX12_tellAtomMachine_115 : decode cX12_tellAtomMachine 115 = .ok (.lor, 1) := by decide +kernel
theorem dX12_tellAtomMachine_116 : decode cX12_tellAtomMachine 116 = .ok (.lastore, 1) := by decide +kernel
theorem dX12_tellAtomMachine_117 : decode cX12_tellAtomMachine 117 = .ok (.iinc 3 1, 3) := by decide +kernel
theorem dX12_tellAtomMachine_120 : decode cX12_tellAtomMachine 120 = .ok (.goto (-39), 3) := by decide +kernel
theorem dX12_tellAtomMachine_123 : decode cX12_tellAtomMachine 123 = .ok (.iinc 2 1, 3) := by decide +kernel
theorem dX12_tellAtomMachine_126 : decode cX12_tellAtomMachine 126 = .ok (.goto (-55), 3) := by decide +kernel
theorem dX12_tellAtomMachine_129 : decode cX12_tellAtomMachine 129 = .ok (.iconst 0, 1) := by decide +kernel
theorem dX12_tellAtomMachine_130 : decode cX12_tellAtomMachine 130 = .ok (.istore_n 2, 1) := by decide +kernel
theorem dX12_tellAtomMachine_131 : decode cX12_tellAtomMachine 131 = .ok (.iconst 0, 1) := by decide +kernel
theorem dX12_tellAtomMachine_132 : decode cX12_tellAtomMachine 132 = .ok (.istore_n 3, 1) := by decide +kernel
theorem dX12_tellAtomMachine_133 : decode cX12_tellAtomMachine 133 = .ok (.iload_n 3, 1) := by decide +kernel
theorem dX12_tellAtomMachine_134 : decode cX12_tellAtomMachine 134 = .ok (.aload_n 0, 1) := by decide +kernel
theorem dX12_tellAtomMachine_135 : decode cX12_tellAtomMachine 135 = .ok (.getfield 238, 3) := by decide +kernel
theorem dX12_tellAtomMachine_138 : decode cX12_tellAtomMachine 138 = .ok (.if_icmp .ge 38, 3) := by decide +kernel
theorem dX12_tellAtomMachine_141 : decode cX12_tellAtomMachine 141 = .ok (.iload_n 2, 1) := by decide +kernel
theorem dX12_tellAtomMachine_142 : decode cX12_tellAtomMachine 142 = .ok (.aload_n 0, 1) := by decide +kernel
theorem dX12_tellAtomMachine_143 : decode cX12_tellAtomMachine 143 = .ok (.getfield 16, 3) := by decide +kernel
theorem dX12_tellAtomMachine_146 : decode cX12_tellAtomMachine 146 = .ok (.bipush 6, 2) := by decide +kernel
theorem dX12_tellAtomMachine_148 : decode cX12_tellAtomMachine 148 = .ok (.iload_n 1, 1) := by decide +kernel
theorem dX12_tellAtomMachine_149 : decode cX12_tellAtomMachine 149 = .ok (.imul, 1) := by decide +kernel
theorem dX12_tellAtomMachine_150 : decode cX12_tellAtomMachine 150 = .ok (.aload_n 0, 1) := by decide +kernel
theorem dX12_tellAtomMachine_151 : decode cX12_tellAtomMachine 151 = .ok (.getfield 71, 3) := by decide +kernel
theorem dX12_tellAtomMachine_154 : decode cX12_tellAtomMachine 154 = .ok (.iload_n 3, 1) := by decide +kernel
theorem dX12_tellAtomMachine_155 : decode cX12_tellAtomMachine 155 = .ok (.iaload, 1) := by decide +kernel
theorem dX12_tellAtomMachine_156 : decode cX12_tellAtomMachine 156 = .ok (.iadd, 1) := by decide +kernel
theorem dX12_tellAtomMachine_157 : decode cX12_tellAtomMachine 157 = .ok (.baload, 1) := by decide +kernel
theorem dX12_tellAtomMachine_158 : decode cX12_tellAtomMachine 158 = .ok (.ifCond .eq 9, 3) := by decide +kernel
theorem dX12_tellAtomMachine_161 : decode cX12_tellAtomMachine 161 = .ok (.iconst 1, 1) := by decide +kernel
theorem dX12_tellAtomMachine_162 : decode cX12_tellAtomMachine 162 = .ok (.iload_n 3, 1) := by decide +kernel
theorem dX12_tellAtomMachine_163 : decode cX12_tellAtomMachine 163 = .ok (.ishl, 1) := by decide +kernel
theorem dX12_tellAtomMachine_164 : decode cX12_tellAtomMachine 164 = .ok (.goto 4, 3) := by decide +kernel
theorem dX12_tellAtomMachine_167 : decode cX12_tellAtomMachine 167 = .ok (.iconst 0, 1) := by decide +kernel
theorem dX12_tellAtomMachine_168 : decode cX12_tellAtomMachine 168 = .ok (.ior, 1) := by decide +kernel
theorem dX12_tellAtomMachine_169 : decode cX12_tellAtomMachine 169 = .ok (.istore_n 2, 1) := by decide +kernel
theorem dX12_tellAtomMachine_170 : decode cX12_tellAtomMachine 170 = .ok (.iinc 3 1, 3) := by decide +kernel
theorem dX12_tellAtomMachine_173 : decode cX12_tellAtomMachine 173 = .ok (.goto (-40), 3) := by decide +kernel
theorem dX12_tellAtomMachine_176 : decode cX12_tellAtomMachine 176 = .ok (.aload_n 0, 1) := by decide +kernel
theorem dX12_tellAtomMachine_177 : decode cX12_tellAtomMachine 177 = .ok (.aload_n 0, 1) := by decide +kernel
theorem dX12_tellAtomMachine_178 : decode cX12_tellAtomMachine 178 = .ok (.iload_n 2, 1) := by decide +kernel
theorem dX12_tellAtomMachine_179 : decode cX12_tellAtomMachine 179 = .ok (.invokevirtual 251, 3) := by decide +kernel
theorem dX12_tellAtomMachine_182 : decode cX12_tellAtomMachine 182 = .ok (.putfield 202, 3) := by decide +kernel
theorem dX12_tellAtomMachine_185 : decode cX12_tellAtomMachine 185 = .ok (.return_, 1) := by decide +kernel
theorem dX12_atomTargets_0 : decode cX12_atomTargets 0 = .ok (.aload_n 0, 1) := by decide +kernel
theorem dX12_atomTargets_1 : decode cX12_atomTargets 1 = .ok (.iconst 1, 1) := by decide +kernel
theorem dX12_atomTargets_2 : decode cX12_atomTargets 2 = .ok (.putfield 98, 3) := by decide +kernel
theorem dX12_atomTargets_5 : decode cX12_atomTargets 5 = .ok (.iload_n 1, 1) := by decide +kernel
theorem dX12_atomTargets_6 : decode cX12_atomTargets 6 = .ok (.invokestatic 106, 3) := by decide +kernel
theorem dX12_atomTargets_9 : decode cX12_atomTargets 9 = .ok (.ifCond .eq 10, 3) := by decide +kernel
theorem dX12_atomTargets_12 : decode cX12_atomTargets 12 = .ok (.iload_n 3, 1) := by decide +kernel
theorem dX12_atomTargets_13 : decode cX12_atomTargets 13 = .ok (.invokestatic 122, 3) := by decide +kernel
theorem dX12_atomTargets_16 : decode cX12_atomTargets 16 = .ok (.ifCond .ne 5, 3) := by decide +kernel
theorem dX12_atomTargets_19 : decode cX12_atomTargets 19 = .ok (.lconst 0, 1) := by decide +kernel
theorem dX12_atomTargets_20 : decode cX12_atomTargets 20 = .ok (.lreturn, 1) := by decide +kernel
theorem dX12_atomTargets_21 : decode cX12_atomTargets 21 = .ok (.aload_n 0, 1) := by decide +kernel
theorem dX12_atomTargets_22 : decode cX12_atomTargets 22 = .ok (.iload_n 1, 1) := by decide +kernel
theorem dX12_atomTargets_23 : decode cX12_atomTargets 23 = .ok (.invokevirtual 257, 3) := by decide +kernel
theorem dX12_atomTargets_26 : decode cX12_atomTargets 26 = .ok (.aload_n 0, 1) := by decide +kernel
theorem dX12_atomTargets_27 : decode cX12_atomTargets 27 = .ok (.iload_n 2, 1) := by decide +kernel
theorem dX12_atomTargets_28 : decode cX12_atomTargets 28 = .ok (.invokevirtual 248, 3) := by decide +kernel
theorem dX12_atomTargets_31 : decode cX12_atomTargets 31 = .ok (.ifCond .ne 5, 3) := by decide +kernel
theorem dX12_atomTargets_34 : decode cX12_atomTargets 34 = .ok (.lconst 0, 1) := by decide +kernel
theorem dX12_atomTargets_35 : decode cX12_atomTargets 35 = .ok (.lreturn, 1) := by decide +kernel
theorem dX12_atomTargets_36 : decode cX12_atomTargets 36 = .ok (.aload_n 0, 1) := by decide +kernel
theorem dX12_atomTargets_37 : decode cX12_atomTargets 37 = .ok (.iconst 0, 1) := by decide +kernel
theorem dX12_atomTargets_38 : decode cX12_atomTargets 38 = .ok (.putfield 98, 3) := by decide +kernel
theorem dX12_atomTargets_41 : decode cX12_atomTargets 41 = .ok (.aload_n 0, 1) := by decide +kernel
theorem dX12_atomTargets_42 : decode cX12_atomTargets 42 = .ok (.getfield 80, 3) := by decide +kernel
theorem dX12_atomTargets_45 : decode cX12_atomTargets 45 = .ok (.iconst 3, 1) := by decide +kernel
theorem dX12_atomTargets_46 : decode cX12_atomTargets 46 = .ok (.iload_n 2, 1) := by decide +kernel
theorem dX12_atomTargets_47 : decode cX12_atomTargets 47 = .ok (.imul, 1) := by decide +kernel
theorem dX12_atomTargets_48 : decode cX12_atomTargets 48 = .ok (.iload_n 3, 1) := by decide +kernel
theorem dX12_atomTargets_49 : decode cX12_atomTargets 49 = .ok (.iadd, 1) := by decide +kernel
theorem dX12_atomTargets_50 : decode cX12_atomTargets 50 = .ok (.laload, 1) := by decide +kernel
theorem dX12_atomTargets_51 : decode cX12_atomTargets 51 = .ok (.lreturn, 1) := by decide +kernel
theorem dX12_initialAtoms_0 : decode cX12_initialAtoms 0 = .ok (.aload_n 0, 1) := by decide +kernel
theorem dX12_initialAtoms_1 : decode cX12_initialAtoms 1 = .ok (.iload_n 1, 1) := by decide +kernel
theorem dX12_initialAtoms_2 : decode cX12_initialAtoms 2 = .ok (.invokestatic 106, 3) := by decide +kernel
theorem dX12_initialAtoms_5 : decode cX12_initialAtoms 5 = .ok (.ifCond .eq 7, 3) := by decide +kernel
theorem dX12_initialAtoms_8 : decode cX12_initialAtoms 8 = .ok (.iconst 0, 1) := by decide +kernel
theorem dX12_initialAtoms_9 : decode cX12_initialAtoms 9 = .ok (.goto 4, 3) := by decide +kernel
theorem dX12_initialAtoms_12 : decode cX12_initialAtoms 12 = .ok (.iconst 1, 1) := by decide +kernel
theorem dX12_initialAtoms_13 : decode cX12_initialAtoms 13 = .ok (.putfield 98, 3) := by decide +kernel
theorem dX12_initialAtoms_16 : decode cX12_initialAtoms 16 = .ok (.aload_n 0, 1) := by decide +kernel
theorem dX12_initialAtoms_17 : decode cX12_initialAtoms 17 = .ok (.getfield 98, 3) := by decide +kernel
theorem dX12_initialAtoms_20 : decode cX12_initialAtoms 20 = .ok (.ifCond .eq 5, 3) := by decide +kernel
theorem dX12_initialAtoms_23 : decode cX12_initialAtoms 23 = .ok (.lconst 0, 1) := by decide +kernel
theorem dX12_initialAtoms_24 : decode cX12_initialAtoms 24 = .ok (.lreturn, 1) := by decide +kernel
theorem dX12_initialAtoms_25 : decode cX12_initialAtoms 25 = .ok (.aload_n 0, 1) := by decide +kernel
theorem dX12_initialAtoms_26 : decode cX12_initialAtoms 26 = .ok (.iload_n 1, 1) := by decide +kernel
theorem dX12_initialAtoms_27 : decode cX12_initialAtoms 27 = .ok (.invokevirtual 244, 3) := by decide +kernel
theorem dX12_initialAtoms_30 : decode cX12_initialAtoms 30 = .ok (.lconst 0, 1) := by decide +kernel
theorem dX12_initialAtoms_31 : decode cX12_initialAtoms 31 = .ok (.lstore_n 2, 1) := by decide +kernel
theorem dX12_initialAtoms_32 : decode cX12_initialAtoms 32 = .ok (.iconst 0, 1) := by decide +kernel
theorem dX12_initialAtoms_33 : decode cX12_initialAtoms 33 = .ok (.istore 4, 2) := by decide +kernel
theorem dX12_initialAtoms_35 : decode cX12_initialAtoms 35 = .ok (.iload 4, 2) := by decide +kernel
theorem dX12_initialAtoms_37 : decode cX12_initialAtoms 37 = .ok (.aload_n 0, 1) := by decide +kernel
theorem dX12_initialAtoms_38 : decode cX12_initialAtoms 38 = .ok (.getfield 195, 3) := by decide +kernel
theorem dX12_initialAtoms_41 : decode cX12_initialAtoms 41 = .ok (.if_icmp .ge 33, 3) := by decide +kernel
theorem dX12_initialAtoms_44 : decode cX12_initialAtoms 44 = .ok (.lload_n 2, 1) := by decide +kernel
theorem dX12_initialAtoms_45 : decode cX12_initialAtoms 45 = .ok (.aload_n 0, 1) := by decide +kernel
theorem dX12_initialAtoms_46 : decode cX12_initialAtoms 46 = .ok (.getfield 74, 3) := by decide +kernel
theorem dX12_initialAtoms_49 : decode cX12_initialAtoms 49 = .ok (.iload 4, 2) := by decide +kernel
theorem dX12_initialAtoms_51 : decode cX12_initialAtoms 51 = .ok (.iaload, 1) := by decide +kernel
theorem dX12_initialAtoms_52 : decode cX12_initialAtoms 52 = .ok (.iconst 1, 1) := by decide +kernel
theorem dX12_initialAtoms_53 : decode cX12_initialAtoms 53 = .ok (.iand, 1) := by decide +kernel
theorem dX12_initialAtoms_54 : decode cX12_initialAtoms 54 = .ok (.iconst 1, 1) := by decide +kernel
theorem dX12_initialAtoms_55 : decode cX12_initialAtoms 55 = .ok (.if_icmp .ne 10, 3) := by decide +kernel
theorem dX12_initialAtoms_58 : decode cX12_initialAtoms 58 = .ok (.lconst 1, 1) := by decide +kernel
theorem dX12_initialAtoms_59 : decode cX12_initialAtoms 59 = .ok (.iload 4, 2) := by decide +kernel
theorem dX12_initialAtoms_61 : decode cX12_initialAtoms 61 = .ok (.lshl, 1) := by decide +kernel
theorem dX12_initialAtoms_62 : decode cX12_initialAtoms 62 = .ok (.goto 4, 3) := by decide +kernel
theorem dX12_initialAtoms_65 : decode cX12_initialAtoms 65 = .ok (.lconst 0, 1) := by decide +kernel
theorem dX12_initialAtoms_66 : decode cX12_initialAtoms 66 = .ok (.lor, 1) := by decide +kernel
theorem dX12_initialAtoms_67 : decode cX12_initialAtoms 67 = .ok (.lstore_n 2, 1) := by decide +kernel
theorem dX12_initialAtoms_68 : decode cX12_initialAtoms 68 = .ok (.iinc 4 1, 3) := by decide +kernel
theorem dX12_initialAtoms_71 : decode cX12_initialAtoms 71 = .ok (.goto (-36), 3) := by decide +kernel
theorem dX12_initialAtoms_74 : decode cX12_initialAtoms 74 = .ok (.lload_n 2, 1) := by decide +kernel
theorem dX12_initialAtoms_75 : decode cX12_initialAtoms 75 = .ok (.lreturn, 1) := by decide +kernel
theorem dX12_finalAtom_0 : decode cX12_finalAtom 0 = .ok (.iload_n 1, 1) := by decide +kernel
theorem dX12_finalAtom_1 : decode cX12_finalAtom 1 = .ok (.invokestatic 106, 3) := by decide +kernel
theorem dX12_finalAtom_4 : decode cX12_finalAtom 4 = .ok (.ifCond .ne 9, 3) := by decide +kernel
theorem dX12_finalAtom_7 : decode cX12_finalAtom 7 = .ok (.aload_n 0, 1) := by decide +kernel
theorem dX12_finalAtom_8 : decode cX12_finalAtom 8 = .ok (.iconst 1, 1) := by decide +kernel
theorem dX12_finalAtom_9 : decode cX12_finalAtom 9 = .ok (.invokevirtual 136, 3) := by decide +kernel
theorem dX12_finalAtom_12 : decode cX12_finalAtom 12 = .ok (.ireturn, 1) := by decide +kernel
theorem dX12_finalAtom_13 : decode cX12_finalAtom 13 = .ok (.aload_n 0, 1) := by decide +kernel
theorem dX12_finalAtom_14 : decode cX12_finalAtom 14 = .ok (.iload_n 1, 1) := by decide +kernel
theorem dX12_finalAtom_15 : decode cX12_finalAtom 15 = .ok (.invokevirtual 257, 3) := by decide +kernel
theorem dX12_finalAtom_18 : decode cX12_finalAtom 18 = .ok (.aload_n 0, 1) := by decide +kernel
theorem dX12_finalAtom_19 : decode cX12_finalAtom 19 = .ok (.aload_n 0, 1) := by decide +kernel
theorem dX12_finalAtom_20 : decode cX12_finalAtom 20 = .ok (.getfield 202, 3) := by decide +kernel
theorem dX12_finalAtom_23 : decode cX12_finalAtom 23 = .ok (.invokevirtual 132, 3) := by decide +kernel
theorem dX12_finalAtom_26 : decode cX12_finalAtom 26 = .ok (.ireturn, 1) := by decide +kernel
theorem dX12_firstWord_0 : decode cX12_firstWord 0 = .ok (.iconst 0, 1) := by decide +kernel
theorem dX12_firstWord_1 : decode cX12_firstWord 1 = .ok (.istore_n 1, 1) := by decide +kernel
theorem dX12_firstWord_2 : decode cX12_firstWord 2 = .ok (.iload_n 1, 1) := by decide +kernel
theorem dX12_firstWord_3 : decode cX12_firstWord 3 = .ok (.aload_n 0, 1) := by decide +kernel
theorem dX12_firstWord_4 : decode cX12_firstWord 4 = .ok (.getfield 153, 3) := by decide +kernel
theorem dX12_firstWord_7 : decode cX12_firstWord 7 = .ok (.if_icmp .ge 18, 3) := by decide +kernel
theorem dX12_firstWord_10 : decode cX12_firstWord 10 = .ok (.aload_n 0, 1) := by decide +kernel
theorem dX12_firstWord_11 : decode cX12_firstWord 11 = .ok (.getfield 56, 3) := by decide +kernel
theorem dX12_firstWord_14 : decode cX12_firstWord 14 = .ok (.iload_n 1, 1) := by decide +kernel
theorem dX12_firstWord_15 : decode cX12_firstWord 15 = .ok (.baload, 1) := by decide +kernel
theorem dX12_firstWord_16 : decode cX12_firstWord 16 = .ok (.ifCond .ne 9, 3) := by decide +kernel
theorem dX12_firstWord_19 : decode cX12_firstWord 19 = .ok (.iinc 1 1, 3) := by decide +kernel
theorem dX12_firstWord_22 : decode cX12_firstWord 22 = .ok (.goto (-20), 3) := by decide +kernel
theorem dX12_firstWord_25 : decode cX12_firstWord 25 = .ok (.iload_n 1, 1) := by decide +kernel
theorem dX12_firstWord_26 : decode cX12_firstWord 26 = .ok (.aload_n 0, 1) := by decide +kernel
theorem dX12_firstWord_27 : decode cX12_firstWord 27 = .ok (.getfield 153, 3) := by decide +kernel
theorem dX12_firstWord_30 : decode cX12_firstWord 30 = .ok (.if_icmp .ne 5, 3) := by decide +kernel
theorem dX12_firstWord_33 : decode cX12_firstWord 33 = .ok (.iconst (-1), 1) := by decide +kernel
theorem dX12_firstWord_34 : decode cX12_firstWord 34 = .ok (.ireturn, 1) := by decide +kernel
theorem dX12_firstWord_35 : decode cX12_firstWord 35 = .ok (.iconst 0, 1) := by decide +kernel
theorem dX12_firstWord_36 : decode cX12_firstWord 36 = .ok (.istore_n 2, 1) := by decide +kernel
theorem dX12_firstWord_37 : decode cX12_firstWord 37 = .ok (.iload_n 1, 1) := by decide +kernel
theorem dX12_firstWord_38 : decode cX12_firstWord 38 = .ok (.istore_n 3, 1) := by decide +kernel
theorem dX12_firstWord_39 : decode cX12_firstWord 39 = .ok (.iload_n 3, 1) := by decide +kernel
theorem dX12_firstWord_40 : decode cX12_firstWord 40 = .ok (.ifCond .eq 16, 3) := by decide +kernel
theorem dX12_firstWord_43 : decode cX12_firstWord 43 = .ok (.iinc 2 1, 3) := by decide +kernel
theorem dX12_firstWord_46 : decode cX12_firstWord 46 = .ok (.aload_n 0, 1) := by decide +kernel
theorem dX12_firstWord_47 : decode cX12_firstWord 47 = .ok (.getfield 59, 3) := by decide +kernel
theorem dX12_firstWord_50 : decode cX12_firstWord 50 = .ok (.iload_n 3, 1) := by decide +kernel
theorem dX12_firstWord_51 : decode cX12_firstWord 51 = .ok (.iaload, 1) := by decide +kernel
theorem dX12_firstWord_52 : decode cX12_firstWord 52 = .ok (.istore_n 3, 1) := by decide +kernel
theorem dX12_firstWord_53 : decode cX12_firstWord 53 = .ok (.goto (-14), 3) := by decide +kernel
theorem dX12_firstWord_56 : decode cX12_firstWord 56 = .ok (.iload_n 2, 1) := by decide +kernel
theorem dX12_firstWord_57 : decode cX12_firstWord 57 = .ok (.bipush 12, 2) := by decide +kernel
theorem dX12_firstWord_59 : decode cX12_firstWord 59 = .ok (.if_icmp .le 6, 3) := by decide +kernel
theorem dX12_firstWord_62 : decode cX12_firstWord 62 = .ok (.bipush (-2), 2) := by decide +kernel
theorem dX12_firstWord_64 : decode cX12_firstWord 64 = .ok (.ireturn, 1) := by decide +kernel
theorem dX12_firstWord_65 : decode cX12_firstWord 65 = .ok (.iload_n 2, 1) := by decide +kernel
theorem dX12_firstWord_66 : decode cX12_firstWord 66 = .ok (.istore_n 3, 1) := by decide +kernel
theorem dX12_firstWord_67 : decode cX12_firstWord 67 = .ok (.iload_n 1, 1) := by decide +kernel
theorem dX12_firstWord_68 : decode cX12_firstWord 68 = .ok (.istore 4, 2) := by decide +kernel
theorem dX12_firstWord_70 : decode cX12_firstWord 70 = .ok (.iload 4, 2) := by decide +kernel
theorem dX12_firstWord_72 : decode cX12_firstWord 72 = .ok (.ifCond .eq 31, 3) := by decide +kernel
theorem dX12_firstWord_75 : decode cX12_firstWord 75 = .ok (.iinc 3 (-1), 3) := by decide +kernel
theorem dX12_firstWord_78 : decode cX12_firstWord 78 = .ok (.aload_n 0, 1) := by decide +kernel
theorem dX12_firstWord_79 : decode cX12_firstWord 79 = .ok (.getfield 20, 3) := by decide +kernel
theorem dX12_firstWord_82 : decode cX12_firstWord 82 = .ok (.iload_n 3, 1) := by decide +kernel
theorem dX12_firstWord_83 : decode cX12_firstWord 83 = .ok (.aload_n 0, 1) := by decide +kernel
theorem dX12_firstWord_84 : decode cX12_firstWord 84 = .ok (.getfield 62, 3) := by decide +kernel
theorem dX12_firstWord_87 : decode cX12_firstWord 87 = .ok (.iload 4, 2) := by decide +kernel
theorem dX12_firstWord_89 : decode cX12_firstWord 89 = .ok (.iaload, 1) := by decide +kernel
theorem dX12_firstWord_90 : decode cX12_firstWord 90 = .ok (.iastore, 1) := by decide +kernel
theorem dX12_firstWord_91 : decode cX12_firstWord 91 = .ok (.aload_n 0, 1) := by decide +kernel
theorem dX12_firstWord_92 : decode cX12_firstWord 92 = .ok (.getfield 59, 3) := by decide +kernel
theorem dX12_firstWord_95 : decode cX12_firstWord 95 = .ok (.iload 4, 2) := by decide +kernel
theorem dX12_firstWord_97 : decode cX12_firstWord 97 = .ok (.iaload, 1) := by decide +kernel
theorem dX12_firstWord_98 : decode cX12_firstWord 98 = .ok (.istore 4, 2) := by decide +kernel
theorem dX12_firstWord_100 : decode cX12_firstWord 100 = .ok (.goto (-30), 3) := by decide +kernel
theorem dX12_firstWord_103 : decode cX12_firstWord 103 = .ok (.aload_n 0, 1) := by decide +kernel
theorem dX12_firstWord_104 : decode cX12_firstWord 104 = .ok (.iload_n 2, 1) := by decide +kernel
theorem dX12_firstWord_105 : decode cX12_firstWord 105 = .ok (.putfield 146, 3) := by decide +kernel
theorem dX12_firstWord_108 : decode cX12_firstWord 108 = .ok (.iload_n 2, 1) := by decide +kernel
theorem dX12_firstWord_109 : decode cX12_firstWord 109 = .ok (.ireturn, 1) := by decide +kernel
theorem dX12_takeAtomWord_0 : decode cX12_takeAtomWord 0 = .ok (.iload_n 1, 1) := by decide +kernel
theorem dX12_takeAtomWord_1 : decode cX12_takeAtomWord 1 = .ok (.invokestatic 106, 3) := by decide +kernel
theorem dX12_takeAtomWord_4 : decode cX12_takeAtomWord 4 = .ok (.ifCond .ne 9, 3) := by decide +kernel
theorem dX12_takeAtomWord_7 : decode cX12_takeAtomWord 7 = .ok (.aload_n 0, 1) := by decide +kernel
theorem dX12_takeAtomWord_8 : decode cX12_takeAtomWord 8 = .ok (.iconst 1, 1) := by decide +kernel
theorem dX12_takeAtomWord_9 : decode cX12_takeAtomWord 9 = .ok (.invokevirtual 136, 3) := by decide +kernel
theorem dX12_takeAtomWord_12 : decode cX12_takeAtomWord 12 = .ok (.ireturn, 1) := by decide +kernel
theorem dX12_takeAtomWord_13 : decode cX12_takeAtomWord 13 = .ok (.aload_n 0, 1) := by decide +kernel
theorem dX12_takeAtomWord_14 : decode cX12_takeAtomWord 14 = .ok (.iload_n 1, 1) := by decide +kernel
theorem dX12_takeAtomWord_15 : decode cX12_takeAtomWord 15 = .ok (.invokevirtual 257, 3) := by decide +kernel
theorem dX12_takeAtomWord_18 : decode cX12_takeAtomWord 18 = .ok (.aload_n 0, 1) := by decide +kernel
theorem dX12_takeAtomWord_19 : decode cX12_takeAtomWord 19 = .ok (.iload_n 2, 1) := by decide +kernel
theorem dX12_takeAtomWord_20 : decode cX12_takeAtomWord 20 = .ok (.invokevirtual 248, 3) := by decide +kernel
theorem dX12_takeAtomWord_23 : decode cX12_takeAtomWord 23 = .ok (.ifCond .ne 9, 3) := by decide +kernel
theorem dX12_takeAtomWord_26 : decode cX12_takeAtomWord 26 = .ok (.aload_n 0, 1) := by decide +kernel
theorem dX12_takeAtomWord_27 : decode cX12_takeAtomWord 27 = .ok (.iconst 1, 1) := by decide +kernel
theorem dX12_takeAtomWord_28 : decode cX12_takeAtomWord 28 = .ok (.invokevirtual 136, 3) := by decide +kernel
theorem dX12_takeAtomWord_31 : decode cX12_takeAtomWord 31 = .ok (.ireturn, 1) := by decide +kernel
theorem dX12_takeAtomWord_32 : decode cX12_takeAtomWord 32 = .ok (.aload_n 0, 1) := by decide +kernel
theorem dX12_takeAtomWord_33 : decode cX12_takeAtomWord 33 = .ok (.lconst 1, 1) := by decide +kernel
theorem dX12_takeAtomWord_34 : decode cX12_takeAtomWord 34 = .ok (.iload_n 2, 1) := by decide +kernel
theorem dX12_takeAtomWord_35 : decode cX12_takeAtomWord 35 = .ok (.lshl, 1) := by decide +kernel
theorem dX12_takeAtomWord_36 : decode cX12_takeAtomWord 36 = .ok (.putfield 169, 3) := by decide +kernel
theorem dX12_takeAtomWord_39 : decode cX12_takeAtomWord 39 = .ok (.aload_n 0, 1) := by decide +kernel
theorem dX12_takeAtomWord_40 : decode cX12_takeAtomWord 40 = .ok (.bipush 7, 2) := by decide +kernel
theorem dX12_takeAtomWord_42 : decode cX12_takeAtomWord 42 = .ok (.iload_n 1, 1) := by decide +kernel
theorem dX12_takeAtomWord_43 : decode cX12_takeAtomWord 43 = .ok (.iload_n 1, 1) := by decide +kernel
theorem dX12_takeAtomWord_44 : decode cX12_takeAtomWord 44 = .ok (.invokevirtual 231, 3) := by decide +kernel
theorem dX12_takeAtomWord_47 : decode cX12_takeAtomWord 47 = .ok (.aload_n 0, 1) := by decide +kernel
theorem dX12_takeAtomWord_48 : decode cX12_takeAtomWord 48 = .ok (.invokevirtual 260, 3) := by decide +kernel
theorem dX12_takeAtomWord_51 : decode cX12_takeAtomWord 51 = .ok (.istore_n 3, 1) := by decide +kernel
theorem dX12_takeAtomWord_52 : decode cX12_takeAtomWord 52 = .ok (.iload_n 3, 1) := by decide +kernel
theorem dX12_takeAtomWord_53 : decode cX12_takeAtomWord 53 = .ok (.ifCond .ge 11, 3) := by decide +kernel
theorem dX12_takeAtomWord_56 : decode cX12_takeAtomWord 56 = .ok (.aload_n 0, 1) := by decide +kernel
theorem dX12_takeAtomWord_57 : decode cX12_takeAtomWord 57 = .ok (.iconst 2, 1) := by decide +kernel
theorem dX12_takeAtomWord_58 : decode cX12_takeAtomWord 58 = .ok (.invokevirtual 136, 3) := by decide +kernel
theorem dX12_takeAtomWord_61 : decode cX12_takeAtomWord 61 = .ok (.goto 8, 3) := by decide +kernel
theorem dX12_takeAtomWord_64 : decode cX12_takeAtomWord 64 = .ok (.aload_n 0, 1) := by decide +kernel
theorem dX12_takeAtomWord_65 : decode cX12_takeAtomWord 65 = .ok (.iload_n 3, 1) := by decide +kernel
theorem dX12_takeAtomWord_66 : decode cX12_takeAtomWord 66 = .ok (.invokevirtual 132, 3) := by decide +kernel
theorem dX12_takeAtomWord_69 : decode cX12_takeAtomWord 69 = .ok (.ireturn, 1) := by decide +kernel
theorem dX12_atomSize_0 : decode cX12_atomSize 0 = .ok (.iload_n 1, 1) := by decide +kernel
theorem dX12_atomSize_1 : decode cX12_atomSize 1 = .ok (.invokestatic 106, 3) := by decide +kernel
theorem dX12_atomSize_4 : decode cX12_atomSize 4 = .ok (.ifCond .ne 9, 3) := by decide +kernel
theorem dX12_atomSize_7 : decode cX12_atomSize 7 = .ok (.aload_n 0, 1) := by decide +kernel
theorem dX12_atomSize_8 : decode cX12_atomSize 8 = .ok (.iconst 1, 1) := by decide +kernel
theorem dX12_atomSize_9 : decode cX12_atomSize 9 = .ok (.invokevirtual 136, 3) := by decide +kernel
theorem dX12_atomSize_12 : decode cX12_atomSize 12 = .ok (.ireturn, 1) := by decide +kernel
theorem dX12_atomSize_13 : decode cX12_atomSize 13 = .ok (.aload_n 0, 1) := by decide +kernel
theorem dX12_atomSize_14 : decode cX12_atomSize 14 = .ok (.iload_n 1, 1) := by decide +kernel
theorem dX12_atomSize_15 : decode cX12_atomSize 15 = .ok (.invokevirtual 257, 3) := by decide +kernel
theorem dX12_atomSize_18 : decode cX12_atomSize 18 = .ok (.aload_n 0, 1) := by decide +kernel
theorem dX12_atomSize_19 : decode cX12_atomSize 19 = .ok (.iload_n 2, 1) := by decide +kernel
theorem dX12_atomSize_20 : decode cX12_atomSize 20 = .ok (.invokevirtual 248, 3) := by decide +kernel
theorem dX12_atomSize_23 : decode cX12_atomSize 23 = .ok (.ifCond .ne 9, 3) := by decide +kernel
theorem dX12_atomSize_26 : decode cX12_atomSize 26 = .ok (.aload_n 0, 1) := by decide +kernel
theorem dX12_atomSize_27 : decode cX12_atomSize 27 = .ok (.iconst 1, 1) := by decide +kernel
theorem dX12_atomSize_28 : decode cX12_atomSize 28 = .ok (.invokevirtual 136, 3) := by decide +kernel
theorem dX12_atomSize_31 : decode cX12_atomSize 31 = .ok (.ireturn, 1) := by decide +kernel
theorem dX12_atomSize_32 : decode cX12_atomSize 32 = .ok (.aload_n 0, 1) := by decide +kernel
theorem dX12_atomSize_33 : decode cX12_atomSize 33 = .ok (.lconst 1, 1) := by decide +kernel
theorem dX12_atomSize_34 : decode cX12_atomSize 34 = .ok (.iload_n 2, 1) := by decide +kernel
theorem dX12_atomSize_35 : decode cX12_atomSize 35 = .ok (.lshl, 1) := by decide +kernel
theorem dX12_atomSize_36 : decode cX12_atomSize 36 = .ok (.putfield 169, 3) := by decide +kernel
theorem dX12_atomSize_39 : decode cX12_atomSize 39 = .ok (.aload_n 0, 1) := by decide +kernel
theorem dX12_atomSize_40 : decode cX12_atomSize 40 = .ok (.bipush 7, 2) := by decide +kernel
theorem dX12_atomSize_42 : decode cX12_atomSize 42 = .ok (.iload_n 1, 1) := by decide +kernel
theorem dX12_atomSize_43 : decode cX12_atomSize 43 = .ok (.iload_n 1, 1) := by decide +kernel
theorem dX12_atomSize_44 : decode cX12_atomSize 44 = .ok (.invokevirtual 231, 3) := by decide +kernel
theorem dX12_atomSize_47 : decode cX12_atomSize 47 = .ok (.aload_n 0, 1) := by decide +kernel
theorem dX12_atomSize_48 : decode cX12_atomSize 48 = .ok (.aload_n 0, 1) := by decide +kernel
theorem dX12_atomSize_49 : decode cX12_atomSize 49 = .ok (.getfield 222, 3) := by decide +kernel
theorem dX12_atomSize_52 : decode cX12_atomSize 52 = .ok (.invokevirtual 132, 3) := by decide +kernel
theorem dX12_atomSize_55 : decode cX12_atomSize 55 = .ok (.ireturn, 1) := by decide +kernel
theorem dX12_resultSize_0 : decode cX12_resultSize 0 = .ok (.iload_n 1, 1) := by decide +kernel
theorem dX12_resultSize_1 : decode cX12_resultSize 1 = .ok (.iconst 0, 1) := by decide +kernel
theorem dX12_resultSize_2 : decode cX12_resultSize 2 = .ok (.iconst 4, 1) := by decide +kernel
theorem dX12_resultSize_3 : decode cX12_resultSize 3 = .ok (.invokestatic 102, 3) := by decide +kernel
theorem dX12_resultSize_6 : decode cX12_resultSize 6 = .ok (.ifCond .ne 9, 3) := by decide +kernel
theorem dX12_resultSize_9 : decode cX12_resultSize 9 = .ok (.aload_n 0, 1) := by decide +kernel
theorem dX12_resultSize_10 : decode cX12_resultSize 10 = .ok (.iconst 1, 1) := by decide +kernel
theorem dX12_resultSize_11 : decode cX12_resultSize 11 = .ok (.invokevirtual 136, 3) := by decide +kernel
theorem dX12_resultSize_14 : decode cX12_resultSize 14 = .ok (.ireturn, 1) := by decide +kernel
theorem dX12_resultSize_15 : decode cX12_resultSize 15 = .ok (.iload_n 2, 1) := by decide +kernel
theorem dX12_resultSize_16 : decode cX12_resultSize 16 = .ok (.invokestatic 106, 3) := by decide +kernel
theorem dX12_resultSize_19 : decode cX12_resultSize 19 = .ok (.ifCond .eq 10, 3) := by decide +kernel
theorem dX12_resultSize_22 : decode cX12_resultSize 22 = .ok (.iload_n 3, 1) := by decide +kernel
theorem dX12_resultSize_23 : decode cX12_resultSize 23 = .ok (.invokestatic 106, 3) := by decide +kernel
theorem dX12_resultSize_26 : decode cX12_resultSize 26 = .ok (.ifCond .ne 9, 3) := by decide +kernel
theorem dX12_resultSize_29 : decode cX12_resultSize 29 = .ok (.aload_n 0, 1) := by decide +kernel
theorem dX12_resultSize_30 : decode cX12_resultSize 30 = .ok (.iconst 2, 1) := by decide +kernel
theorem dX12_resultSize_31 : decode cX12_resultSize 31 = .ok (.invokevirtual 136, 3) := by decide +kernel
theorem dX12_resultSize_34 : decode cX12_resultSize 34 = .ok (.ireturn, 1) := by decide +kernel
theorem dX12_resultSize_35 : decode cX12_resultSize 35 = .ok (.aload_n 0, 1) := by decide +kernel
theorem dX12_resultSize_36 : decode cX12_resultSize 36 = .ok (.iload_n 1, 1) := by decide +kernel
theorem dX12_resultSize_37 : decode cX12_resultSize 37 = .ok (.iload_n 2, 1) := by decide +kernel
theorem dX12_resultSize_38 : decode cX12_resultSize 38 = .ok (.iload_n 3, 1) := by decide +kernel
theorem dX12_resultSize_39 : decode cX12_resultSize 39 = .ok (.invokevirtual 231, 3) := by decide +kernel
theorem dX12_resultSize_42 : decode cX12_resultSize 42 = .ok (.aload_n 0, 1) := by decide +kernel
theorem dX12_resultSize_43 : decode cX12_resultSize 43 = .ok (.aload_n 0, 1) := by decide +kernel
theorem dX12_resultSize_44 : decode cX12_resultSize 44 = .ok (.getfield 222, 3) := by decide +kernel
theorem dX12_resultSize_47 : decode cX12_resultSize 47 = .ok (.invokevirtual 132, 3) := by decide +kernel
theorem dX12_resultSize_50 : decode cX12_resultSize 50 = .ok (.ireturn, 1) := by decide +kernel
theorem dX12_starSize_0 : decode cX12_starSize 0 = .ok (.iload_n 1, 1) := by decide +kernel
theorem dX12_starSize_1 : decode cX12_starSize 1 = .ok (.invokestatic 106, 3) := by decide +kernel
theorem dX12_starSize_4 : decode cX12_starSize 4 = .ok (.ifCond .ne 9, 3) := by decide +kernel
theorem dX12_starSize_7 : decode cX12_starSize 7 = .ok (.aload_n 0, 1) := by decide +kernel
theorem dX12_starSize_8 : decode cX12_starSize 8 = .ok (.iconst 1, 1) := by decide +kernel
theorem dX12_starSize_9 : decode cX12_starSize 9 = .ok (.invokevirtual 136, 3) := by decide +kernel
theorem dX12_starSize_12 : decode cX12_starSize 12 = .ok (.ireturn, 1) := by decide +kernel
theorem dX12_starSize_13 : decode cX12_starSize 13 = .ok (.aload_n 0, 1) := by decide +kernel
theorem dX12_starSize_14 : decode cX12_starSize 14 = .ok (.iconst 5, 1) := by decide +kernel
theorem dX12_starSize_15 : decode cX12_starSize 15 = .ok (.iload_n 1, 1) := by decide +kernel
theorem dX12_starSize_16 : decode cX12_starSize 16 = .ok (.iload_n 1, 1) := by decide +kernel
theorem dX12_starSize_17 : decode cX12_starSize 17 = .ok (.invokevirtual 231, 3) := by decide +kernel
theorem dX12_starSize_20 : decode cX12_starSize 20 = .ok (.aload_n 0, 1) := by decide +kernel
theorem dX12_starSize_21 : decode cX12_starSize 21 = .ok (.aload_n 0, 1) := by decide +kernel
theorem dX12_starSize_22 : decode cX12_starSize 22 = .ok (.getfield 222, 3) := by decide +kernel
theorem dX12_starSize_25 : decode cX12_starSize 25 = .ok (.invokevirtual 132, 3) := by decide +kernel
theorem dX12_starSize_28 : decode cX12_starSize 28 = .ok (.ireturn, 1) := by decide +kernel
theorem dX12_combine_0 : decode cX12_combine 0 = .ok (.iload_n 1, 1) := by decide +kernel
theorem dX12_combine_1 : decode cX12_combine 1 = .ok (.iconst 0, 1) := by decide +kernel
theorem dX12_combine_2 : decode cX12_combine 2 = .ok (.iconst 4, 1) := by decide +kernel
theorem dX12_combine_3 : decode cX12_combine 3 = .ok (.invokestatic 102, 3) := by decide +kernel
theorem dX12_combine_6 : decode cX12_combine 6 = .ok (.ifCond .ne 9, 3) := by decide +kernel
theorem dX12_combine_9 : decode cX12_combine 9 = .ok (.aload_n 0, 1) := by decide +kernel
theorem dX12_combine_10 : decode cX12_combine 10 = .ok (.iconst 1, 1) := by decide +kernel
theorem dX12_combine_11 : decode cX12_combine 11 = .ok (.invokevirtual 136, 3) := by decide +kernel
theorem dX12_combine_14 : decode cX12_combine 14 = .ok (.ireturn, 1) := by decide +kernel
theorem dX12_combine_15 : decode cX12_combine 15 = .ok (.iload_n 2, 1) := by decide +kernel
theorem dX12_combine_16 : decode cX12_combine 16 = .ok (.invokestatic 106, 3) := by decide +kernel
theorem dX12_combine_19 : decode cX12_combine 19 = .ok (.ifCond .eq 18, 3) := by decide +kernel
theorem dX12_combine_22 : decode cX12_combine 22 = .ok (.iload_n 3, 1) := by decide +kernel
theorem dX12_combine_23 : decode cX12_combine 23 = .ok (.invokestatic 106, 3) := by decide +kernel
theorem dX12_combine_26 : decode cX12_combine 26 = .ok (.ifCond .eq 11, 3) := by decide +kernel
theorem dX12_combine_29 : decode cX12_combine 29 = .ok (.iload 4, 2) := by decide +kernel
theorem dX12_combine_31 : decode cX12_combine 31 = .ok (.invokestatic 106, 3) := by decide +kernel
theorem dX12_combine_34 : decode cX12_combine 34 = .ok (.ifCond .ne 9, 3) := by decide +kernel
theorem dX12_combine_37 : decode cX12_combine 37 = .ok (.aload_n 0, 1) := by decide +kernel
theorem dX12_combine_38 : decode cX12_combine 38 = .ok (.iconst 2, 1) := by decide +kernel
theorem dX12_combine_39 : decode cX12_combine 39 = .ok (.invokevirtual 136, 3) := by decide +kernel
theorem dX12_combine_42 : decode cX12_combine 42 = .ok (.ireturn, 1) := by decide +kernel
theorem dX12_combine_43 : decode cX12_combine 43 = .ok (.aload_n 0, 1) := by decide +kernel
theorem dX12_combine_44 : decode cX12_combine 44 = .ok (.iload_n 1, 1) := by decide +kernel
theorem dX12_combine_45 : decode cX12_combine 45 = .ok (.iload_n 2, 1) := by decide +kernel
theorem dX12_combine_46 : decode cX12_combine 46 = .ok (.iload_n 3, 1) := by decide +kernel
theorem dX12_combine_47 : decode cX12_combine 47 = .ok (.invokevirtual 231, 3) := by decide +kernel
theorem dX12_combine_50 : decode cX12_combine 50 = .ok (.aload_n 0, 1) := by decide +kernel
theorem dX12_combine_51 : decode cX12_combine 51 = .ok (.getfield 222, 3) := by decide +kernel
theorem dX12_combine_54 : decode cX12_combine 54 = .ok (.bipush 6, 2) := by decide +kernel
theorem dX12_combine_56 : decode cX12_combine 56 = .ok (.if_icmp .le 11, 3) := by decide +kernel
theorem dX12_combine_59 : decode cX12_combine 59 = .ok (.aload_n 0, 1) := by decide +kernel
theorem dX12_combine_60 : decode cX12_combine 60 = .ok (.iconst 3, 1) := by decide +kernel
theorem dX12_combine_61 : decode cX12_combine 61 = .ok (.invokevirtual 136, 3) := by decide +kernel
theorem dX12_combine_64 : decode cX12_combine 64 = .ok (.goto 9, 3) := by decide +kernel
theorem dX12_combine_67 : decode cX12_combine 67 = .ok (.aload_n 0, 1) := by decide +kernel
theorem dX12_combine_68 : decode cX12_combine 68 = .ok (.iload 4, 2) := by decide +kernel
theorem dX12_combine_70 : decode cX12_combine 70 = .ok (.invokevirtual 235, 3) := by decide +kernel
theorem dX12_combine_73 : decode cX12_combine 73 = .ok (.ireturn, 1) := by decide +kernel
theorem dX12_star_0 : decode cX12_star 0 = .ok (.iload_n 1, 1) := by decide +kernel
theorem dX12_star_1 : decode cX12_star 1 = .ok (.invokestatic 106, 3) := by decide +kernel
theorem dX12_star_4 : decode cX12_star 4 = .ok (.ifCond .eq 10, 3) := by decide +kernel
theorem dX12_star_7 : decode cX12_star 7 = .ok (.iload_n 2, 1) := by decide +kernel
theorem dX12_star_8 : decode cX12_star 8 = .ok (.invokestatic 106, 3) := by decide +kernel
theorem dX12_star_11 : decode cX12_star 11 = .ok (.ifCond .ne 9, 3) := by decide +kernel
theorem dX12_star_14 : decode cX12_star 14 = .ok (.aload_n 0, 1) := by decide +kernel
theorem dX12_star_15 : decode cX12_star 15 = .ok (.iconst 1, 1) := by decide +kernel
theorem dX12_star_16 : decode cX12_star 16 = .ok (.invokevirtual 136, 3) := by decide +kernel
theorem dX12_star_19 : decode cX12_star 19 = .ok (.ireturn, 1) := by decide +kernel
theorem dX12_star_20 : decode cX12_star 20 = .ok (.aload_n 0, 1) := by decide +kernel
theorem dX12_star_21 : decode cX12_star 21 = .ok (.iconst 5, 1) := by decide +kernel
theorem dX12_star_22 : decode cX12_star 22 = .ok (.iload_n 1, 1) := by decide +kernel
theorem dX12_star_23 : decode cX12_star 23 = .ok (.iload_n 1, 1) := by decide +kernel
theorem dX12_star_24 : decode cX12_star 24 = .ok (.invokevirtual 231, 3) := by decide +kernel
theorem dX12_star_27 : decode cX12_star 27 = .ok (.aload_n 0, 1) := by decide +kernel
theorem dX12_star_28 : decode cX12_star 28 = .ok (.getfield 222, 3) := by decide +kernel
theorem dX12_star_31 : decode cX12_star 31 = .ok (.bipush 6, 2) := by decide +kernel
theorem dX12_star_33 : decode cX12_star 33 = .ok (.if_icmp .le 11, 3) := by decide +kernel
theorem dX12_star_36 : decode cX12_star 36 = .ok (.aload_n 0, 1) := by decide +kernel
theorem dX12_star_37 : decode cX12_star 37 = .ok (.iconst 2, 1) := by decide +kernel
theorem dX12_star_38 : decode cX12_star 38 = .ok (.invokevirtual 136, 3) := by decide +kernel
theorem dX12_star_41 : decode cX12_star 41 = .ok (.goto 8, 3) := by decide +kernel
theorem dX12_star_44 : decode cX12_star 44 = .ok (.aload_n 0, 1) := by decide +kernel
theorem dX12_star_45 : decode cX12_star 45 = .ok (.iload_n 2, 1) := by decide +kernel
theorem dX12_star_46 : decode cX12_star 46 = .ok (.invokevirtual 235, 3) := by decide +kernel
theorem dX12_star_49 : decode cX12_star 49 = .ok (.ireturn, 1) := by decide +kernel
theorem dX12_reverse_0 : decode cX12_reverse 0 = .ok (.iload_n 1, 1) := by decide +kernel
theorem dX12_reverse_1 : decode cX12_reverse 1 = .ok (.invokestatic 106, 3) := by decide +kernel
theorem dX12_reverse_4 : decode cX12_reverse 4 = .ok (.ifCond .eq 10, 3) := by decide +kernel
theorem dX12_reverse_7 : decode cX12_reverse 7 = .ok (.iload_n 2, 1) := by decide +kernel
theorem dX12_reverse_8 : decode cX12_reverse 8 = .ok (.invokestatic 106, 3) := by decide +kernel
theorem dX12_reverse_11 : decode cX12_reverse 11 = .ok (.ifCond .ne 9, 3) := by decide +kernel
theorem dX12_reverse_14 : decode cX12_reverse 14 = .ok (.aload_n 0, 1) := by decide +kernel
theorem dX12_reverse_15 : decode cX12_reverse 15 = .ok (.iconst 1, 1) := by decide +kernel
theorem dX12_reverse_16 : decode cX12_reverse 16 = .ok (.invokevirtual 136, 3) := by decide +kernel
theorem dX12_reverse_19 : decode cX12_reverse 19 = .ok (.ireturn, 1) := by decide +kernel
theorem dX12_reverse_20 : decode cX12_reverse 20 = .ok (.aload_n 0, 1) := by decide +kernel
theorem dX12_reverse_21 : decode cX12_reverse 21 = .ok (.bipush 6, 2) := by decide +kernel
theorem dX12_reverse_23 : decode cX12_reverse 23 = .ok (.iload_n 1, 1) := by decide +kernel
theorem dX12_reverse_24 : decode cX12_reverse 24 = .ok (.iload_n 1, 1) := by decide +kernel
theorem dX12_reverse_25 : decode cX12_reverse 25 = .ok (.invokevirtual 231, 3) := by decide +kernel
theorem dX12_reverse_28 : decode cX12_reverse 28 = .ok (.aload_n 0, 1) := by decide +kernel
theorem dX12_reverse_29 : decode cX12_reverse 29 = .ok (.getfield 222, 3) := by decide +kernel
theorem dX12_reverse_32 : decode cX12_reverse 32 = .ok (.bipush 6, 2) := by decide +kernel
theorem dX12_reverse_34 : decode cX12_reverse 34 = .ok (.if_icmp .le 11, 3) := by decide +kernel
theorem dX12_reverse_37 : decode cX12_reverse 37 = .ok (.aload_n 0, 1) := by decide +kernel
theorem dX12_reverse_38 : decode cX12_reverse 38 = .ok (.iconst 2, 1) := by decide +kernel
theorem dX12_reverse_39 : decode cX12_reverse 39 = .ok (.invokevirtual 136, 3) := by decide +kernel
theorem dX12_reverse_42 : decode cX12_reverse 42 = .ok (.goto 8, 3) := by decide +kernel
theorem dX12_reverse_45 : decode cX12_reverse 45 = .ok (.aload_n 0, 1) := by decide +kernel
theorem dX12_reverse_46 : decode cX12_reverse 46 = .ok (.iload_n 2, 1) := by decide +kernel
theorem dX12_reverse_47 : decode cX12_reverse 47 = .ok (.invokevirtual 235, 3) := by decide +kernel
theorem dX12_reverse_50 : decode cX12_reverse 50 = .ok (.ireturn, 1) := by decide +kernel
theorem dX12_uniteAtoms_0 : decode cX12_uniteAtoms 0 = .ok (.iload_n 1, 1) := by decide +kernel
theorem dX12_uniteAtoms_1 : decode cX12_uniteAtoms 1 = .ok (.invokestatic 106, 3) := by decide +kernel
theorem dX12_uniteAtoms_4 : decode cX12_uniteAtoms 4 = .ok (.ifCond .eq 11, 3) := by decide +kernel
theorem dX12_uniteAtoms_7 : decode cX12_uniteAtoms 7 = .ok (.iload 4, 2) := by decide +kernel
theorem dX12_uniteAtoms_9 : decode cX12_uniteAtoms 9 = .ok (.invokestatic 106, 3) := by decide +kernel
theorem dX12_uniteAtoms_12 : decode cX12_uniteAtoms 12 = .ok (.ifCond .ne 9, 3) := by decide +kernel
theorem dX12_uniteAtoms_15 : decode cX12_uniteAtoms 15 = .ok (.aload_n 0, 1) := by decide +kernel
theorem dX12_uniteAtoms_16 : decode cX12_uniteAtoms 16 = .ok (.iconst 1, 1) := by decide +kernel
theorem dX12_uniteAtoms_17 : decode cX12_uniteAtoms 17 = .ok (.invokevirtual 136, 3) := by decide +kernel
theorem dX12_uniteAtoms_20 : decode cX12_uniteAtoms 20 = .ok (.ireturn, 1) := by decide +kernel
theorem dX12_uniteAtoms_21 : decode cX12_uniteAtoms 21 = .ok (.aload_n 0, 1) := by decide +kernel
theorem dX12_uniteAtoms_22 : decode cX12_uniteAtoms 22 = .ok (.iload_n 1, 1) := by decide +kernel
theorem dX12_uniteAtoms_23 : decode cX12_uniteAtoms 23 = .ok (.invokevirtual 257, 3) := by decide +kernel
theorem dX12_uniteAtoms_26 : decode cX12_uniteAtoms 26 = .ok (.aload_n 0, 1) := by decide +kernel
theorem dX12_uniteAtoms_27 : decode cX12_uniteAtoms 27 = .ok (.getfield 195, 3) := by decide +kernel
theorem dX12_uniteAtoms_30 : decode cX12_uniteAtoms 30 = .ok (.bipush 64, 2) := by decide +kernel
theorem dX12_uniteAtoms_32 : decode cX12_uniteAtoms 32 = .ok (.if_icmp .ge 20, 3) := by decide +kernel
theorem dX12_uniteAtoms_35 : decode cX12_uniteAtoms 35 = .ok (.lload_n 2, 1) := by decide +kernel
theorem dX12_uniteAtoms_36 : decode cX12_uniteAtoms 36 = .ok (.aload_n 0, 1) := by decide +kernel
theorem dX12_uniteAtoms_37 : decode cX12_uniteAtoms 37 = .ok (.getfield 195, 3) := by decide +kernel
theorem dX12_uniteAtoms_40 : decode cX12_uniteAtoms 40 = .ok (.lushr, 1) := by decide +kernel
theorem dX12_uniteAtoms_41 : decode cX12_uniteAtoms 41 = .ok (.lconst 0, 1) := by decide +kernel
theorem dX12_uniteAtoms_42 : decode cX12_uniteAtoms 42 = .ok (.lcmp, 1) := by decide +kernel
theorem dX12_uniteAtoms_43 : decode cX12_uniteAtoms 43 = .ok (.ifCond .eq 9, 3) := by decide +kernel
theorem dX12_uniteAtoms_46 : decode cX12_uniteAtoms 46 = .ok (.aload_n 0, 1) := by decide +kernel
theorem dX12_uniteAtoms_47 : decode cX12_uniteAtoms 47 = .ok (.iconst 2, 1) := by decide +kernel
theorem dX12_uniteAtoms_48 : decode cX12_uniteAtoms 48 = .ok (.invokevirtual 136, 3) := by decide +kernel
theorem dX12_uniteAtoms_51 : decode cX12_uniteAtoms 51 = .ok (.ireturn, 1) := by decide +kernel
theorem dX12_uniteAtoms_52 : decode cX12_uniteAtoms 52 = .ok (.aload_n 0, 1) := by decide +kernel
theorem dX12_uniteAtoms_53 : decode cX12_uniteAtoms 53 = .ok (.lload_n 2, 1) := by decide +kernel
theorem dX12_uniteAtoms_54 : decode cX12_uniteAtoms 54 = .ok (.putfield 169, 3) := by decide +kernel
theorem dX12_uniteAtoms_57 : decode cX12_uniteAtoms 57 = .ok (.aload_n 0, 1) := by decide +kernel
theorem dX12_uniteAtoms_58 : decode cX12_uniteAtoms 58 = .ok (.bipush 7, 2) := by decide +kernel
theorem dX12_uniteAtoms_60 : decode cX12_uniteAtoms 60 = .ok (.putfield 156, 3) := by decide +kernel
theorem dX12_uniteAtoms_63 : decode cX12_uniteAtoms 63 = .ok (.aload_n 0, 1) := by decide +kernel
theorem dX12_uniteAtoms_64 : decode cX12_uniteAtoms 64 = .ok (.iload_n 1, 1) := by decide +kernel
theorem dX12_uniteAtoms_65 : decode cX12_uniteAtoms 65 = .ok (.putfield 173, 3) := by decide +kernel
theorem dX12_uniteAtoms_68 : decode cX12_uniteAtoms 68 = .ok (.aload_n 0, 1) := by decide +kernel
theorem dX12_uniteAtoms_69 : decode cX12_uniteAtoms 69 = .ok (.invokevirtual 264, 3) := by decide +kernel
theorem dX12_uniteAtoms_72 : decode cX12_uniteAtoms 72 = .ok (.ifCond .ne 9, 3) := by decide +kernel
theorem dX12_uniteAtoms_75 : decode cX12_uniteAtoms 75 = .ok (.aload_n 0, 1) := by decide +kernel
theorem dX12_uniteAtoms_76 : decode cX12_uniteAtoms 76 = .ok (.iconst 3, 1) := by decide +kernel
theorem dX12_uniteAtoms_77 : decode cX12_uniteAtoms 77 = .ok (.invokevirtual 136, 3) := by decide +kernel
theorem dX12_uniteAtoms_80 : decode cX12_uniteAtoms 80 = .ok (.ireturn, 1) := by decide +kernel
theorem dX12_uniteAtoms_81 : decode cX12_uniteAtoms 81 = .ok (.aload_n 0, 1) := by decide +kernel
theorem dX12_uniteAtoms_82 : decode cX12_uniteAtoms 82 = .ok (.bipush 7, 2) := by decide +kernel
theorem dX12_uniteAtoms_84 : decode cX12_uniteAtoms 84 = .ok (.iload_n 1, 1) := by decide +kernel
theorem dX12_uniteAtoms_85 : decode cX12_uniteAtoms 85 = .ok (.iload_n 1, 1) := by decide +kernel
theorem dX12_uniteAtoms_86 : decode cX12_uniteAtoms 86 = .ok (.invokevirtual 231, 3) := by decide +kernel
theorem dX12_uniteAtoms_89 : decode cX12_uniteAtoms 89 = .ok (.aload_n 0, 1) := by decide +kernel
theorem dX12_uniteAtoms_90 : decode cX12_uniteAtoms 90 = .ok (.iload 4, 2) := by decide +kernel
theorem dX12_uniteAtoms_92 : decode cX12_uniteAtoms 92 = .ok (.invokevirtual 235, 3) := by decide +kernel
theorem dX12_uniteAtoms_95 : decode cX12_uniteAtoms 95 = .ok (.ireturn, 1) := by decide +kernel
theorem dX12_isSmall_0 : decode cX12_isSmall 0 = .ok (.aload_n 0, 1) := by decide +kernel
theorem dX12_isSmall_1 : decode cX12_isSmall 1 = .ok (.iconst 0, 1) := by decide +kernel
theorem dX12_isSmall_2 : decode cX12_isSmall 2 = .ok (.putfield 153, 3) := by decide +kernel
theorem dX12_isSmall_5 : decode cX12_isSmall 5 = .ok (.aload_n 0, 1) := by decide +kernel
theorem dX12_isSmall_6 : decode cX12_isSmall 6 = .ok (.aload_n 0, 1) := by decide +kernel
theorem dX12_isSmall_7 : decode cX12_isSmall 7 = .ok (.getfield 169, 3) := by decide +kernel
theorem dX12_isSmall_10 : decode cX12_isSmall 10 = .ok (.invokevirtual 208, 3) := by decide +kernel
theorem dX12_isSmall_13 : decode cX12_isSmall 13 = .ok (.pop, 1) := by decide +kernel
theorem dX12_isSmall_14 : decode cX12_isSmall 14 = .ok (.iconst 0, 1) := by decide +kernel
theorem dX12_isSmall_15 : decode cX12_isSmall 15 = .ok (.istore_n 1, 1) := by decide +kernel
theorem dX12_isSmall_16 : decode cX12_isSmall 16 = .ok (.iload_n 1, 1) := by decide +kernel
theorem dX12_isSmall_17 : decode cX12_isSmall 17 = .ok (.aload_n 0, 1) := by decide +kernel
theorem dX12_isSmall_18 : decode cX12_isSmall 18 = .ok (.getfield 153, 3) := by decide +kernel
theorem dX12_isSmall_21 : decode cX12_isSmall 21 = .ok (.if_icmp .ge 47, 3) := by decide +kernel
theorem dX12_isSmall_24 : decode cX12_isSmall 24 = .ok (.aload_n 0, 1) := by decide +kernel
theorem dX12_isSmall_25 : decode cX12_isSmall 25 = .ok (.getfield 153, 3) := by decide +kernel
theorem dX12_isSmall_28 : decode cX12_isSmall 28 = .ok (.bipush 6, 2) := by decide +kernel
theorem dX12_isSmall_30 : decode cX12_isSmall 30 = .ok (.if_icmp .gt 38, 3) := by decide +kernel
theorem dX12_isSmall_33 : decode cX12_isSmall 33 = .ok (.iconst 0, 1) := by decide +kernel
theorem dX12_isSmall_34 : decode cX12_isSmall 34 = .ok (.istore_n 2, 1) := by decide +kernel
theorem dX12_isSmall_35 : decode cX12_isSmall 35 = .ok (.iload_n 2, 1) := by decide +kernel
theorem dX12_isSmall_36 : decode cX12_isSmall 36 = .ok (.iconst 3, 1) := by decide +kernel
theorem dX12_isSmall_37 : decode cX12_isSmall 37 = .ok (.if_icmp .ge 25, 3) := by decide +kernel
theorem dX12_isSmall_40 : decode cX12_isSmall 40 = .ok (.aload_n 0, 1) := by decide +kernel
theorem dX12_isSmall_41 : decode cX12_isSmall 41 = .ok (.aload_n 0, 1) := by decide +kernel
theorem dX12_isSmall_42 : decode cX12_isSmall 42 = .ok (.aload_n 0, 1) := by decide +kernel
theorem dX12_isSmall_43 : decode cX12_isSmall 43 = .ok (.getfield 49, 3) := by decide +kernel
theorem dX12_isSmall_46 : decode cX12_isSmall 46 = .ok (.iload_n 1, 1) := by decide +kernel
theorem dX12_isSmall_47 : decode cX12_isSmall 47 = .ok (.laload, 1) := by decide +kernel
theorem dX12_isSmall_48 : decode cX12_isSmall 48 = .ok (.iload_n 2, 1) := by decide +kernel
theorem dX12_isSmall_49 : decode cX12_isSmall 49 = .ok (.invokevirtual 192, 3) := by decide +kernel
theorem dX12_isSmall_52 : decode cX12_isSmall 52 = .ok (.invokevirtual 208, 3) := by decide +kernel
theorem dX12_isSmall_55 : decode cX12_isSmall 55 = .ok (.pop, 1) := by decide +kernel
theorem dX12_isSmall_56 : decode cX12_isSmall 56 = .ok (.iinc 2 1, 3) := by decide +kernel
theorem dX12_isSmall_59 : decode cX12_isSmall 59 = .ok (.goto (-24), 3) := by decide +kernel
theorem dX12_isSmall_62 : decode cX12_isSmall 62 = .ok (.iinc 1 1, 3) := by decide +kernel
theorem dX12_isSmall_65 : decode cX12_isSmall 65 = .ok (.goto (-49), 3) := by decide +kernel
theorem dX12_isSmall_68 : decode cX12_isSmall 68 = .ok (.aload_n 0, 1) := by decide +kernel
theorem dX12_isSmall_69 : decode cX12_isSmall 69 = .ok (.getfield 153, 3) := by decide +kernel
theorem dX12_isSmall_72 : decode cX12_isSmall 72 = .ok (.bipush 6, 2) := by decide +kernel
theorem dX12_isSmall_74 : decode cX12_isSmall 74 = .ok (.if_icmp .gt 7, 3) := by decide +kernel
theorem dX12_isSmall_77 : decode cX12_isSmall 77 = .ok (.iconst 1, 1) := by decide +kernel
theorem dX12_isSmall_78 : decode cX12_isSmall 78 = .ok (.goto 4, 3) := by decide +kernel
theorem dX12_isSmall_81 : decode cX12_isSmall 81 = .ok (.iconst 0, 1) := by decide +kernel
theorem dX12_isSmall_82 : decode cX12_isSmall 82 = .ok (.ireturn, 1) := by decide +kernel
theorem dX12_meets_0 : decode cX12_meets 0 = .ok (.iload_n 1, 1) := by decide +kernel
theorem dX12_meets_1 : decode cX12_meets 1 = .ok (.bipush 6, 2) := by decide +kernel
theorem dX12_meets_3 : decode cX12_meets 3 = .ok (.ishl, 1) := by decide +kernel
theorem dX12_meets_4 : decode cX12_meets 4 = .ok (.iload_n 2, 1) := by decide +kernel
theorem dX12_meets_5 : decode cX12_meets 5 = .ok (.ior, 1) := by decide +kernel
theorem dX12_meets_6 : decode cX12_meets 6 = .ok (.istore_n 3, 1) := by decide +kernel
theorem dX12_meets_7 : decode cX12_meets 7 = .ok (.aload_n 0, 1) := by decide +kernel
theorem dX12_meets_8 : decode cX12_meets 8 = .ok (.getfield 86, 3) := by decide +kernel
theorem dX12_meets_11 : decode cX12_meets 11 = .ok (.iload_n 3, 1) := by decide +kernel
theorem dX12_meets_12 : decode cX12_meets 12 = .ok (.baload, 1) := by decide +kernel
theorem dX12_meets_13 : decode cX12_meets 13 = .ok (.ifCond .ne 30, 3) := by decide +kernel
theorem dX12_meets_16 : decode cX12_meets 16 = .ok (.aload_n 0, 1) := by decide +kernel
theorem dX12_meets_17 : decode cX12_meets 17 = .ok (.getfield 86, 3) := by decide +kernel
theorem dX12_meets_20 : decode cX12_meets 20 = .ok (.iload_n 3, 1) := by decide +kernel
theorem dX12_meets_21 : decode cX12_meets 21 = .ok (.iconst 1, 1) := by decide +kernel
theorem dX12_meets_22 : decode cX12_meets 22 = .ok (.bastore, 1) := by decide +kernel
theorem dX12_meets_23 : decode cX12_meets 23 = .ok (.aload_n 0, 1) := by decide +kernel
theorem dX12_meets_24 : decode cX12_meets 24 = .ok (.getfield 89, 3) := by decide +kernel
theorem dX12_meets_27 : decode cX12_meets 27 = .ok (.aload_n 0, 1) := by decide +kernel
theorem dX12_meets_28 : decode cX12_meets 28 = .ok (.getfield 268, 3) := by decide +kernel
theorem dX12_meets_31 : decode cX12_meets 31 = .ok (.iload_n 3, 1) := by decide +kernel
theorem dX12_meets_32 : decode cX12_meets 32 = .ok (.iastore, 1) := by decide +kernel
theorem dX12_meets_33 : decode cX12_meets 33 = .ok (.aload_n 0, 1) := by decide +kernel
theorem dX12_meets_34 : decode cX12_meets 34 = .ok (.dup, 1) := by decide +kernel
theorem dX12_meets_35 : decode cX12_meets 35 = .ok (.getfield 268, 3) := by decide +kernel
theorem dX12_meets_38 : decode cX12_meets 38 = .ok (.iconst 1, 1) := by decide +kernel
theorem dX12_meets_39 : decode cX12_meets 39 = .ok (.iadd, 1) := by decide +kernel
theorem dX12_meets_40 : decode cX12_meets 40 = .ok (.putfield 268, 3) := by decide +kernel
theorem dX12_meets_43 : decode cX12_meets 43 = .ok (.return_, 1) := by decide +kernel
theorem dX12_backFrom_0 : decode cX12_backFrom 0 = .ok (.iconst 0, 1) := by decide +kernel
theorem dX12_backFrom_1 : decode cX12_backFrom 1 = .ok (.istore 4, 2) := by decide +kernel
theorem dX12_backFrom_3 : decode cX12_backFrom 3 = .ok (.iconst 0, 1) := by decide +kernel
theorem dX12_backFrom_4 : decode cX12_backFrom 4 = .ok (.istore 5, 2) := by decide +kernel
theorem dX12_backFrom_6 : decode cX12_backFrom 6 = .ok (.iload 5, 2) := by decide +kernel
theorem dX12_backFrom_8 : decode cX12_backFrom 8 = .ok (.aload_n 0, 1) := by decide +kernel
theorem dX12_backFrom_9 : decode cX12_backFrom 9 = .ok (.getfield 7, 3) := by decide +kernel
theorem dX12_backFrom_12 : decode cX12_backFrom 12 = .ok (.iload_n 1, 1) := by decide +kernel
theorem dX12_backFrom_13 : decode cX12_backFrom 13 = .ok (.iaload, 1) := by decide +kernel
theorem dX12_backFrom_14 : decode cX12_backFrom 14 = .ok (.if_icmp .ge 42, 3) := by decide +kernel
theorem dX12_backFrom_17 : decode cX12_backFrom 17 = .ok (.iload 4, 2) := by decide +kernel
theorem dX12_backFrom_19 : decode cX12_backFrom 19 = .ok (.iload_n 2, 1) := by decide +kernel
theorem dX12_backFrom_20 : decode cX12_backFrom 20 = .ok (.aload_n 0, 1) := by decide +kernel
theorem dX12_backFrom_21 : decode cX12_backFrom 21 = .ok (.getfield 13, 3) := by decide +kernel
theorem dX12_backFrom_24 : decode cX12_backFrom 24 = .ok (.iload_n 1, 1) := by decide +kernel
theorem dX12_backFrom_25 : decode cX12_backFrom 25 = .ok (.iload 5, 2) := by decide +kernel
theorem dX12_backFrom_27 : decode cX12_backFrom 27 = .ok (.iload_n 3, 1) := by decide +kernel
theorem dX12_backFrom_28 : decode cX12_backFrom 28 = .ok (.invokestatic 110, 3) := by decide +kernel
theorem dX12_backFrom_31 : decode cX12_backFrom 31 = .ok (.iaload, 1) := by decide +kernel
theorem dX12_backFrom_32 : decode cX12_backFrom 32 = .ok (.ishr, 1) := by decide +kernel
theorem dX12_backFrom_33 : decode cX12_backFrom 33 = .ok (.iconst 1, 1) := by decide +kernel
theorem dX12_backFrom_34 : decode cX12_backFrom 34 = .ok (.iand, 1) := by decide +kernel
theorem dX12_backFrom_35 : decode cX12_backFrom 35 = .ok (.iconst 1, 1) := by decide +kernel
theorem dX12_backFrom_36 : decode cX12_backFrom 36 = .ok (.if_icmp .ne 10, 3) := by decide +kernel
theorem dX12_backFrom_39 : decode cX12_backFrom 39 = .ok (.iconst 1, 1) := by decide +kernel
theorem dX12_backFrom_40 : decode cX12_backFrom 40 = .ok (.iload 5, 2) := by decide +kernel
theorem dX12_backFrom_42 : decode cX12_backFrom 42 = .ok (.ishl, 1) := by decide +kernel
theorem dX12_backFrom_43 : decode cX12_backFrom 43 = .ok (.goto 4, 3) := by decide +kernel
theorem dX12_backFrom_46 : decode cX12_backFrom 46 = .ok (.iconst 0, 1) := by decide +kernel
theorem dX12_backFrom_47 : decode cX12_backFrom 47 = .ok (.ior, 1) := by decide +kernel
theorem dX12_backFrom_48 : decode cX12_backFrom 48 = .ok (.istore 4, 2) := by decide +kernel
theorem dX12_backFrom_50 : decode cX12_backFrom 50 = .ok (.iinc 5 1, 3) := by decide +kernel
theorem dX12_backFrom_53 : decode cX12_backFrom 53 = .ok (.goto (-47), 3) := by decide +kernel
theorem dX12_backFrom_56 : decode cX12_backFrom 56 = .ok (.iload 4, 2) := by decide +kernel
theorem dX12_backFrom_58 : decode cX12_backFrom 58 = .ok (.ireturn, 1) := by decide +kernel
theorem dX12_finalsOf_0 : decode cX12_finalsOf 0 = .ok (.iconst 0, 1) := by decide +kernel
theorem dX12_finalsOf_1 : decode cX12_finalsOf 1 = .ok (.istore_n 2, 1) := by decide +kernel
theorem dX12_finalsOf_2 : decode cX12_finalsOf 2 = .ok (.iconst 0, 1) := by decide +kernel
theorem dX12_finalsOf_3 : decode cX12_finalsOf 3 = .ok (.istore_n 3, 1) := by decide +kernel
theorem dX12_finalsOf_4 : decode cX12_finalsOf 4 = .ok (.iload_n 3, 1) := by decide +kernel
theorem dX12_finalsOf_5 : decode cX12_finalsOf 5 = .ok (.aload_n 0, 1) := by decide +kernel
theorem dX12_finalsOf_6 : decode cX12_finalsOf 6 = .ok (.getfield 7, 3) := by decide +kernel
theorem dX12_finalsOf_9 : decode cX12_finalsOf 9 = .ok (.iload_n 1, 1) := by decide +kernel
theorem dX12_finalsOf_10 : decode cX12_finalsOf 10 = .ok (.iaload, 1) := by decide +kernel
theorem dX12_finalsOf_11 : decode cX12_finalsOf 11 = .ok (.if_icmp .ge 33, 3) := by decide +kernel
theorem dX12_finalsOf_14 : decode cX12_finalsOf 14 = .ok (.iload_n 2, 1) := by decide +kernel
theorem dX12_finalsOf_15 : decode cX12_finalsOf 15 = .ok (.aload_n 0, 1) := by decide +kernel
theorem dX12_finalsOf_16 : decode cX12_finalsOf 16 = .ok (.getfield 16, 3) := by decide +kernel
theorem dX12_finalsOf_19 : decode cX12_finalsOf 19 = .ok (.bipush 6, 2) := by decide +kernel
theorem dX12_finalsOf_21 : decode cX12_finalsOf 21 = .ok (.iload_n 1, 1) := by decide +kernel
theorem dX12_finalsOf_22 : decode cX12_finalsOf 22 = .ok (.imul, 1) := by decide +kernel
theorem dX12_finalsOf_23 : decode cX12_finalsOf 23 = .ok (.iload_n 3, 1) := by decide +kernel
theorem dX12_finalsOf_24 : decode cX12_finalsOf 24 = .ok (.iadd, 1) := by decide +kernel
theorem dX12_finalsOf_25 : decode cX12_finalsOf 25 = .ok (.baload, 1) := by decide +kernel
theorem dX12_finalsOf_26 : decode cX12_finalsOf 26 = .ok (.ifCond .eq 9, 3) := by decide +kernel
theorem dX12_finalsOf_29 : decode cX12_finalsOf 29 = .ok (.iconst 1, 1) := by decide +kernel
theorem dX12_finalsOf_30 : decode cX12_finalsOf 30 = .ok (.iload_n 3, 1) := by decide +kernel
theorem dX12_finalsOf_31 : decode cX12_finalsOf 31 = .ok (.ishl, 1) := by decide +kernel
theorem dX12_finalsOf_32 : decode cX12_finalsOf 32 = .ok (.goto 4, 3) := by decide +kernel
theorem dX12_finalsOf_35 : decode cX12_finalsOf 35 = .ok (.iconst 0, 1) := by decide +kernel
theorem dX12_finalsOf_36 : decode cX12_finalsOf 36 = .ok (.ior, 1) := by decide +kernel
theorem dX12_finalsOf_37 : decode cX12_finalsOf 37 = .ok (.istore_n 2, 1) := by decide +kernel
theorem dX12_finalsOf_38 : decode cX12_finalsOf 38 = .ok (.iinc 3 1, 3) := by decide +kernel
theorem dX12_finalsOf_41 : decode cX12_finalsOf 41 = .ok (.goto (-37), 3) := by decide +kernel
theorem dX12_finalsOf_44 : decode cX12_finalsOf 44 = .ok (.iload_n 2, 1) := by decide +kernel
theorem dX12_finalsOf_45 : decode cX12_finalsOf 45 = .ok (.ireturn, 1) := by decide +kernel
theorem dX12_isUnionOfAtoms_0 : decode cX12_isUnionOfAtoms 0 = .ok (.iload_n 1, 1) := by decide +kernel
theorem dX12_isUnionOfAtoms_1 : decode cX12_isUnionOfAtoms 1 = .ok (.invokestatic 106, 3) := by decide +kernel
theorem dX12_isUnionOfAtoms_4 : decode cX12_isUnionOfAtoms 4 = .ok (.ifCond .eq 10, 3) := by decide +kernel
theorem dX12_isUnionOfAtoms_7 : decode cX12_isUnionOfAtoms 7 = .ok (.iload_n 2, 1) := by decide +kernel
theorem dX12_isUnionOfAtoms_8 : decode cX12_isUnionOfAtoms 8 = .ok (.invokestatic 106, 3) := by decide +kernel
theorem dX12_isUnionOfAtoms_11 : decode cX12_isUnionOfAtoms 11 = .ok (.ifCond .ne 9, 3) := by decide +kernel
theorem dX12_isUnionOfAtoms_14 : decode cX12_isUnionOfAtoms 14 = .ok (.aload_n 0, 1) := by decide +kernel
theorem dX12_isUnionOfAtoms_15 : decode cX12_isUnionOfAtoms 15 = .ok (.iconst 1, 1) := by decide +kernel
theorem dX12_isUnionOfAtoms_16 : decode cX12_isUnionOfAtoms 16 = .ok (.invokevirtual 125, 3) := by decide +kernel
theorem dX12_isUnionOfAtoms_19 : decode cX12_isUnionOfAtoms 19 = .ok (.ireturn, 1) := by decide +kernel
theorem dX12_isUnionOfAtoms_20 : decode cX12_isUnionOfAtoms 20 = .ok (.aload_n 0, 1) := by decide +kernel
theorem dX12_isUnionOfAtoms_21 : decode cX12_isUnionOfAtoms 21 = .ok (.iload_n 1, 1) := by decide +kernel
theorem dX12_isUnionOfAtoms_22 : decode cX12_isUnionOfAtoms 22 = .ok (.invokevirtual 244, 3) := by decide +kernel
theorem dX12_isUnionOfAtoms_25 : decode cX12_isUnionOfAtoms 25 = .ok (.iconst 0, 1) := by decide +kernel
theorem dX12_isUnionOfAtoms_26 : decode cX12_isUnionOfAtoms 26 = .ok (.istore_n 3, 1) := by decide +kernel
theorem dX12_isUnionOfAtoms_27 : decode cX12_isUnionOfAtoms 27 = .ok (.iload_n 3, 1) := by decide +kernel
theorem dX12_isUnionOfAtoms_28 : decode cX12_isUnionOfAtoms 28 = .ok (.sipush 4096, 3) := by decide +kernel
theorem dX12_isUnionOfAtoms_31 : decode cX12_isUnionOfAtoms 31 = .ok (.if_icmp .ge 16, 3) := by decide +kernel
theorem dX12_isUnionOfAtoms_34 : decode cX12_isUnionOfAtoms 34 = .ok (.aload_n 0, 1) := by decide +kernel
theorem dX12_isUnionOfAtoms_35 : decode cX12_isUnionOfAtoms 35 = .ok (.getfield 86, 3) := by decide +kernel
theorem dX12_isUnionOfAtoms_38 : decode cX12_isUnionOfAtoms 38 = .ok (.iload_n 3, 1) := by decide +kernel
theorem dX12_isUnionOfAtoms_39 : decode cX12_isUnionOfAtoms 39 = .ok (.iconst 0, 1) := by decide +kernel
theorem dX12_isUnionOfAtoms_40 : decode cX12_isUnionOfAtoms 40 = .ok (.bastore, 1) := by decide +kernel
theorem dX12_isUnionOfAtoms_41 : decode cX12_isUnionOfAtoms 41 = .ok (.iinc 3 1, 3) := by decide +kernel
theorem dX12_isUnionOfAtoms_44 : decode cX12_isUnionOfAtoms 44 = .ok (.goto (-17), 3) := by decide +kernel
theorem dX12_isUnionOfAtoms_47 : decode cX12_isUnionOfAtoms 47 = .ok (.aload_n 0, 1) := by decide +kernel
theorem dX12_isUnionOfAtoms_48 : decode cX12_isUnionOfAtoms 48 = .ok (.iconst 0, 1) := by decide +kernel
theorem dX12_isUnionOfAtoms_49 : decode cX12_isUnionOfAtoms 49 = .ok (.putfield 268, 3) := by decide +kernel
theorem dX12_isUnionOfAtoms_52 : decode cX12_isUnionOfAtoms 52 = .ok (.aload_n 0, 1) := by decide +kernel
theorem dX12_isUnionOfAtoms_53 : decode cX12_isUnionOfAtoms 53 = .ok (.aload_n 0, 1) := by decide +kernel
theorem dX12_isUnionOfAtoms_54 : decode cX12_isUnionOfAtoms 54 = .ok (.iload_n 1, 1) := by decide +kernel
theorem dX12_isUnionOfAtoms_55 : decode cX12_isUnionOfAtoms 55 = .ok (.invokevirtual 271, 3) := by decide +kernel
theorem dX12_isUnionOfAtoms_58 : decode cX12_isUnionOfAtoms 58 = .ok (.aload_n 0, 1) := by decide +kernel
theorem dX12_isUnionOfAtoms_59 : decode cX12_isUnionOfAtoms 59 = .ok (.iload_n 2, 1) := by decide +kernel
theorem dX12_isUnionOfAtoms_60 : decode cX12_isUnionOfAtoms 60 = .ok (.invokevirtual 271, 3) := by decide +kernel
theorem dX12_isUnionOfAtoms_63 : decode cX12_isUnionOfAtoms 63 = .ok (.invokevirtual 274, 3) := by decide +kernel
theorem dX12_isUnionOfAtoms_66 : decode cX12_isUnionOfAtoms 66 = .ok (.iconst 0, 1) := by decide +kernel
theorem dX12_isUnionOfAtoms_67 : decode cX12_isUnionOfAtoms 67 = .ok (.istore_n 3, 1) := by decide +kernel
theorem dX12_isUnionOfAtoms_68 : decode cX12_isUnionOfAtoms 68 = .ok (.iload_n 3, 1) := by decide +kernel
theorem dX12_isUnionOfAtoms_69 : decode cX12_isUnionOfAtoms 69 = .ok (.aload_n 0, 1) := by decide +kernel
theorem dX12_isUnionOfAtoms_70 : decode cX12_isUnionOfAtoms 70 = .ok (.getfield 268, 3) := by decide +kernel
theorem dX12_isUnionOfAtoms_73 : decode cX12_isUnionOfAtoms 73 = .ok (.if_icmp .ge 60, 3) := by decide +kernel
theorem dX12_isUnionOfAtoms_76 : decode cX12_isUnionOfAtoms 76 = .ok (.iconst 0, 1) := by decide +kernel
theorem dX12_isUnionOfAtoms_77 : decode cX12_isUnionOfAtoms 77 = .ok (.istore 4, 2) := by decide +kernel
theorem dX12_isUnionOfAtoms_79 : decode cX12_isUnionOfAtoms 79 = .ok (.iload 4, 2) := by decide +kernel
theorem dX12_isUnionOfAtoms_81 : decode cX12_isUnionOfAtoms 81 = .ok (.iconst 3, 1) := by decide +kernel
theorem dX12_isUnionOfAtoms_82 : decode cX12_isUnionOfAtoms 82 = .ok (.if_icmp .ge 45, 3) := by decide +kernel
theorem dX12_isUnionOfAtoms_85 : decode cX12_isUnionOfAtoms 85 = .ok (.aload_n 0, 1) := by decide +kernel
theorem dX12_isUnionOfAtoms_86 : decode cX12_isUnionOfAtoms 86 = .ok (.aload_n 0, 1) := by decide +kernel
theorem dX12_isUnionOfAtoms_87 : decode cX12_isUnionOfAtoms 87 = .ok (.iload_n 1, 1) := by decide +kernel
theorem dX12_isUnionOfAtoms_88 : decode cX12_isUnionOfAtoms 88 = .ok (.aload_n 0, 1) := by decide +kernel
theorem dX12_isUnionOfAtoms_89 : decode cX12_isUnionOfAtoms 89 = .ok (.getfield 89, 3) := by decide +kernel
theorem dX12_isUnionOfAtoms_92 : decode cX12_isUnionOfAtoms 92 = .ok (.iload_n 3, 1) := by decide +kernel
theorem dX12_isUnionOfAtoms_93 : decode cX12_isUnionOfAtoms 93 = .ok (.iaload, 1) := by decide +kernel
theorem dX12_isUnionOfAtoms_94 : decode cX12_isUnionOfAtoms 94 = .ok (.bipush 6, 2) := by decide +kernel
theorem dX12_isUnionOfAtoms_96 : decode cX12_isUnionOfAtoms 96 = .ok (.ishr, 1) := by decide +kernel
theorem dX12_isUnionOfAtoms_97 : decode cX12_isUnionOfAtoms 97 = .ok (.iload 4, 2) := by decide +kernel
theorem dX12_isUnionOfAtoms_99 : decode cX12_isUnionOfAtoms 99 = .ok (.invokevirtual 277, 3) := by decide +kernel
theorem dX12_isUnionOfAtoms_102 : decode cX12_isUnionOfAtoms 102 = .ok (.aload_n 0, 1) := by decide +kernel
theorem dX12_isUnionOfAtoms_103 : decode cX12_isUnionOfAtoms 103 = .ok (.iload_n 2, 1) := by decide +kernel
theorem dX12_isUnionOfAtoms_104 : decode cX12_isUnionOfAtoms 104 = .ok (.aload_n 0, 1) := by decide +kernel
theorem dX12_isUnionOfAtoms_105 : decode cX12_isUnionOfAtoms 105 = .ok (.getfield 89, 3) := by decide +kernel
theorem dX12_isUnionOfAtoms_108 : decode cX12_isUnionOfAtoms 108 = .ok (.iload_n 3, 1) := by decide +kernel
theorem dX12_isUnionOfAtoms_109 : decode cX12_isUnionOfAtoms 109 = .ok (.iaload, 1) := by decide +kernel
theorem dX12_isUnionOfAtoms_110 : decode cX12_isUnionOfAtoms 110 = .ok (.bipush 63, 2) := by decide +kernel
theorem dX12_isUnionOfAtoms_112 : decode cX12_isUnionOfAtoms 112 = .ok (.iand, 1) := by decide +kernel
theorem dX12_isUnionOfAtoms_113 : decode cX12_isUnionOfAtoms 113 = .ok (.iload 4, 2) := by decide +kernel
theorem dX12_isUnionOfAtoms_115 : decode cX12_isUnionOfAtoms 115 = .ok (.invokevirtual 277, 3) := by decide +kernel
theorem dX12_isUnionOfAtoms_118 : decode cX12_isUnionOfAtoms 118 = .ok (.invokevirtual 274, 3) := by decide +kernel
theorem dX12_isUnionOfAtoms_121 : decode cX12_isUnionOfAtoms 121 = .ok (.iinc 4 1, 3) := by decide +kernel
theorem dX12_isUnionOfAtoms_124 : decode cX12_isUnionOfAtoms 124 = .ok (.goto (-45), 3) := by decide +kernel
theorem dX12_isUnionOfAtoms_127 : decode cX12_isUnionOfAtoms 127 = .ok (.iinc 3 1, 3) := by decide +kernel
theorem dX12_isUnionOfAtoms_130 : decode cX12_isUnionOfAtoms 130 = .ok (.goto (-62), 3) := by decide +kernel
theorem dX12_isUnionOfAtoms_133 : decode cX12_isUnionOfAtoms 133 = .ok (.lconst 0, 1) := by decide +kernel
theorem dX12_isUnionOfAtoms_134 : decode cX12_isUnionOfAtoms 134 = .ok (.lstore_n 3, 1) := by decide +kernel
theorem dX12_isUnionOfAtoms_135 : decode cX12_isUnionOfAtoms 135 = .ok (.lconst 0, 1) := by decide +kernel
theorem dX12_isUnionOfAtoms_136 : decode cX12_isUnionOfAtoms 136 = .ok (.lstore 5, 2) := by decide +kernel
theorem dX12_isUnionOfAtoms_138 : decode cX12_isUnionOfAtoms 138 = .ok (.iconst 0, 1) := by decide +kernel
theorem dX12_isUnionOfAtoms_139 : decode cX12_isUnionOfAtoms 139 = .ok (.istore 7, 2) := by decide +kernel
theorem dX12_isUnionOfAtoms_141 : decode cX12_isUnionOfAtoms 141 = .ok (.iload 7, 2) := by decide +kernel
theorem dX12_isUnionOfAtoms_143 : decode cX12_isUnionOfAtoms 143 = .ok (.aload_n 0, 1) := by decide +kernel
theorem dX12_isUnionOfAtoms_144 : decode cX12_isUnionOfAtoms 144 = .ok (.getfield 268, 3) := by decide +kernel
theorem dX12_isUnionOfAtoms_147 : decode cX12_isUnionOfAtoms 147 = .ok (.if_icmp .ge 78, 3) := by decide +kernel
theorem dX12_isUnionOfAtoms_150 : decode cX12_isUnionOfAtoms 150 = .ok (.lconst 1, 1) := by decide +kernel
theorem dX12_isUnionOfAtoms_151 : decode cX12_isUnionOfAtoms 151 = .ok (.aload_n 0, 1) := by decide +kernel
theorem dX12_isUnionOfAtoms_152 : decode cX12_isUnionOfAtoms 152 = .ok (.aload_n 0, 1) := by decide +kernel
theorem dX12_isUnionOfAtoms_153 : decode cX12_isUnionOfAtoms 153 = .ok (.aload_n 0, 1) := by decide +kernel
theorem dX12_isUnionOfAtoms_154 : decode cX12_isUnionOfAtoms 154 = .ok (.getfield 89, 3) := by decide +kernel
theorem dX12_isUnionOfAtoms_157 : decode cX12_isUnionOfAtoms 157 = .ok (.iload 7, 2) := by decide +kernel
theorem dX12_isUnionOfAtoms_159 : decode cX12_isUnionOfAtoms 159 = .ok (.iaload, 1) := by decide +kernel
theorem dX12_isUnionOfAtoms_160 : decode cX12_isUnionOfAtoms 160 = .ok (.bipush 6, 2) := by decide +kernel
theorem dX12_isUnionOfAtoms_162 : decode cX12_isUnionOfAtoms 162 = .ok (.ishr, 1) := by decide +kernel
theorem dX12_isUnionOfAtoms_163 : decode cX12_isUnionOfAtoms 163 = .ok (.i2l, 1) := by decide +kernel
theorem dX12_isUnionOfAtoms_164 : decode cX12_isUnionOfAtoms 164 = .ok (.invokevirtual 241, 3) := by decide +kernel
theorem dX12_isUnionOfAtoms_167 : decode cX12_isUnionOfAtoms 167 = .ok (.invokevirtual 251, 3) := by decide +kernel
theorem dX12_isUnionOfAtoms_170 : decode cX12_isUnionOfAtoms 170 = .ok (.lshl, 1) := by decide +kernel
theorem dX12_isUnionOfAtoms_171 : decode cX12_isUnionOfAtoms 171 = .ok (.lstore 8, 2) := by decide +kernel
theorem dX12_isUnionOfAtoms_173 : decode cX12_isUnionOfAtoms 173 = .ok (.lload_n 3, 1) := by decide +kernel
theorem dX12_isUnionOfAtoms_174 : decode cX12_isUnionOfAtoms 174 = .ok (.aload_n 0, 1) := by decide +kernel
theorem dX12_isUnionOfAtoms_175 : decode cX12_isUnionOfAtoms 175 = .ok (.getfield 89, 3) := by decide +kernel
theorem dX12_isUnionOfAtoms_178 : decode cX12_isUnionOfAtoms 178 = .ok (.iload 7, 2) := by decide +kernel
theorem dX12_isUnionOfAtoms_180 : decode cX12_isUnionOfAtoms 180 = .ok (.iaload, 1) := by decide +kernel
theorem dX12_isUnionOfAtoms_181 : decode cX12_isUnionOfAtoms 181 = .ok (.iconst 1, 1) := by decide +kernel
theorem dX12_isUnionOfAtoms_182 : decode cX12_isUnionOfAtoms 182 = .ok (.iand, 1) := by decide +kernel
theorem dX12_isUnionOfAtoms_183 : decode cX12_isUnionOfAtoms 183 = .ok (.iconst 1, 1) := by decide +kernel
theorem dX12_isUnionOfAtoms_184 : decode cX12_isUnionOfAtoms 184 = .ok (.if_icmp .ne 8, 3) := by decide +kernel
theorem dX12_isUnionOfAtoms_187 : decode cX12_isUnionOfAtoms 187 = .ok (.lload 8, 2) := by decide +kernel
theorem dX12_isUnionOfAtoms_189 : decode cX12_isUnionOfAtoms 189 = .ok (.goto 4, 3) := by decide +kernel
theorem dX12_isUnionOfAtoms_192 : decode cX12_isUnionOfAtoms 192 = .ok (.lconst 0, 1) := by decide +kernel
theorem dX12_isUnionOfAtoms_193 : decode cX12_isUnionOfAtoms 193 = .ok (.lor, 1) := by decide +kernel
theorem dX12_isUnionOfAtoms_194 : decode cX12_isUnionOfAtoms 194 = .ok (.lstore_n 3, 1) := by decide +kernel
theorem dX12_isUnionOfAtoms_195 : decode cX12_isUnionOfAtoms 195 = .ok (.lload 5, 2) := by decide +kernel
theorem dX12_isUnionOfAtoms_197 : decode cX12_isUnionOfAtoms 197 = .ok (.aload_n 0, 1) := by decide +kernel
theorem dX12_isUnionOfAtoms_198 : decode cX12_isUnionOfAtoms 198 = .ok (.getfield 89, 3) := by decide +kernel
theorem dX12_isUnionOfAtoms_201 : decode cX12_isUnionOfAtoms 201 = .ok (.iload 7, 2) := by decide +kernel
theorem dX12_isUnionOfAtoms_203 : decode cX12_isUnionOfAtoms 203 = .ok (.iaload, 1) := by decide +kernel
theorem dX12_isUnionOfAtoms_204 : decode cX12_isUnionOfAtoms 204 = .ok (.iconst 1, 1) := by decide +kernel
theorem dX12_isUnionOfAtoms_205 : decode cX12_isUnionOfAtoms 205 = .ok (.iand, 1) := by decide +kernel
theorem dX12_isUnionOfAtoms_206 : decode cX12_isUnionOfAtoms 206 = .ok (.iconst 1, 1) := by decide +kernel
theorem dX12_isUnionOfAtoms_207 : decode cX12_isUnionOfAtoms 207 = .ok (.if_icmp .ne 7, 3) := by decide +kernel
theorem dX12_isUnionOfAtoms_210 : decode cX12_isUnionOfAtoms 210 = .ok (.lconst 0, 1) := by decide +kernel
theorem dX12_isUnionOfAtoms_211 : decode cX12_isUnionOfAtoms 211 = .ok (.goto 5, 3) := by decide +kernel
theorem dX12_isUnionOfAtoms_214 : decode cX12_isUnionOfAtoms 214 = .ok (.lload 8, 2) := by decide +kernel
theorem dX12_isUnionOfAtoms_216 : decode cX12_isUnionOfAtoms 216 = .ok (.lor, 1) := by decide +kernel
theorem dX12_isUnionOfAtoms_217 : decode cX12_isUnionOfAtoms 217 = .ok (.lstore 5, 2) := by decide +kernel
theorem dX12_isUnionOfAtoms_219 : decode cX12_isUnionOfAtoms 219 = .ok (.iinc 7 1, 3) := by decide +kernel
theorem dX12_isUnionOfAtoms_222 : decode cX12_isUnionOfAtoms 222 = .ok (.goto (-81), 3) := by decide +kernel
theorem dX12_isUnionOfAtoms_225 : decode cX12_isUnionOfAtoms 225 = .ok (.aload_n 0, 1) := by decide +kernel
theorem dX12_isUnionOfAtoms_226 : decode cX12_isUnionOfAtoms 226 = .ok (.lload_n 3, 1) := by decide +kernel
theorem dX12_isUnionOfAtoms_227 : decode cX12_isUnionOfAtoms 227 = .ok (.lload 5, 2) := by decide +kernel
theorem dX12_isUnionOfAtoms_229 : decode cX12_isUnionOfAtoms 229 = .ok (.land, 1) := by decide +kernel
theorem dX12_isUnionOfAtoms_230 : decode cX12_isUnionOfAtoms 230 = .ok (.lconst 0, 1) := by decide +kernel
theorem dX12_isUnionOfAtoms_231 : decode cX12_isUnionOfAtoms 231 = .ok (.lcmp, 1) := by decide +kernel
theorem dX12_isUnionOfAtoms_232 : decode cX12_isUnionOfAtoms 232 = .ok (.ifCond .ne 7, 3) := by decide +kernel
theorem dX12_isUnionOfAtoms_235 : decode cX12_isUnionOfAtoms 235 = .ok (.iconst 1, 1) := by decide +kernel
theorem dX12_isUnionOfAtoms_236 : decode cX12_isUnionOfAtoms 236 = .ok (.goto 4, 3) := by decide +kernel
theorem dX12_isUnionOfAtoms_239 : decode cX12_isUnionOfAtoms 239 = .ok (.iconst 0, 1) := by decide +kernel
theorem dX12_isUnionOfAtoms_240 : decode cX12_isUnionOfAtoms 240 = .ok (.invokevirtual 128, 3) := by decide +kernel
theorem dX12_isUnionOfAtoms_243 : decode cX12_isUnionOfAtoms 243 = .ok (.ireturn, 1) := by decide +kernel
theorem dX12_takeDifference_0 : decode cX12_takeDifference 0 = .ok (.iload_n 1, 1) := by decide +kernel
theorem dX12_takeDifference_1 : decode cX12_takeDifference 1 = .ok (.invokestatic 106, 3) := by decide +kernel
theorem dX12_takeDifference_4 : decode cX12_takeDifference 4 = .ok (.ifCond .eq 10, 3) := by decide +kernel
theorem dX12_takeDifference_7 : decode cX12_takeDifference 7 = .ok (.iload_n 2, 1) := by decide +kernel
theorem dX12_takeDifference_8 : decode cX12_takeDifference 8 = .ok (.invokestatic 106, 3) := by decide +kernel
theorem dX12_takeDifference_11 : decode cX12_takeDifference 11 = .ok (.ifCond .ne 9, 3) := by decide +kernel
theorem dX12_takeDifference_14 : decode cX12_takeDifference 14 = .ok (.aload_n 0, 1) := by decide +kernel
theorem dX12_takeDifference_15 : decode cX12_takeDifference 15 = .ok (.iconst 1, 1) := by decide +kernel
theorem dX12_takeDifference_16 : decode cX12_takeDifference 16 = .ok (.invokevirtual 136, 3) := by decide +kernel
theorem dX12_takeDifference_19 : decode cX12_takeDifference 19 = .ok (.ireturn, 1) := by decide +kernel
theorem dX12_takeDifference_20 : decode cX12_takeDifference 20 = .ok (.aload_n 0, 1) := by decide +kernel
theorem dX12_takeDifference_21 : decode cX12_takeDifference 21 = .ok (.iconst 3, 1) := by decide +kernel
theorem dX12_takeDifference_22 : decode cX12_takeDifference 22 = .ok (.iload_n 1, 1) := by decide +kernel
theorem dX12_takeDifference_23 : decode cX12_takeDifference 23 = .ok (.iload_n 2, 1) := by decide +kernel
theorem dX12_takeDifference_24 : decode cX12_takeDifference 24 = .ok (.invokevirtual 231, 3) := by decide +kernel
theorem dX12_takeDifference_27 : decode cX12_takeDifference 27 = .ok (.aload_n 0, 1) := by decide +kernel
theorem dX12_takeDifference_28 : decode cX12_takeDifference 28 = .ok (.invokevirtual 260, 3) := by decide +kernel
theorem dX12_takeDifference_31 : decode cX12_takeDifference 31 = .ok (.istore_n 3, 1) := by decide +kernel
theorem dX12_takeDifference_32 : decode cX12_takeDifference 32 = .ok (.iload_n 3, 1) := by decide +kernel
theorem dX12_takeDifference_33 : decode cX12_takeDifference 33 = .ok (.ifCond .ge 20, 3) := by decide +kernel
theorem dX12_takeDifference_36 : decode cX12_takeDifference 36 = .ok (.aload_n 0, 1) := by decide +kernel
theorem dX12_takeDifference_37 : decode cX12_takeDifference 37 = .ok (.iload_n 3, 1) := by decide +kernel
theorem dX12_takeDifference_38 : decode cX12_takeDifference 38 = .ok (.iconst (-1), 1) := by decide +kernel
theorem dX12_takeDifference_39 : decode cX12_takeDifference 39 = .ok (.if_icmp .ne 7, 3) := by decide +kernel
theorem dX12_takeDifference_42 : decode cX12_takeDifference 42 = .ok (.iconst 2, 1) := by decide +kernel
theorem dX12_takeDifference_43 : decode cX12_takeDifference 43 = .ok (.goto 4, 3) := by decide +kernel
theorem dX12_takeDifference_46 : decode cX12_takeDifference 46 = .ok (.iconst 3, 1) := by decide +kernel
theorem dX12_takeDifference_47 : decode cX12_takeDifference 47 = .ok (.invokevirtual 136, 3) := by decide +kernel
theorem dX12_takeDifference_50 : decode cX12_takeDifference 50 = .ok (.goto 8, 3) := by decide +kernel
theorem dX12_takeDifference_53 : decode cX12_takeDifference 53 = .ok (.aload_n 0, 1) := by decide +kernel
theorem dX12_takeDifference_54 : decode cX12_takeDifference 54 = .ok (.iload_n 3, 1) := by decide +kernel
theorem dX12_takeDifference_55 : decode cX12_takeDifference 55 = .ok (.invokevirtual 132, 3) := by decide +kernel
theorem dX12_takeDifference_58 : decode cX12_takeDifference 58 = .ok (.ireturn, 1) := by decide +kernel
theorem dX12_shareOf_0 : decode cX12_shareOf 0 = .ok (.iconst 0, 1) := by decide +kernel
theorem dX12_shareOf_1 : decode cX12_shareOf 1 = .ok (.istore_n 3, 1) := by decide +kernel
theorem dX12_shareOf_2 : decode cX12_shareOf 2 = .ok (.iload_n 3, 1) := by decide +kernel
theorem dX12_shareOf_3 : decode cX12_shareOf 3 = .ok (.bipush 6, 2) := by decide +kernel
theorem dX12_shareOf_5 : decode cX12_shareOf 5 = .ok (.if_icmp .ge 24, 3) := by decide +kernel
theorem dX12_shareOf_8 : decode cX12_shareOf 8 = .ok (.aload_n 0, 1) := by decide +kernel
theorem dX12_shareOf_9 : decode cX12_shareOf 9 = .ok (.getfield 92, 3) := by decide +kernel
theorem dX12_shareOf_12 : decode cX12_shareOf 12 = .ok (.iload_n 3, 1) := by decide +kernel
theorem dX12_shareOf_13 : decode cX12_shareOf 13 = .ok (.iload_n 3, 1) := by decide +kernel
theorem dX12_shareOf_14 : decode cX12_shareOf 14 = .ok (.ifCond .ne 7, 3) := by decide +kernel
theorem dX12_shareOf_17 : decode cX12_shareOf 17 = .ok (.lconst 1, 1) := by decide +kernel
theorem dX12_shareOf_18 : decode cX12_shareOf 18 = .ok (.goto 4, 3) := by decide +kernel
theorem dX12_shareOf_21 : decode cX12_shareOf 21 = .ok (.lconst 0, 1) := by decide +kernel
theorem dX12_shareOf_22 : decode cX12_shareOf 22 = .ok (.lastore, 1) := by decide +kernel
theorem dX12_shareOf_23 : decode cX12_shareOf 23 = .ok (.iinc 3 1, 3) := by decide +kernel
theorem dX12_shareOf_26 : decode cX12_shareOf 26 = .ok (.goto (-24), 3) := by decide +kernel
theorem dX12_shareOf_29 : decode cX12_shareOf 29 = .ok (.lconst 1, 1) := by decide +kernel
theorem dX12_shareOf_30 : decode cX12_shareOf 30 = .ok (.lstore_n 3, 1) := by decide +kernel
theorem dX12_shareOf_31 : decode cX12_shareOf 31 = .ok (.iconst 0, 1) := by decide +kernel
theorem dX12_shareOf_32 : decode cX12_shareOf 32 = .ok (.istore 5, 2) := by decide +kernel
theorem dX12_shareOf_34 : decode cX12_shareOf 34 = .ok (.iload 5, 2) := by decide +kernel
theorem dX12_shareOf_36 : decode cX12_shareOf 36 = .ok (.iload_n 2, 1) := by decide +kernel
theorem dX12_shareOf_37 : decode cX12_shareOf 37 = .ok (.if_icmp .ge 132, 3) := by decide +kernel
theorem dX12_shareOf_40 : decode cX12_shareOf 40 = .ok (.iconst 0, 1) := by decide +kernel
theorem dX12_shareOf_41 : decode cX12_shareOf 41 = .ok (.istore 6, 2) := by decide +kernel
theorem dX12_shareOf_43 : decode cX12_shareOf 43 = .ok (.iload 6, 2) := by decide +kernel
theorem dX12_shareOf_45 : decode cX12_shareOf 45 = .ok (.bipush 6, 2) := by decide +kernel
theorem dX12_shareOf_47 : decode cX12_shareOf 47 = .ok (.if_icmp .ge 17, 3) := by decide +kernel
theorem dX12_shareOf_50 : decode cX12_shareOf 50 = .ok (.aload_n 0, 1) := by decide +kernel
theorem dX12_shareOf_51 : decode cX12_shareOf 51 = .ok (.getfield 95, 3) := by decide +kernel
theorem dX12_shareOf_54 : decode cX12_shareOf 54 = .ok (.iload 6, 2) := by decide +kernel
theorem dX12_shareOf_56 : decode cX12_shareOf 56 = .ok (.lconst 0, 1) := by decide +kernel
theorem dX12_shareOf_57 : decode cX12_shareOf 57 = .ok (.lastore, 1) := by decide +kernel
theorem dX12_shareOf_58 : decode cX12_shareOf 58 = .ok (.iinc 6 1, 3) := by decide +kernel
theorem dX12_shareOf_61 : decode cX12_shareOf 61 = .ok (.goto (-18), 3) := by decide +kernel
theorem dX12_shareOf_64 : decode cX12_shareOf 64 = .ok (.iconst 0, 1) := by decide +kernel
theorem dX12_shareOf_65 : decode cX12_shareOf 65 = .ok (.istore 6, 2) := by decide +kernel
theorem dX12_shareOf_67 : decode cX12_shareOf 67 = .ok (.iload 6, 2) := by decide +kernel
theorem dX12_shareOf_69 : decode cX12_shareOf 69 = .ok (.aload_n 0, 1) := by decide +kernel
theorem dX12_shareOf_70 : decode cX12_shareOf 70 = .ok (.getfield 7, 3) := by decide +kernel
theorem dX12_shareOf_73 : decode cX12_shareOf 73 = .ok (.iload_n 1, 1) := by decide +kernel
theorem dX12_shareOf_74 : decode cX12_shareOf 74 = .ok (.iaload, 1) := by decide +kernel
theorem dX12_shareOf_75 : decode cX12_shareOf 75 = .ok (.if_icmp .ge 52, 3) := by decide +kernel
theorem dX12_shareOf_78 : decode cX12_shareOf 78 = .ok (.iconst 0, 1) := by decide +kernel
theorem dX12_shareOf_79 : decode cX12_shareOf 79 = .ok (.istore 7, 2) := by decide +kernel
theorem dX12_shareOf_81 : decode cX12_shareOf 81 = .ok (.iload 7, 2) := by decide +kernel
theorem dX12_shareOf_83 : decode cX12_shareOf 83 = .ok (.iconst 3, 1) := by decide +kernel
theorem dX12_shareOf_84 : decode cX12_shareOf 84 = .ok (.if_icmp .ge 37, 3) := by decide +kernel
theorem dX12_shareOf_87 : decode cX12_shareOf 87 = .ok (.aload_n 0, 1) := by decide +kernel
theorem dX12_shareOf_88 : decode cX12_shareOf 88 = .ok (.getfield 95, 3) := by decide +kernel
theorem dX12_shareOf_91 : decode cX12_shareOf 91 = .ok (.aload_n 0, 1) := by decide +kernel
theorem dX12_shareOf_92 : decode cX12_shareOf 92 = .ok (.getfield 13, 3) := by decide +kernel
theorem dX12_shareOf_95 : decode cX12_shareOf 95 = .ok (.iload_n 1, 1) := by decide +kernel
theorem dX12_shareOf_96 : decode cX12_shareOf 96 = .ok (.iload 6, 2) := by decide +kernel
theorem dX12_shareOf_98 : decode cX12_shareOf 98 = .ok (.iload 7, 2) := by decide +kernel
theorem dX12_shareOf_100 : decode cX12_shareOf 100 = .ok (.invokestatic 110, 3) := by decide +kernel
theorem dX12_shareOf_103 : decode cX12_shareOf 103 = .ok (.iaload, 1) := by decide +kernel
theorem dX12_shareOf_104 : decode cX12_shareOf 104 = .ok (.dup2, 1) := by decide +kernel
theorem dX12_shareOf_105 : decode cX12_shareOf 105 = .ok (.laload, 1) := by decide +kernel
theorem dX12_shareOf_106 : decode cX12_shareOf 106 = .ok (.aload_n 0, 1) := by decide +kernel
theorem dX12_shareOf_107 : decode cX12_shareOf 107 = .ok (.getfield 92, 3) := by decide +kernel
theorem dX12_shareOf_110 : decode cX12_shareOf 110 = .ok (.iload 6, 2) := by decide +kernel
theorem dX12_shareOf_112 : decode cX12_shareOf 112 = .ok (.laload, 1) := by decide +kernel
theorem dX12_shareOf_113 : decode cX12_shareOf 113 = .ok (.ladd, 1) := by decide +kernel
theorem dX12_shareOf_114 : decode cX12_shareOf 114 = .ok (.lastore, 1) := by decide +kernel
theorem dX12_shareOf_115 : decode cX12_shareOf 115 = .ok (.iinc 7 1, 3) := by decide +kernel
theorem dX12_shareOf_118 : decode cX12_shareOf 118 = .ok (.goto (-37), 3) := by decide +kernel
theorem dX12_shareOf_121 : decode cX12_shareOf 121 = .ok (.iinc 6 1, 3) := by decide +kernel
theorem dX12_shareOf_124 : decode cX12_shareOf 124 = .ok (.goto (-57), 3) := by decide +kernel
theorem dX12_shareOf_127 : decode cX12_shareOf 127 = .ok (.iconst 0, 1) := by decide +kernel
theorem dX12_shareOf_128 : decode cX12_shareOf 128 = .ok (.istore 6, 2) := by decide +kernel
theorem dX12_shareOf_130 : decode cX12_shareOf 130 = .ok (.iload 6, 2) := by decide +kernel
theorem dX12_shareOf_132 : decode cX12_shareOf 132 = .ok (.bipush 6, 2) := by decide +kernel
theorem dX12_shareOf_134 : decode cX12_shareOf 134 = .ok (.if_icmp .ge 23, 3) := by decide +kernel
theorem dX12_shareOf_137 : decode cX12_shareOf 137 = .ok (.aload_n 0, 1) := by decide +kernel
theorem dX12_shareOf_138 : decode cX12_shareOf 138 = .ok (.getfield 92, 3) := by decide +kernel
theorem dX12_shareOf_141 : decode cX12_shareOf 141 = .ok (.iload 6, 2) := by decide +kernel
theorem dX12_shareOf_143 : decode cX12_shareOf 143 = .ok (.aload_n 0, 1) := by decide +kernel
theorem dX12_shareOf_144 : decode cX12_shareOf 144 = .ok (.getfield 95, 3) := by decide +kernel
theorem dX12_shareOf_147 : decode cX12_shareOf 147 = .ok (.iload 6, 2) := by decide +kernel
theorem dX12_shareOf_149 : decode cX12_shareOf 149 = .ok (.laload, 1) := by decide +kernel
theorem dX12_shareOf_150 : decode cX12_shareOf 150 = .ok (.lastore, 1) := by decide +kernel
theorem dX12_shareOf_151 : decode cX12_shareOf 151 = .ok (.iinc 6 1, 3) := by decide +kernel
theorem dX12_shareOf_154 : decode cX12_shareOf 154 = .ok (.goto (-24), 3) := by decide +kernel
theorem dX12_shareOf_157 : decode cX12_shareOf 157 = .ok (.lload_n 3, 1) := by decide +kernel
theorem dX12_shareOf_158 : decode cX12_shareOf 158 = .ok (.ldc2_w 280, 3) := by decide +kernel
theorem dX12_shareOf_161 : decode cX12_shareOf 161 = .ok (.lmul, 1) := by decide +kernel
theorem dX12_shareOf_162 : decode cX12_shareOf 162 = .ok (.lstore_n 3, 1) := by decide +kernel
theorem dX12_shareOf_163 : decode cX12_shareOf 163 = .ok (.iinc 5 1, 3) := by decide +kernel
theorem dX12_shareOf_166 : decode cX12_shareOf 166 = .ok (.goto (-132), 3) := by decide +kernel
theorem dX12_shareOf_169 : decode cX12_shareOf 169 = .ok (.lconst 0, 1) := by decide +kernel
theorem dX12_shareOf_170 : decode cX12_shareOf 170 = .ok (.lstore 5, 2) := by decide +kernel
theorem dX12_shareOf_172 : decode cX12_shareOf 172 = .ok (.iconst 0, 1) := by decide +kernel
theorem dX12_shareOf_173 : decode cX12_shareOf 173 = .ok (.istore 7, 2) := by decide +kernel
theorem dX12_shareOf_175 : decode cX12_shareOf 175 = .ok (.iload 7, 2) := by decide +kernel
theorem dX12_shareOf_177 : decode cX12_shareOf 177 = .ok (.aload_n 0, 1) := by decide +kernel
theorem dX12_shareOf_178 : decode cX12_shareOf 178 = .ok (.getfield 7, 3) := by decide +kernel
theorem dX12_shareOf_181 : decode cX12_shareOf 181 = .ok (.iload_n 1, 1) := by decide +kernel
theorem dX12_shareOf_182 : decode cX12_shareOf 182 = .ok (.iaload, 1) := by decide +kernel
theorem dX12_shareOf_183 : decode cX12_shareOf 183 = .ok (.if_icmp .ge 40, 3) := by decide +kernel
theorem dX12_shareOf_186 : decode cX12_shareOf 186 = .ok (.lload 5, 2) := by decide +kernel
theorem dX12_shareOf_188 : decode cX12_shareOf 188 = .ok (.aload_n 0, 1) := by decide +kernel
theorem dX12_shareOf_189 : decode cX12_shareOf 189 = .ok (.getfield 16, 3) := by decide +kernel
theorem dX12_shareOf_192 : decode cX12_shareOf 192 = .ok (.bipush 6, 2) := by decide +kernel
theorem dX12_shareOf_194 : decode cX12_shareOf 194 = .ok (.iload_n 1, 1) := by decide +kernel
theorem dX12_shareOf_195 : decode cX12_shareOf 195 = .ok (.imul, 1) := by decide +kernel
theorem dX12_shareOf_196 : decode cX12_shareOf 196 = .ok (.iload 7, 2) := by decide +kernel
theorem dX12_shareOf_198 : decode cX12_shareOf 198 = .ok (.iadd, 1) := by decide +kernel
theorem dX12_shareOf_199 : decode cX12_shareOf 199 = .ok (.baload, 1) := by decide +kernel
theorem dX12_shareOf_200 : decode cX12_shareOf 200 = .ok (.ifCond .eq 13, 3) := by decide +kernel
theorem dX12_shareOf_203 : decode cX12_shareOf 203 = .ok (.aload_n 0, 1) := by decide +kernel
theorem dX12_shareOf_204 : decode cX12_shareOf 204 = .ok (.getfield 92, 3) := by decide +kernel
theorem dX12_shareOf_207 : decode cX12_shareOf 207 = .ok (.iload 7, 2) := by decide +kernel
theorem dX12_shareOf_209 : decode cX12_shareOf 209 = .ok (.laload, 1) := by decide +kernel
theorem dX12_shareOf_210 : decode cX12_shareOf 210 = .ok (.goto 4, 3) := by decide +kernel
theorem dX12_shareOf_213 : decode cX12_shareOf 213 = .ok (.lconst 0, 1) := by decide +kernel
theorem dX12_shareOf_214 : decode cX12_shareOf 214 = .ok (.ladd, 1) := by decide +kernel
theorem dX12_shareOf_215 : decode cX12_shareOf 215 = .ok (.lstore 5, 2) := by decide +kernel
theorem dX12_shareOf_217 : decode cX12_shareOf 217 = .ok (.iinc 7 1, 3) := by decide +kernel
theorem dX12_shareOf_220 : decode cX12_shareOf 220 = .ok (.goto (-45), 3) := by decide +kernel
theorem dX12_shareOf_223 : decode cX12_shareOf 223 = .ok (.lload 5, 2) := by decide +kernel
theorem dX12_shareOf_225 : decode cX12_shareOf 225 = .ok (.l2d, 1) := by decide +kernel
theorem dX12_shareOf_226 : decode cX12_shareOf 226 = .ok (.lload_n 3, 1) := by decide +kernel
theorem dX12_shareOf_227 : decode cX12_shareOf 227 = .ok (.l2d, 1) := by decide +kernel
theorem dX12_shareOf_228 : decode cX12_shareOf 228 = .ok (.ddiv, 1) := by decide +kernel
theorem dX12_shareOf_229 : decode cX12_shareOf 229 = .ok (.dreturn, 1) := by decide +kernel
theorem dX12_share_0 : decode cX12_share 0 = .ok (.aload_n 0, 1) := by decide +kernel
theorem dX12_share_1 : decode cX12_share 1 = .ok (.iload_n 1, 1) := by decide +kernel
theorem dX12_share_2 : decode cX12_share 2 = .ok (.invokestatic 106, 3) := by decide +kernel
theorem dX12_share_5 : decode cX12_share 5 = .ok (.ifCond .ne 7, 3) := by decide +kernel
theorem dX12_share_8 : decode cX12_share 8 = .ok (.iconst 1, 1) := by decide +kernel
theorem dX12_share_9 : decode cX12_share 9 = .ok (.goto 18, 3) := by decide +kernel
theorem dX12_share_12 : decode cX12_share 12 = .ok (.iload_n 2, 1) := by decide +kernel
theorem dX12_share_13 : decode cX12_share 13 = .ok (.iconst 0, 1) := by decide +kernel
theorem dX12_share_14 : decode cX12_share 14 = .ok (.bipush 20, 2) := by decide +kernel
theorem dX12_share_16 : decode cX12_share 16 = .ok (.invokestatic 102, 3) := by decide +kernel
theorem dX12_share_19 : decode cX12_share 19 = .ok (.ifCond .ne 7, 3) := by decide +kernel
theorem dX12_share_22 : decode cX12_share 22 = .ok (.iconst 2, 1) := by decide +kernel
theorem dX12_share_23 : decode cX12_share 23 = .ok (.goto 4, 3) := by decide +kernel
theorem dX12_share_26 : decode cX12_share 26 = .ok (.iconst 0, 1) := by decide +kernel
theorem dX12_share_27 : decode cX12_share 27 = .ok (.putfield 98, 3) := by decide +kernel
theorem dX12_share_30 : decode cX12_share 30 = .ok (.aload_n 0, 1) := by decide +kernel
theorem dX12_share_31 : decode cX12_share 31 = .ok (.getfield 98, 3) := by decide +kernel
theorem dX12_share_34 : decode cX12_share 34 = .ok (.ifCond .eq 7, 3) := by decide +kernel
theorem dX12_share_37 : decode cX12_share 37 = .ok (.dconst 0, 1) := by decide +kernel
theorem dX12_share_38 : decode cX12_share 38 = .ok (.goto 9, 3) := by decide +kernel
theorem dX12_share_41 : decode cX12_share 41 = .ok (.aload_n 0, 1) := by decide +kernel
theorem dX12_share_42 : decode cX12_share 42 = .ok (.iload_n 1, 1) := by decide +kernel
theorem dX12_share_43 : decode cX12_share 43 = .ok (.iload_n 2, 1) := by decide +kernel
theorem dX12_share_44 : decode cX12_share 44 = .ok (.invokevirtual 282, 3) := by decide +kernel
theorem dX12_share_47 : decode cX12_share 47 = .ok (.dreturn, 1) := by decide +kernel
theorem dX12_keepShares_0 : decode cX12_keepShares 0 = .ok (.aload_n 0, 1) := by decide +kernel
theorem dX12_keepShares_1 : decode cX12_keepShares 1 = .ok (.iload_n 1, 1) := by decide +kernel
theorem dX12_keepShares_2 : decode cX12_keepShares 2 = .ok (.iconst 0, 1) := by decide +kernel
theorem dX12_keepShares_3 : decode cX12_keepShares 3 = .ok (.iconst 1, 1) := by decide +kernel
theorem dX12_keepShares_4 : decode cX12_keepShares 4 = .ok (.invokestatic 102, 3) := by decide +kernel
theorem dX12_keepShares_7 : decode cX12_keepShares 7 = .ok (.ifCond .eq 10, 3) := by decide +kernel
theorem dX12_keepShares_10 : decode cX12_keepShares 10 = .ok (.iload_n 2, 1) := by decide +kernel
theorem dX12_keepShares_11 : decode cX12_keepShares 11 = .ok (.invokestatic 106, 3) := by decide +kernel
theorem dX12_keepShares_14 : decode cX12_keepShares 14 = .ok (.ifCond .ne 7, 3) := by decide +kernel
theorem dX12_keepShares_17 : decode cX12_keepShares 17 = .ok (.iconst 1, 1) := by decide +kernel
theorem dX12_keepShares_18 : decode cX12_keepShares 18 = .ok (.goto 18, 3) := by decide +kernel
theorem dX12_keepShares_21 : decode cX12_keepShares 21 = .ok (.iload_n 3, 1) := by decide +kernel
theorem dX12_keepShares_22 : decode cX12_keepShares 22 = .ok (.iconst 0, 1) := by decide +kernel
theorem dX12_keepShares_23 : decode cX12_keepShares 23 = .ok (.bipush 20, 2) := by decide +kernel
theorem dX12_keepShares_25 : decode cX12_keepShares 25 = .ok (.invokestatic 102, 3) := by decide +kernel
theorem dX12_keepShares_28 : decode cX12_keepShares 28 = .ok (.ifCond .ne 7, 3) := by decide +kernel
theorem dX12_keepShares_31 : decode cX12_keepShares 31 = .ok (.iconst 2, 1) := by decide +kernel
theorem dX12_keepShares_32 : decode cX12_keepShares 32 = .ok (.goto 4, 3) := by decide +kernel
theorem dX12_keepShares_35 : decode cX12_keepShares 35 = .ok (.iconst 0, 1) := by decide +kernel
theorem dX12_keepShares_36 : decode cX12_keepShares 36 = .ok (.putfield 98, 3) := by decide +kernel
theorem dX12_keepShares_39 : decode cX12_keepShares 39 = .ok (.aload_n 0, 1) := by decide +kernel
theorem dX12_keepShares_40 : decode cX12_keepShares 40 = .ok (.getfield 98, 3) := by decide +kernel
theorem dX12_keepShares_43 : decode cX12_keepShares 43 = .ok (.ifCond .eq 4, 3) := by decide +kernel
theorem dX12_keepShares_46 : decode cX12_keepShares 46 = .ok (.return_, 1) := by decide +kernel
theorem dX12_keepShares_47 : decode cX12_keepShares 47 = .ok (.aload_n 0, 1) := by decide +kernel
theorem dX12_keepShares_48 : decode cX12_keepShares 48 = .ok (.getfield 23, 3) := by decide +kernel
theorem dX12_keepShares_51 : decode cX12_keepShares 51 = .ok (.iload_n 1, 1) := by decide +kernel
theorem dX12_keepShares_52 : decode cX12_keepShares 52 = .ok (.iload 4, 2) := by decide +kernel
theorem dX12_keepShares_54 : decode cX12_keepShares 54 = .ok (.ifCond .eq 7, 3) := by decide +kernel
theorem dX12_keepShares_57 : decode cX12_keepShares 57 = .ok (.iconst 1, 1) := by decide +kernel
theorem dX12_keepShares_58 : decode cX12_keepShares 58 = .ok (.goto 4, 3) := by decide +kernel
theorem dX12_keepShares_61 : decode cX12_keepShares 61 = .ok (.iconst 2, 1) := by decide +kernel
theorem dX12_keepShares_62 : decode cX12_keepShares 62 = .ok (.iastore, 1) := by decide +kernel
theorem dX12_keepShares_63 : decode cX12_keepShares 63 = .ok (.aload_n 0, 1) := by decide +kernel
theorem dX12_keepShares_64 : decode cX12_keepShares 64 = .ok (.getfield 26, 3) := by decide +kernel
theorem dX12_keepShares_67 : decode cX12_keepShares 67 = .ok (.iload_n 1, 1) := by decide +kernel
theorem dX12_keepShares_68 : decode cX12_keepShares 68 = .ok (.iload_n 3, 1) := by decide +kernel
theorem dX12_keepShares_69 : decode cX12_keepShares 69 = .ok (.iconst 1, 1) := by decide +kernel
theorem dX12_keepShares_70 : decode cX12_keepShares 70 = .ok (.iadd, 1) := by decide +kernel
theorem dX12_keepShares_71 : decode cX12_keepShares 71 = .ok (.iastore, 1) := by decide +kernel
theorem dX12_keepShares_72 : decode cX12_keepShares 72 = .ok (.iconst 0, 1) := by decide +kernel
theorem dX12_keepShares_73 : decode cX12_keepShares 73 = .ok (.istore 5, 2) := by decide +kernel
theorem dX12_keepShares_75 : decode cX12_keepShares 75 = .ok (.iload 5, 2) := by decide +kernel
theorem dX12_keepShares_77 : decode cX12_keepShares 77 = .ok (.iload_n 3, 1) := by decide +kernel
theorem dX12_keepShares_78 : decode cX12_keepShares 78 = .ok (.if_icmp .gt 53, 3) := by decide +kernel
theorem dX12_keepShares_81 : decode cX12_keepShares 81 = .ok (.aload_n 0, 1) := by decide +kernel
theorem dX12_keepShares_82 : decode cX12_keepShares 82 = .ok (.getfield 33, 3) := by decide +kernel
theorem dX12_keepShares_85 : decode cX12_keepShares 85 = .ok (.bipush 21, 2) := by decide +kernel
theorem dX12_keepShares_87 : decode cX12_keepShares 87 = .ok (.iload_n 1, 1) := by decide +kernel
theorem dX12_keepShares_88 : decode cX12_keepShares 88 = .ok (.imul, 1) := by decide +kernel
theorem dX12_keepShares_89 : decode cX12_keepShares 89 = .ok (.iload 5, 2) := by decide +kernel
theorem dX12_keepShares_91 : decode cX12_keepShares 91 = .ok (.iadd, 1) := by decide +kernel
theorem dX12_keepShares_92 : decode cX12_keepShares 92 = .ok (.aload_n 0, 1) := by decide +kernel
theorem dX12_keepShares_93 : decode cX12_keepShares 93 = .ok (.iload_n 2, 1) := by decide +kernel
theorem dX12_keepShares_94 : decode cX12_keepShares 94 = .ok (.iload 5, 2) := by decide +kernel
theorem dX12_keepShares_96 : decode cX12_keepShares 96 = .ok (.invokevirtual 282, 3) := by decide +kernel
theorem dX12_keepShares_99 : decode cX12_keepShares 99 = .ok (.dastore, 1) := by decide +kernel
theorem dX12_keepShares_100 : decode cX12_keepShares 100 = .ok (.aload_n 0, 1) := by decide +kernel
theorem dX12_keepShares_101 : decode cX12_keepShares 101 = .ok (.getfield 29, 3) := by decide +kernel
theorem dX12_keepShares_104 : decode cX12_keepShares 104 = .ok (.bipush 21, 2) := by decide +kernel
theorem dX12_keepShares_106 : decode cX12_keepShares 106 = .ok (.iload_n 1, 1) := by decide +kernel
theorem dX12_keepShares_107 : decode cX12_keepShares 107 = .ok (.imul, 1) := by decide +kernel
theorem dX12_keepShares_108 : decode cX12_keepShares 108 = .ok (.iload 5, 2) := by decide +kernel
theorem dX12_keepShares_110 : decode cX12_keepShares 110 = .ok (.iadd, 1) := by decide +kernel
theorem dX12_keepShares_111 : decode cX12_keepShares 111 = .ok (.aload_n 0, 1) := by decide +kernel
theorem dX12_keepShares_112 : decode cX12_keepShares 112 = .ok (.getfield 33, 3) := by decide +kernel
theorem dX12_keepShares_115 : decode cX12_keepShares 115 = .ok (.bipush 21, 2) := by decide +kernel
theorem dX12_keepShares_117 : decode cX12_keepShares 117 = .ok (.iload_n 1, 1) := by decide +kernel
theorem dX12_keepShares_118 : decode cX12_keepShares 118 = .ok (.imul, 1) := by decide +kernel
theorem dX12_keepShares_119 : decode cX12_keepShares 119 = .ok (.iload 5, 2) := by decide +kernel
theorem dX12_keepShares_121 : decode cX12_keepShares 121 = .ok (.iadd, 1) := by decide +kernel
theorem dX12_keepShares_122 : decode cX12_keepShares 122 = .ok (.daload, 1) := by decide +kernel
theorem dX12_keepShares_123 : decode cX12_keepShares 123 = .ok (.d2f, 1) := by decide +kernel
theorem dX12_keepShares_124 : decode cX12_keepShares 124 = .ok (.fastore, 1) := by decide +kernel
theorem dX12_keepShares_125 : decode cX12_keepShares 125 = .ok (.iinc 5 1, 3) := by decide +kernel
theorem dX12_keepShares_128 : decode cX12_keepShares 128 = .ok (.goto (-53), 3) := by decide +kernel
theorem dX12_keepShares_131 : decode cX12_keepShares 131 = .ok (.return_, 1) := by decide +kernel
theorem dX12_remainder_0 : decode cX12_remainder 0 = .ok (.aload_n 0, 1) := by decide +kernel
theorem dX12_remainder_1 : decode cX12_remainder 1 = .ok (.iload_n 1, 1) := by decide +kernel
theorem dX12_remainder_2 : decode cX12_remainder 2 = .ok (.iconst 0, 1) := by decide +kernel
theorem dX12_remainder_3 : decode cX12_remainder 3 = .ok (.iconst 1, 1) := by decide +kernel
theorem dX12_remainder_4 : decode cX12_remainder 4 = .ok (.invokestatic 102, 3) := by decide +kernel
theorem dX12_remainder_7 : decode cX12_remainder 7 = .ok (.ifCond .ne 7, 3) := by decide +kernel
theorem dX12_remainder_10 : decode cX12_remainder 10 = .ok (.iconst 1, 1) := by decide +kernel
theorem dX12_remainder_11 : decode cX12_remainder 11 = .ok (.goto 30, 3) := by decide +kernel
theorem dX12_remainder_14 : decode cX12_remainder 14 = .ok (.aload_n 0, 1) := by decide +kernel
theorem dX12_remainder_15 : decode cX12_remainder 15 = .ok (.getfield 23, 3) := by decide +kernel
theorem dX12_remainder_18 : decode cX12_remainder 18 = .ok (.iload_n 1, 1) := by decide +kernel
theorem dX12_remainder_19 : decode cX12_remainder 19 = .ok (.iconst 0, 1) := by decide +kernel
theorem dX12_remainder_20 : decode cX12_remainder 20 = .ok (.iconst 1, 1) := by decide +kernel
theorem dX12_remainder_21 : decode cX12_remainder 21 = .ok (.invokestatic 102, 3) := by decide +kernel
theorem dX12_remainder_24 : decode cX12_remainder 24 = .ok (.ifCond .eq 7, 3) := by decide +kernel
theorem dX12_remainder_27 : decode cX12_remainder 27 = .ok (.iload_n 1, 1) := by decide +kernel
theorem dX12_remainder_28 : decode cX12_remainder 28 = .ok (.goto 4, 3) := by decide +kernel
theorem dX12_remainder_31 : decode cX12_remainder 31 = .ok (.iconst 0, 1) := by decide +kernel
theorem dX12_remainder_32 : decode cX12_remainder 32 = .ok (.iaload, 1) := by decide +kernel
theorem dX12_remainder_33 : decode cX12_remainder 33 = .ok (.ifCond .ne 7, 3) := by decide +kernel
theorem dX12_remainder_36 : decode cX12_remainder 36 = .ok (.iconst 2, 1) := by decide +kernel
theorem dX12_remainder_37 : decode cX12_remainder 37 = .ok (.goto 4, 3) := by decide +kernel
theorem dX12_remainder_40 : decode cX12_remainder 40 = .ok (.iconst 0, 1) := by decide +kernel
theorem dX12_remainder_41 : decode cX12_remainder 41 = .ok (.putfield 98, 3) := by decide +kernel
theorem dX12_remainder_44 : decode cX12_remainder 44 = .ok (.aload_n 0, 1) := by decide +kernel
theorem dX12_remainder_45 : decode cX12_remainder 45 = .ok (.getfield 98, 3) := by decide +kernel
theorem dX12_remainder_48 : decode cX12_remainder 48 = .ok (.ifCond .eq 5, 3) := by decide +kernel
theorem dX12_remainder_51 : decode cX12_remainder 51 = .ok (.dconst 0, 1) := by decide +kernel
theorem dX12_remainder_52 : decode cX12_remainder 52 = .ok (.dreturn, 1) := by decide +kernel
theorem dX12_remainder_53 : decode cX12_remainder 53 = .ok (.iload_n 2, 1) := by decide +kernel
theorem dX12_remainder_54 : decode cX12_remainder 54 = .ok (.iconst 0, 1) := by decide +kernel
theorem dX12_remainder_55 : decode cX12_remainder 55 = .ok (.aload_n 0, 1) := by decide +kernel
theorem dX12_remainder_56 : decode cX12_remainder 56 = .ok (.getfield 26, 3) := by decide +kernel
theorem dX12_remainder_59 : decode cX12_remainder 59 = .ok (.iload_n 1, 1) := by decide +kernel
theorem dX12_remainder_60 : decode cX12_remainder 60 = .ok (.iaload, 1) := by decide +kernel
theorem dX12_remainder_61 : decode cX12_remainder 61 = .ok (.iconst 1, 1) := by decide +kernel
theorem dX12_remainder_62 : decode cX12_remainder 62 = .ok (.isub, 1) := by decide +kernel
theorem dX12_remainder_63 : decode cX12_remainder 63 = .ok (.invokestatic 102, 3) := by decide +kernel
theorem dX12_remainder_66 : decode cX12_remainder 66 = .ok (.ifCond .eq 19, 3) := by decide +kernel
theorem dX12_remainder_69 : decode cX12_remainder 69 = .ok (.iload_n 3, 1) := by decide +kernel
theorem dX12_remainder_70 : decode cX12_remainder 70 = .ok (.iconst 0, 1) := by decide +kernel
theorem dX12_remainder_71 : decode cX12_remainder 71 = .ok (.aload_n 0, 1) := by decide +kernel
theorem dX12_remainder_72 : decode cX12_remainder 72 = .ok (.getfield 26, 3) := by decide +kernel
theorem dX12_remainder_75 : decode cX12_remainder 75 = .ok (.iload_n 1, 1) := by decide +kernel
theorem dX12_remainder_76 : decode cX12_remainder 76 = .ok (.iaload, 1) := by decide +kernel
theorem dX12_remainder_77 : decode cX12_remainder 77 = .ok (.iconst 1, 1) := by decide +kernel
theorem dX12_remainder_78 : decode cX12_remainder 78 = .ok (.isub, 1) := by decide +kernel
theorem dX12_remainder_79 : decode cX12_remainder 79 = .ok (.invokestatic 102, 3) := by decide +kernel
theorem dX12_remainder_82 : decode cX12_remainder 82 = .ok (.ifCond .ne 10, 3) := by decide +kernel
theorem dX12_remainder_85 : decode cX12_remainder 85 = .ok (.aload_n 0, 1) := by decide +kernel
theorem dX12_remainder_86 : decode cX12_remainder 86 = .ok (.iconst 3, 1) := by decide +kernel
theorem dX12_remainder_87 : decode cX12_remainder 87 = .ok (.putfield 98, 3) := by decide +kernel
theorem dX12_remainder_90 : decode cX12_remainder 90 = .ok (.dconst 0, 1) := by decide +kernel
theorem dX12_remainder_91 : decode cX12_remainder 91 = .ok (.dreturn, 1) := by decide +kernel
theorem dX12_remainder_92 : decode cX12_remainder 92 = .ok (.bipush 21, 2) := by decide +kernel
theorem dX12_remainder_94 : decode cX12_remainder 94 = .ok (.iload_n 1, 1) := by decide +kernel
theorem dX12_remainder_95 : decode cX12_remainder 95 = .ok (.imul, 1) := by decide +kernel
theorem dX12_remainder_96 : decode cX12_remainder 96 = .ok (.iload_n 2, 1) := by decide +kernel
theorem dX12_remainder_97 : decode cX12_remainder 97 = .ok (.iadd, 1) := by decide +kernel
theorem dX12_remainder_98 : decode cX12_remainder 98 = .ok (.istore 4, 2) := by decide +kernel
theorem dX12_remainder_100 : decode cX12_remainder 100 = .ok (.bipush 21, 2) := by decide +kernel
theorem dX12_remainder_102 : decode cX12_remainder 102 = .ok (.iload_n 1, 1) := by decide +kernel
theorem dX12_remainder_103 : decode cX12_remainder 103 = .ok (.imul, 1) := by decide +kernel
theorem dX12_remainder_104 : decode cX12_remainder 104 = .ok (.iload_n 3, 1) := by decide +kernel
theorem dX12_remainder_105 : decode cX12_remainder 105 = .ok (.iadd, 1) := by decide +kernel
theorem dX12_remainder_106 : decode cX12_remainder 106 = .ok (.istore 5, 2) := by decide +kernel
theorem dX12_remainder_108 : decode cX12_remainder 108 = .ok (.aload_n 0, 1) := by decide +kernel
theorem dX12_remainder_109 : decode cX12_remainder 109 = .ok (.getfield 23, 3) := by decide +kernel
theorem dX12_remainder_112 : decode cX12_remainder 112 = .ok (.iload_n 1, 1) := by decide +kernel
theorem dX12_remainder_113 : decode cX12_remainder 113 = .ok (.iaload, 1) := by decide +kernel
theorem dX12_remainder_114 : decode cX12_remainder 114 = .ok (.iconst 1, 1) := by decide +kernel
theorem dX12_remainder_115 : decode cX12_remainder 115 = .ok (.if_icmp .ne 18, 3) := by decide +kernel
theorem dX12_remainder_118 : decode cX12_remainder 118 = .ok (.aload_n 0, 1) := by decide +kernel
theorem dX12_remainder_119 : decode cX12_remainder 119 = .ok (.getfield 29, 3) := by decide +kernel
theorem dX12_remainder_122 : decode cX12_remainder 122 = .ok (.iload 5, 2) := by decide +kernel
theorem dX12_remainder_124 : decode cX12_remainder 124 = .ok (.faload, 1) := by decide +kernel
theorem dX12_remainder_125 : decode cX12_remainder 125 = .ok (.fconst 0, 1) := by decide +kernel
theorem dX12_remainder_126 : decode cX12_remainder 126 = .ok (.fcmp .l, 1) := by decide +kernel
theorem dX12_remainder_127 : decode cX12_remainder 127 = .ok (.ifCond .ne 25, 3) := by decide +kernel
theorem dX12_remainder_130 : decode cX12_remainder 130 = .ok (.goto 15, 3) := by decide +kernel
theorem dX12_remainder_133 : decode cX12_remainder 133 = .ok (.aload_n 0, 1) := by decide +kernel
theorem dX12_remainder_134 : decode cX12_remainder 134 = .ok (.getfield 33, 3) := by decide +kernel
theorem dX12_remainder_137 : decode cX12_remainder 137 = .ok (.iload 5, 2) := by decide +kernel
theorem dX12_remainder_139 : decode cX12_remainder 139 = .ok (.daload, 1) := by decide +kernel
theorem dX12_remainder_140 : decode cX12_remainder 140 = .ok (.dconst 0, 1) := by decide +kernel
theorem dX12_remainder_141 : decode cX12_remainder 141 = .ok (.dcmp .l, 1) := by decide +kernel
theorem dX12_remainder_142 : decode cX12_remainder 142 = .ok (.ifCond .ne 10, 3) := by decide +kernel
theorem dX12_remainder_145 : decode cX12_remainder 145 = .ok (.aload_n 0, 1) := by decide +kernel
theorem dX12_remainder_146 : decode cX12_remainder 146 = .ok (.iconst 4, 1) := by decide +kernel
theorem dX12_remainder_147 : decode cX12_remainder 147 = .ok (.putfield 98, 3) := by decide +kernel
theorem dX12_remainder_150 : decode cX12_remainder 150 = .ok (.dconst 0, 1) := by decide +kernel
theorem dX12_remainder_151 : decode cX12_remainder 151 = .ok (.dreturn, 1) := by decide +kernel
theorem dX12_remainder_152 : decode cX12_remainder 152 = .ok (.aload_n 0, 1) := by decide +kernel
theorem dX12_remainder_153 : decode cX12_remainder 153 = .ok (.getfield 23, 3) := by decide +kernel
theorem dX12_remainder_156 : decode cX12_remainder 156 = .ok (.iload_n 1, 1) := by decide +kernel
theorem dX12_remainder_157 : decode cX12_remainder 157 = .ok (.iaload, 1) := by decide +kernel
theorem dX12_remainder_158 : decode cX12_remainder 158 = .ok (.iconst 1, 1) := by decide +kernel
theorem dX12_remainder_159 : decode cX12_remainder 159 = .ok (.if_icmp .ne 22, 3) := by decide +kernel
theorem dX12_remainder_162 : decode cX12_remainder 162 = .ok (.aload_n 0, 1) := by decide +kernel
theorem dX12_remainder_163 : decode cX12_remainder 163 = .ok (.getfield 29, 3) := by decide +kernel
theorem dX12_remainder_166 : decode cX12_remainder 166 = .ok (.iload 4, 2) := by decide +kernel
theorem dX12_remainder_168 : decode cX12_remainder 168 = .ok (.faload, 1) := by decide +kernel
theorem dX12_remainder_169 : decode cX12_remainder 169 = .ok (.aload_n 0, 1) := by decide +kernel
theorem dX12_remainder_170 : decode cX12_remainder 170 = .ok (.getfield 29, 3) := by decide +kernel
theorem dX12_remainder_173 : decode cX12_remainder 173 = .ok (.iload 5, 2) := by decide +kernel
theorem dX12_remainder_175 : decode cX12_remainder 175 = .ok (.faload, 1) := by decide +kernel
theorem dX12_remainder_176 : decode cX12_remainder 176 = .ok (.frem, 1) := by decide +kernel
theorem dX12_remainder_177 : decode cX12_remainder 177 = .ok (.f2d, 1) := by decide +kernel
theorem dX12_remainder_178 : decode cX12_remainder 178 = .ok (.goto 18, 3) := by decide +kernel
theorem dX12_remainder_181 : decode cX12_remainder 181 = .ok (.aload_n 0, 1) := by decide +kernel
theorem dX12_remainder_182 : decode cX12_remainder 182 = .ok (.getfield 33, 3) := by decide +kernel
theorem dX12_remainder_185 : decode cX12_remainder 185 = .ok (.iload 4, 2) := by decide +kernel
theorem dX12_remainder_187 : decode cX12_remainder 187 = .ok (.daload, 1) := by decide +kernel
theorem dX12_remainder_188 : decode cX12_remainder 188 = .ok (.aload_n 0, 1) := by decide +kernel
theorem dX12_remainder_189 : decode cX12_remainder 189 = .ok (.getfield 33, 3) := by decide +kernel
theorem dX12_remainder_192 : decode cX12_remainder 192 = .ok (.iload 5, 2) := by decide +kernel
theorem dX12_remainder_194 : decode cX12_remainder 194 = .ok (.daload, 1) := by decide +kernel
theorem dX12_remainder_195 : decode cX12_remainder 195 = .ok (.drem, 1) := by decide +kernel
theorem dX12_remainder_196 : decode cX12_remainder 196 = .ok (.dreturn, 1) := by decide +kernel
theorem dX12_save_0 : decode cX12_save 0 = .ok (.aload_n 0, 1) := by decide +kernel
theorem dX12_save_1 : decode cX12_save 1 = .ok (.iconst 0, 1) := by decide +kernel
theorem dX12_save_2 : decode cX12_save 2 = .ok (.putfield 98, 3) := by decide +kernel
theorem dX12_save_5 : decode cX12_save 5 = .ok (.aload_n 0, 1) := by decide +kernel
theorem dX12_save_6 : decode cX12_save 6 = .ok (.iconst 1, 1) := by decide +kernel
theorem dX12_save_7 : decode cX12_save 7 = .ok (.putfield 286, 3) := by decide +kernel
theorem dX12_save_10 : decode cX12_save 10 = .ok (.iconst 0, 1) := by decide +kernel
theorem dX12_save_11 : decode cX12_save 11 = .ok (.istore_n 1, 1) := by decide +kernel
theorem dX12_save_12 : decode cX12_save 12 = .ok (.iload_n 1, 1) := by decide +kernel
theorem dX12_save_13 : decode cX12_save 13 = .ok (.bipush 54, 2) := by decide +kernel
theorem dX12_save_15 : decode cX12_save 15 = .ok (.if_icmp .ge 21, 3) := by decide +kernel
theorem dX12_save_18 : decode cX12_save 18 = .ok (.aload_n 0, 1) := by decide +kernel
theorem dX12_save_19 : decode cX12_save 19 = .ok (.getfield 40, 3) := by decide +kernel
theorem dX12_save_22 : decode cX12_save 22 = .ok (.iload_n 1, 1) := by decide +kernel
theorem dX12_save_23 : decode cX12_save 23 = .ok (.aload_n 0, 1) := by decide +kernel
theorem dX12_save_24 : decode cX12_save 24 = .ok (.getfield 13, 3) := by decide +kernel
theorem dX12_save_27 : decode cX12_save 27 = .ok (.iload_n 1, 1) := by decide +kernel
theorem dX12_save_28 : decode cX12_save 28 = .ok (.iaload, 1) := by decide +kernel
theorem dX12_save_29 : decode cX12_save 29 = .ok (.iastore, 1) := by decide +kernel
theorem dX12_save_30 : decode cX12_save 30 = .ok (.iinc 1 1, 3) := by decide +kernel
theorem dX12_save_33 : decode cX12_save 33 = .ok (.goto (-21), 3) := by decide +kernel
theorem dX12_save_36 : decode cX12_save 36 = .ok (.iconst 0, 1) := by decide +kernel
theorem dX12_save_37 : decode cX12_save 37 = .ok (.istore_n 1, 1) := by decide +kernel
theorem dX12_save_38 : decode cX12_save 38 = .ok (.iload_n 1, 1) := by decide +kernel
theorem dX12_save_39 : decode cX12_save 39 = .ok (.bipush 18, 2) := by decide +kernel
theorem dX12_save_41 : decode cX12_save 41 = .ok (.if_icmp .ge 21, 3) := by decide +kernel
theorem dX12_save_44 : decode cX12_save 44 = .ok (.aload_n 0, 1) := by decide +kernel
theorem dX12_save_45 : decode cX12_save 45 = .ok (.getfield 43, 3) := by decide +kernel
theorem dX12_save_48 : decode cX12_save 48 = .ok (.iload_n 1, 1) := by decide +kernel
theorem dX12_save_49 : decode cX12_save 49 = .ok (.aload_n 0, 1) := by decide +kernel
theorem dX12_save_50 : decode cX12_save 50 = .ok (.getfield 16, 3) := by decide +kernel
theorem dX12_save_53 : decode cX12_save 53 = .ok (.iload_n 1, 1) := by decide +kernel
theorem dX12_save_54 : decode cX12_save 54 = .ok (.baload, 1) := by decide +kernel
theorem dX12_save_55 : decode cX12_save 55 = .ok (.bastore, 1) := by decide +kernel
theorem dX12_save_56 : decode cX12_save 56 = .ok (.iinc 1 1, 3) := by decide +kernel
theorem dX12_save_59 : decode cX12_save 59 = .ok (.goto (-21), 3) := by decide +kernel
theorem dX12_save_62 : decode cX12_save 62 = .ok (.iconst 0, 1) := by decide +kernel
theorem dX12_save_63 : decode cX12_save 63 = .ok (.istore_n 1, 1) := by decide +kernel
theorem dX12_save_64 : decode cX12_save 64 = .ok (.iload_n 1, 1) := by decide +kernel
theorem dX12_save_65 : decode cX12_save 65 = .ok (.iconst 3, 1) := by decide +kernel
theorem dX12_save_66 : decode cX12_save 66 = .ok (.if_icmp .ge 21, 3) := by decide +kernel
theorem dX12_save_69 : decode cX12_save 69 = .ok (.aload_n 0, 1) := by decide +kernel
theorem dX12_save_70 : decode cX12_save 70 = .ok (.getfield 37, 3) := by decide +kernel
theorem dX12_save_73 : decode cX12_save 73 = .ok (.iload_n 1, 1) := by decide +kernel
theorem dX12_save_74 : decode cX12_save 74 = .ok (.aload_n 0, 1) := by decide +kernel
theorem dX12_save_75 : decode cX12_save 75 = .ok (.getfield 7, 3) := by decide +kernel
theorem dX12_save_78 : decode cX12_save 78 = .ok (.iload_n 1, 1) := by decide +kernel
theorem dX12_save_79 : decode cX12_save 79 = .ok (.iaload, 1) := by decide +kernel
theorem dX12_save_80 : decode cX12_save 80 = .ok (.iastore, 1) := by decide +kernel
theorem dX12_save_81 : decode cX12_save 81 = .ok (.iinc 1 1, 3) := by decide +kernel
theorem dX12_save_84 : decode cX12_save 84 = .ok (.goto (-20), 3) := by decide +kernel
theorem dX12_save_87 : decode cX12_save 87 = .ok (.aload_n 0, 1) := by decide +kernel
theorem dX12_save_88 : decode cX12_save 88 = .ok (.aload_n 0, 1) := by decide +kernel
theorem dX12_save_89 : decode cX12_save 89 = .ok (.getfield 146, 3) := by decide +kernel
theorem dX12_save_92 : decode cX12_save 92 = .ok (.putfield 290, 3) := by decide +kernel
theorem dX12_save_95 : decode cX12_save 95 = .ok (.iconst 0, 1) := by decide +kernel
theorem dX12_save_96 : decode cX12_save 96 = .ok (.istore_n 1, 1) := by decide +kernel
theorem dX12_save_97 : decode cX12_save 97 = .ok (.iload_n 1, 1) := by decide +kernel
theorem dX12_save_98 : decode cX12_save 98 = .ok (.bipush 12, 2) := by decide +kernel
theorem dX12_save_100 : decode cX12_save 100 = .ok (.if_icmp .ge 21, 3) := by decide +kernel
theorem dX12_save_103 : decode cX12_save 103 = .ok (.aload_n 0, 1) := by decide +kernel
theorem dX12_save_104 : decode cX12_save 104 = .ok (.getfield 46, 3) := by decide +kernel
theorem dX12_save_107 : decode cX12_save 107 = .ok (.iload_n 1, 1) := by decide +kernel
theorem dX12_save_108 : decode cX12_save 108 = .ok (.aload_n 0, 1) := by decide +kernel
theorem dX12_save_109 : decode cX12_save 109 = .ok (.getfield 20, 3) := by decide +kernel
theorem dX12_save_112 : decode cX12_save 112 = .ok (.iload_n 1, 1) := by decide +kernel
theorem dX12_save_113 : decode cX12_save 113 = .ok (.iaload, 1) := by decide +kernel
theorem dX12_save_114 : decode cX12_save 114 = .ok (.iastore, 1) := by decide +kernel
theorem dX12_save_115 : decode cX12_save 115 = .ok (.iinc 1 1, 3) := by decide +kernel
theorem dX12_save_118 : decode cX12_save 118 = .ok (.goto (-21), 3) := by decide +kernel
theorem dX12_save_121 : decode cX12_save 121 = .ok (.return_, 1) := by decide +kernel
theorem dX12_restore_0 : decode cX12_restore 0 = .ok (.aload_n 0, 1) := by decide +kernel
theorem dX12_restore_1 : decode cX12_restore 1 = .ok (.aload_n 0, 1) := by decide +kernel
theorem dX12_restore_2 : decode cX12_restore 2 = .ok (.getfield 286, 3) := by decide +kernel
theorem dX12_restore_5 : decode cX12_restore 5 = .ok (.ifCond .eq 7, 3) := by decide +kernel
theorem dX12_restore_8 : decode cX12_restore 8 = .ok (.iconst 0, 1) := by decide +kernel
theorem dX12_restore_9 : decode cX12_restore 9 = .ok (.goto 4, 3) := by decide +kernel
theorem dX12_restore_12 : decode cX12_restore 12 = .ok (.iconst 1, 1) := by decide +kernel
theorem dX12_restore_13 : decode cX12_restore 13 = .ok (.putfield 98, 3) := by decide +kernel
theorem dX12_restore_16 : decode cX12_restore 16 = .ok (.aload_n 0, 1) := by decide +kernel
theorem dX12_restore_17 : decode cX12_restore 17 = .ok (.getfield 98, 3) := by decide +kernel
theorem dX12_restore_20 : decode cX12_restore 20 = .ok (.ifCond .eq 4, 3) := by decide +kernel
theorem dX12_restore_23 : decode cX12_restore 23 = .ok (.return_, 1) := by decide +kernel
theorem dX12_restore_24 : decode cX12_restore 24 = .ok (.iconst 0, 1) := by decide +kernel
theorem dX12_restore_25 : decode cX12_restore 25 = .ok (.istore_n 1, 1) := by decide +kernel
theorem dX12_restore_26 : decode cX12_restore 26 = .ok (.iload_n 1, 1) := by decide +kernel
theorem dX12_restore_27 : decode cX12_restore 27 = .ok (.bipush 54, 2) := by decide +kernel
theorem dX12_restore_29 : decode cX12_restore 29 = .ok (.if_icmp .ge 21, 3) := by decide +kernel
theorem dX12_restore_32 : decode cX12_restore 32 = .ok (.aload_n 0, 1) := by decide +kernel
theorem dX12_restore_33 : decode cX12_restore 33 = .ok (.getfield 13, 3) := by decide +kernel
theorem dX12_restore_36 : decode cX12_restore 36 = .ok (.iload_n 1, 1) := by decide +kernel
theorem dX12_restore_37 : decode cX12_restore 37 = .ok (.aload_n 0, 1) := by decide +kernel
theorem dX12_restore_38 : decode cX12_restore 38 = .ok (.getfield 40, 3) := by decide +kernel
theorem dX12_restore_41 : decode cX12_restore 41 = .ok (.iload_n 1, 1) := by decide +kernel
theorem dX12_restore_42 : decode cX12_restore 42 = .ok (.iaload, 1) := by decide +kernel
theorem dX12_restore_43 : decode cX12_restore 43 = .ok (.iastore, 1) := by decide +kernel
theorem dX12_restore_44 : decode cX12_restore 44 = .ok (.iinc 1 1, 3) := by decide +kernel
theorem dX12_restore_47 : decode cX12_restore 47 = .ok (.goto (-21), 3) := by decide +kernel
theorem dX12_restore_50 : decode cX12_restore 50 = .ok (.iconst 0, 1) := by decide +kernel
theorem dX12_restore_51 : decode cX12_restore 51 = .ok (.istore_n 1, 1) := by decide +kernel
theorem dX12_restore_52 : decode cX12_restore 52 = .ok (.iload_n 1, 1) := by decide +kernel
theorem dX12_restore_53 : decode cX12_restore 53 = .ok (.bipush 18, 2) := by decide +kernel
theorem dX12_restore_55 : decode cX12_restore 55 = .ok (.if_icmp .ge 21, 3) := by decide +kernel
theorem dX12_restore_58 : decode cX12_restore 58 = .ok (.aload_n 0, 1) := by decide +kernel
theorem dX12_restore_59 : decode cX12_restore 59 = .ok (.getfield 16, 3) := by decide +kernel
theorem dX12_restore_62 : decode cX12_restore 62 = .ok (.iload_n 1, 1) := by decide +kernel
theorem dX12_restore_63 : decode cX12_restore 63 = .ok (.aload_n 0, 1) := by decide +kernel
theorem dX12_restore_64 : decode cX12_restore 64 = .ok (.getfield 43, 3) := by decide +kernel
theorem dX12_restore_67 : decode cX12_restore 67 = .ok (.iload_n 1, 1) := by decide +kernel
theorem dX12_restore_68 : decode cX12_restore 68 = .ok (.baload, 1) := by decide +kernel
theorem dX12_restore_69 : decode cX12_restore 69 = .ok (.bastore, 1) := by decide +kernel
theorem dX12_restore_70 : decode cX12_restore 70 = .ok (.iinc 1 1, 3) := by decide +kernel
theorem dX12_restore_73 : decode cX12_restore 73 = .ok (.goto (-21), 3) := by decide +kernel
theorem dX12_restore_76 : decode cX12_restore 76 = .ok (.iconst 0, 1) := by decide +kernel
theorem dX12_restore_77 : decode cX12_restore 77 = .ok (.istore_n 1, 1) := by decide +kernel
theorem dX12_restore_78 : decode cX12_restore 78 = .ok (.iload_n 1, 1) := by decide +kernel
theorem dX12_restore_79 : decode cX12_restore 79 = .ok (.iconst 3, 1) := by decide +kernel
theorem dX12_restore_80 : decode cX12_restore 80 = .ok (.if_icmp .ge 21, 3) := by decide +kernel
theorem dX12_restore_83 : decode cX12_restore 83 = .ok (.aload_n 0, 1) := by decide +kernel
theorem dX12_restore_84 : decode cX12_restore 84 = .ok (.getfield 7, 3) := by decide +kernel
theorem dX12_restore_87 : decode cX12_restore 87 = .ok (.iload_n 1, 1) := by decide +kernel
theorem dX12_restore_88 : decode cX12_restore 88 = .ok (.aload_n 0, 1) := by decide +kernel
theorem dX12_restore_89 : decode cX12_restore 89 = .ok (.getfield 37, 3) := by decide +kernel
theorem dX12_restore_92 : decode cX12_restore 92 = .ok (.iload_n 1, 1) := by decide +kernel
theorem dX12_restore_93 : decode cX12_restore 93 = .ok (.iaload, 1) := by decide +kernel
theorem dX12_restore_94 : decode cX12_restore 94 = .ok (.iastore, 1) := by decide +kernel
theorem dX12_restore_95 : decode cX12_restore 95 = .ok (.iinc 1 1, 3) := by decide +kernel
theorem dX12_restore_98 : decode cX12_restore 98 = .ok (.goto (-20), 3) := by decide +kernel
theorem dX12_restore_101 : decode cX12_restore 101 = .ok (.aload_n 0, 1) := by decide +kernel
theorem dX12_restore_102 : decode cX12_restore 102 = .ok (.aload_n 0, 1) := by decide +kernel
theorem dX12_restore_103 : decode cX12_restore 103 = .ok (.getfield 290, 3) := by decide +kernel
theorem dX12_restore_106 : decode cX12_restore 106 = .ok (.putfield 146, 3) := by decide +kernel
theorem dX12_restore_109 : decode cX12_restore 109 = .ok (.iconst 0, 1) := by decide +kernel
theorem dX12_restore_110 : decode cX12_restore 110 = .ok (.istore_n 1, 1) := by decide +kernel
theorem dX12_restore_111 : decode cX12_restore 111 = .ok (.iload_n 1, 1) := by decide +kernel
theorem dX12_restore_112 : decode cX12_restore 112 = .ok (.bipush 12, 2) := by decide +kernel
theorem dX12_restore_114 : decode cX12_restore 114 = .ok (.if_icmp .ge 21, 3) := by decide +kernel
theorem dX12_restore_117 : decode cX12_restore 117 = .ok (.aload_n 0, 1) := by decide +kernel
theorem dX12_restore_118 : decode cX12_restore 118 = .ok (.getfield 20, 3) := by decide +kernel
theorem dX12_restore_121 : decode cX12_restore 121 = .ok (.iload_n 1, 1) := by decide +kernel
theorem dX12_restore_122 : decode cX12_restore 122 = .ok (.aload_n 0, 1) := by decide +kernel
theorem dX12_restore_123 : decode cX12_restore 123 = .ok (.getfield 46, 3) := by decide +kernel
theorem dX12_restore_126 : decode cX12_restore 126 = .ok (.iload_n 1, 1) := by decide +kernel
theorem dX12_restore_127 : decode cX12_restore 127 = .ok (.iaload, 1) := by decide +kernel
theorem dX12_restore_128 : decode cX12_restore 128 = .ok (.iastore, 1) := by decide +kernel
theorem dX12_restore_129 : decode cX12_restore 129 = .ok (.iinc 1 1, 3) := by decide +kernel
theorem dX12_restore_132 : decode cX12_restore 132 = .ok (.goto (-21), 3) := by decide +kernel
theorem dX12_restore_135 : decode cX12_restore 135 = .ok (.return_, 1) := by decide +kernel
