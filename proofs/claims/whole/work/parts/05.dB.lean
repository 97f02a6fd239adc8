theorem dX11_init_0 : decode cX11_init 0 = .ok (.aload_n 0, 1) := by decide +kernel
theorem dX11_init_1 : decode cX11_init 1 = .ok (.invokespecial 1, 3) := by decide +kernel
theorem dX11_init_4 : decode cX11_init 4 = .ok (.aload_n 0, 1) := by decide +kernel
theorem dX11_init_5 : decode cX11_init 5 = .ok (.bipush 80, 2) := by decide +kernel
theorem dX11_init_7 : decode cX11_init 7 = .ok (.newarray .int, 2) := by decide +kernel
theorem dX11_init_9 : decode cX11_init 9 = .ok (.putfield 7, 3) := by decide +kernel
theorem dX11_init_12 : decode cX11_init 12 = .ok (.aload_n 0, 1) := by decide +kernel
theorem dX11_init_13 : decode cX11_init 13 = .ok (.bipush 80, 2) := by decide +kernel
theorem dX11_init_15 : decode cX11_init 15 = .ok (.newarray .int, 2) := by decide +kernel
theorem dX11_init_17 : decode cX11_init 17 = .ok (.putfield 13, 3) := by decide +kernel
theorem dX11_init_20 : decode cX11_init 20 = .ok (.aload_n 0, 1) := by decide +kernel
theorem dX11_init_21 : decode cX11_init 21 = .ok (.bipush 80, 2) := by decide +kernel
theorem dX11_init_23 : decode cX11_init 23 = .ok (.newarray .int, 2) := by decide +kernel
theorem dX11_init_25 : decode cX11_init 25 = .ok (.putfield 16, 3) := by decide +kernel
theorem dX11_init_28 : decode cX11_init 28 = .ok (.aload_n 0, 1) := by decide +kernel
theorem dX11_init_29 : decode cX11_init 29 = .ok (.bipush 80, 2) := by decide +kernel
theorem dX11_init_31 : decode cX11_init 31 = .ok (.newarray .int, 2) := by decide +kernel
theorem dX11_init_33 : decode cX11_init 33 = .ok (.putfield 19, 3) := by decide +kernel
theorem dX11_init_36 : decode cX11_init 36 = .ok (.aload_n 0, 1) := by decide +kernel
theorem dX11_init_37 : decode cX11_init 37 = .ok (.bipush 80, 2) := by decide +kernel
theorem dX11_init_39 : decode cX11_init 39 = .ok (.newarray .int, 2) := by decide +kernel
theorem dX11_init_41 : decode cX11_init 41 = .ok (.putfield 22, 3) := by decide +kernel
theorem dX11_init_44 : decode cX11_init 44 = .ok (.aload_n 0, 1) := by decide +kernel
theorem dX11_init_45 : decode cX11_init 45 = .ok (.bipush 80, 2) := by decide +kernel
theorem dX11_init_47 : decode cX11_init 47 = .ok (.newarray .int, 2) := by decide +kernel
theorem dX11_init_49 : decode cX11_init 49 = .ok (.putfield 25, 3) := by decide +kernel
theorem dX11_init_52 : decode cX11_init 52 = .ok (.aload_n 0, 1) := by decide +kernel
theorem dX11_init_53 : decode cX11_init 53 = .ok (.bipush 80, 2) := by decide +kernel
theorem dX11_init_55 : decode cX11_init 55 = .ok (.newarray .int, 2) := by decide +kernel
theorem dX11_init_57 : decode cX11_init 57 = .ok (.putfield 28, 3) := by decide +kernel
theorem dX11_init_60 : decode cX11_init 60 = .ok (.aload_n 0, 1) := by decide +kernel
theorem dX11_init_61 : decode cX11_init 61 = .ok (.bipush 80, 2) := by decide +kernel
theorem dX11_init_63 : decode cX11_init 63 = .ok (.newarray .int, 2) := by decide +kernel
theorem dX11_init_65 : decode cX11_init 65 = .ok (.putfield 31, 3) := by decide +kernel
theorem dX11_init_68 : decode cX11_init 68 = .ok (.aload_n 0, 1) := by decide +kernel
theorem dX11_init_69 : decode cX11_init 69 = .ok (.bipush 80, 2) := by decide +kernel
theorem dX11_init_71 : decode cX11_init 71 = .ok (.newarray .char, 2) := by decide +kernel
theorem dX11_init_73 : decode cX11_init 73 = .ok (.putfield 34, 3) := by decide +kernel
theorem dX11_init_76 : decode cX11_init 76 = .ok (.aload_n 0, 1) := by decide +kernel
theorem dX11_init_77 : decode cX11_init 77 = .ok (.bipush 80, 2) := by decide +kernel
theorem dX11_init_79 : decode cX11_init 79 = .ok (.newarray .boolean, 2) := by decide +kernel
theorem dX11_init_81 : decode cX11_init 81 = .ok (.putfield 38, 3) := by decide +kernel
theorem dX11_init_84 : decode cX11_init 84 = .ok (.aload_n 0, 1) := by decide +kernel
theorem dX11_init_85 : decode cX11_init 85 = .ok (.bipush 80, 2) := by decide +kernel
theorem dX11_init_87 : decode cX11_init 87 = .ok (.newarray .boolean, 2) := by decide +kernel
theorem dX11_init_89 : decode cX11_init 89 = .ok (.putfield 42, 3) := by decide +kernel
theorem dX11_init_92 : decode cX11_init 92 = .ok (.aload_n 0, 1) := by decide +kernel
theorem dX11_init_93 : decode cX11_init 93 = .ok (.bipush 80, 2) := by decide +kernel
theorem dX11_init_95 : decode cX11_init 95 = .ok (.newarray .boolean, 2) := by decide +kernel
theorem dX11_init_97 : decode cX11_init 97 = .ok (.putfield 45, 3) := by decide +kernel
theorem dX11_init_100 : decode cX11_init 100 = .ok (.aload_n 0, 1) := by decide +kernel
theorem dX11_init_101 : decode cX11_init 101 = .ok (.iconst 4, 1) := by decide +kernel
theorem dX11_init_102 : decode cX11_init 102 = .ok (.newarray .boolean, 2) := by decide +kernel
theorem dX11_init_104 : decode cX11_init 104 = .ok (.putfield 48, 3) := by decide +kernel
theorem dX11_init_107 : decode cX11_init 107 = .ok (.aload_n 0, 1) := by decide +kernel
theorem dX11_init_108 : decode cX11_init 108 = .ok (.bipush 32, 2) := by decide +kernel
theorem dX11_init_110 : decode cX11_init 110 = .ok (.newarray .int, 2) := by decide +kernel
theorem dX11_init_112 : decode cX11_init 112 = .ok (.putfield 51, 3) := by decide +kernel
theorem dX11_init_115 : decode cX11_init 115 = .ok (.aload_n 0, 1) := by decide +kernel
theorem dX11_init_116 : decode cX11_init 116 = .ok (.bipush 16, 2) := by decide +kernel
theorem dX11_init_118 : decode cX11_init 118 = .ok (.newarray .int, 2) := by decide +kernel
theorem dX11_init_120 : decode cX11_init 120 = .ok (.putfield 54, 3) := by decide +kernel
theorem dX11_init_123 : decode cX11_init 123 = .ok (.aload_n 0, 1) := by decide +kernel
theorem dX11_init_124 : decode cX11_init 124 = .ok (.bipush 16, 2) := by decide +kernel
theorem dX11_init_126 : decode cX11_init 126 = .ok (.newarray .int, 2) := by decide +kernel
theorem dX11_init_128 : decode cX11_init 128 = .ok (.putfield 57, 3) := by decide +kernel
theorem dX11_init_131 : decode cX11_init 131 = .ok (.aload_n 0, 1) := by decide +kernel
theorem dX11_init_132 : decode cX11_init 132 = .ok (.bipush 64, 2) := by decide +kernel
theorem dX11_init_134 : decode cX11_init 134 = .ok (.newarray .int, 2) := by decide +kernel
theorem dX11_init_136 : decode cX11_init 136 = .ok (.putfield 60, 3) := by decide +kernel
theorem dX11_init_139 : decode cX11_init 139 = .ok (.aload_n 0, 1) := by decide +kernel
theorem dX11_init_140 : decode cX11_init 140 = .ok (.bipush 64, 2) := by decide +kernel
theorem dX11_init_142 : decode cX11_init 142 = .ok (.newarray .int, 2) := by decide +kernel
theorem dX11_init_144 : decode cX11_init 144 = .ok (.putfield 63, 3) := by decide +kernel
theorem dX11_init_147 : decode cX11_init 147 = .ok (.aload_n 0, 1) := by decide +kernel
theorem dX11_init_148 : decode cX11_init 148 = .ok (.iconst 4, 1) := by decide +kernel
theorem dX11_init_149 : decode cX11_init 149 = .ok (.newarray .int, 2) := by decide +kernel
theorem dX11_init_151 : decode cX11_init 151 = .ok (.putfield 66, 3) := by decide +kernel
theorem dX11_init_154 : decode cX11_init 154 = .ok (.aload_n 0, 1) := by decide +kernel
theorem dX11_init_155 : decode cX11_init 155 = .ok (.bipush 16, 2) := by decide +kernel
theorem dX11_init_157 : decode cX11_init 157 = .ok (.newarray .int, 2) := by decide +kernel
theorem dX11_init_159 : decode cX11_init 159 = .ok (.putfield 69, 3) := by decide +kernel
theorem dX11_init_162 : decode cX11_init 162 = .ok (.aload_n 0, 1) := by decide +kernel
theorem dX11_init_163 : decode cX11_init 163 = .ok (.bipush 64, 2) := by decide +kernel
theorem dX11_init_165 : decode cX11_init 165 = .ok (.newarray .int, 2) := by decide +kernel
theorem dX11_init_167 : decode cX11_init 167 = .ok (.putfield 72, 3) := by decide +kernel
theorem dX11_init_170 : decode cX11_init 170 = .ok (.aload_n 0, 1) := by decide +kernel
theorem dX11_init_171 : decode cX11_init 171 = .ok (.bipush 32, 2) := by decide +kernel
theorem dX11_init_173 : decode cX11_init 173 = .ok (.newarray .long, 2) := by decide +kernel
theorem dX11_init_175 : decode cX11_init 175 = .ok (.putfield 75, 3) := by decide +kernel
theorem dX11_init_178 : decode cX11_init 178 = .ok (.iconst 0, 1) := by decide +kernel
theorem dX11_init_179 : decode cX11_init 179 = .ok (.istore_n 1, 1) := by decide +kernel
theorem dX11_init_180 : decode cX11_init 180 = .ok (.iload_n 1, 1) := by decide +kernel
theorem dX11_init_181 : decode cX11_init 181 = .ok (.bipush 80, 2) := by decide +kernel
theorem dX11_init_183 : decode cX11_init 183 = .ok (.if_icmp .ge 16, 3) := by decide +kernel
theorem dX11_init_186 : decode cX11_init 186 = .ok (.aload_n 0, 1) := by decide +kernel
theorem dX11_init_187 : decode cX11_init 187 = .ok (.getfield 31, 3) := by decide +kernel
theorem dX11_init_190 : decode cX11_init 190 = .ok (.iload_n 1, 1) := by decide +kernel
theorem dX11_init_191 : decode cX11_init 191 = .ok (.iconst (-1), 1) := by decide +kernel
theorem dX11_init_192 : decode cX11_init 192 = .ok (.iastore, 1) := by decide +kernel
theorem dX11_init_193 : decode cX11_init 193 = .ok (.iinc 1 1, 3) := by decide +kernel
theorem dX11_init_196 : decode cX11_init 196 = .ok (.goto (-16), 3) := by decide +kernel
theorem dX11_init_199 : decode cX11_init 199 = .ok (.iconst 0, 1) := by decide +kernel
theorem dX11_init_200 : decode cX11_init 200 = .ok (.istore_n 1, 1) := by decide +kernel
theorem dX11_init_201 : decode cX11_init 201 = .ok (.iload_n 1, 1) := by decide +kernel
theorem dX11_init_202 : decode cX11_init 202 = .ok (.bipush 32, 2) := by decide +kernel
theorem dX11_init_204 : decode cX11_init 204 = .ok (.if_icmp .ge 16, 3) := by decide +kernel
theorem dX11_init_207 : decode cX11_init 207 = .ok (.aload_n 0, 1) := by decide +kernel
theorem dX11_init_208 : decode cX11_init 208 = .ok (.getfield 51, 3) := by decide +kernel
theorem dX11_init_211 : decode cX11_init 211 = .ok (.iload_n 1, 1) := by decide +kernel
theorem dX11_init_212 : decode cX11_init 212 = .ok (.iconst (-1), 1) := by decide +kernel
theorem dX11_init_213 : decode cX11_init 213 = .ok (.iastore, 1) := by decide +kernel
theorem dX11_init_214 : decode cX11_init 214 = .ok (.iinc 1 1, 3) := by decide +kernel
theorem dX11_init_217 : decode cX11_init 217 = .ok (.goto (-16), 3) := by decide +kernel
theorem dX11_init_220 : decode cX11_init 220 = .ok (.aload_n 0, 1) := by decide +kernel
theorem dX11_init_221 : decode cX11_init 221 = .ok (.bipush 48, 2) := by decide +kernel
theorem dX11_init_223 : decode cX11_init 223 = .ok (.putfield 79, 3) := by decide +kernel
theorem dX11_init_226 : decode cX11_init 226 = .ok (.aload_n 0, 1) := by decide +kernel
theorem dX11_init_227 : decode cX11_init 227 = .ok (.iconst (-1), 1) := by decide +kernel
theorem dX11_init_228 : decode cX11_init 228 = .ok (.putfield 83, 3) := by decide +kernel
theorem dX11_init_231 : decode cX11_init 231 = .ok (.aload_n 0, 1) := by decide +kernel
theorem dX11_init_232 : decode cX11_init 232 = .ok (.iconst (-1), 1) := by decide +kernel
theorem dX11_init_233 : decode cX11_init 233 = .ok (.putfield 86, 3) := by decide +kernel
theorem dX11_init_236 : decode cX11_init 236 = .ok (.aload_n 0, 1) := by decide +kernel
theorem dX11_init_237 : decode cX11_init 237 = .ok (.bipush 114, 2) := by decide +kernel
theorem dX11_init_239 : decode cX11_init 239 = .ok (.putfield 89, 3) := by decide +kernel
theorem dX11_init_242 : decode cX11_init 242 = .ok (.return_, 1) := by decide +kernel
theorem dX11_thrown_0 : decode cX11_thrown 0 = .ok (.aload_n 0, 1) := by decide +kernel
theorem dX11_thrown_1 : decode cX11_thrown 1 = .ok (.getfield 93, 3) := by decide +kernel
theorem dX11_thrown_4 : decode cX11_thrown 4 = .ok (.ireturn, 1) := by decide +kernel
theorem dX11_refuse_0 : decode cX11_refuse 0 = .ok (.aload_n 0, 1) := by decide +kernel
theorem dX11_refuse_1 : decode cX11_refuse 1 = .ok (.iload_n 1, 1) := by decide +kernel
theorem dX11_refuse_2 : decode cX11_refuse 2 = .ok (.putfield 93, 3) := by decide +kernel
theorem dX11_refuse_5 : decode cX11_refuse 5 = .ok (.iconst 0, 1) := by decide +kernel
theorem dX11_refuse_6 : decode cX11_refuse 6 = .ok (.ireturn, 1) := by decide +kernel
theorem dX11_isIn_0 : decode cX11_isIn 0 = .ok (.iload_n 0, 1) := by decide +kernel
theorem dX11_isIn_1 : decode cX11_isIn 1 = .ok (.iload_n 1, 1) := by decide +kernel
theorem dX11_isIn_2 : decode cX11_isIn 2 = .ok (.if_icmp .lt 12, 3) := by decide +kernel
theorem dX11_isIn_5 : decode cX11_isIn 5 = .ok (.iload_n 0, 1) := by decide +kernel
theorem dX11_isIn_6 : decode cX11_isIn 6 = .ok (.iload_n 2, 1) := by decide +kernel
theorem dX11_isIn_7 : decode cX11_isIn 7 = .ok (.if_icmp .gt 7, 3) := by decide +kernel
theorem dX11_isIn_10 : decode cX11_isIn 10 = .ok (.iconst 1, 1) := by decide +kernel
theorem dX11_isIn_11 : decode cX11_isIn 11 = .ok (.goto 4, 3) := by decide +kernel
theorem dX11_isIn_14 : decode cX11_isIn 14 = .ok (.iconst 0, 1) := by decide +kernel
theorem dX11_isIn_15 : decode cX11_isIn 15 = .ok (.ireturn, 1) := by decide +kernel
theorem dX11_out_0 : decode cX11_out 0 = .ok (.aload_n 0, 1) := by decide +kernel
theorem dX11_out_1 : decode cX11_out 1 = .ok (.iload_n 1, 1) := by decide +kernel
theorem dX11_out_2 : decode cX11_out 2 = .ok (.iconst 0, 1) := by decide +kernel
theorem dX11_out_3 : decode cX11_out 3 = .ok (.iload_n 2, 1) := by decide +kernel
theorem dX11_out_4 : decode cX11_out 4 = .ok (.iconst 1, 1) := by decide +kernel
theorem dX11_out_5 : decode cX11_out 5 = .ok (.isub, 1) := by decide +kernel
theorem dX11_out_6 : decode cX11_out 6 = .ok (.invokestatic 96, 3) := by decide +kernel
theorem dX11_out_9 : decode cX11_out 9 = .ok (.ifCond .eq 7, 3) := by decide +kernel
theorem dX11_out_12 : decode cX11_out 12 = .ok (.iconst 0, 1) := by decide +kernel
theorem dX11_out_13 : decode cX11_out 13 = .ok (.goto 4, 3) := by decide +kernel
theorem dX11_out_16 : decode cX11_out 16 = .ok (.iconst 1, 1) := by decide +kernel
theorem dX11_out_17 : decode cX11_out 17 = .ok (.putfield 93, 3) := by decide +kernel
theorem dX11_out_20 : decode cX11_out 20 = .ok (.aload_n 0, 1) := by decide +kernel
theorem dX11_out_21 : decode cX11_out 21 = .ok (.getfield 93, 3) := by decide +kernel
theorem dX11_out_24 : decode cX11_out 24 = .ok (.ifCond .eq 7, 3) := by decide +kernel
theorem dX11_out_27 : decode cX11_out 27 = .ok (.iconst 1, 1) := by decide +kernel
theorem dX11_out_28 : decode cX11_out 28 = .ok (.goto 4, 3) := by decide +kernel
theorem dX11_out_31 : decode cX11_out 31 = .ok (.iconst 0, 1) := by decide +kernel
theorem dX11_out_32 : decode cX11_out 32 = .ok (.ireturn, 1) := by decide +kernel
theorem dX11_isOrder_0 : decode cX11_isOrder 0 = .ok (.iload_n 0, 1) := by decide +kernel
theorem dX11_isOrder_1 : decode cX11_isOrder 1 = .ok (.bipush 110, 2) := by decide +kernel
theorem dX11_isOrder_3 : decode cX11_isOrder 3 = .ok (.if_icmp .eq 46, 3) := by decide +kernel
theorem dX11_isOrder_6 : decode cX11_isOrder 6 = .ok (.iload_n 0, 1) := by decide +kernel
theorem dX11_isOrder_7 : decode cX11_isOrder 7 = .ok (.bipush 111, 2) := by decide +kernel
theorem dX11_isOrder_9 : decode cX11_isOrder 9 = .ok (.if_icmp .eq 40, 3) := by decide +kernel
theorem dX11_isOrder_12 : decode cX11_isOrder 12 = .ok (.iload_n 0, 1) := by decide +kernel
theorem dX11_isOrder_13 : decode cX11_isOrder 13 = .ok (.bipush 99, 2) := by decide +kernel
theorem dX11_isOrder_15 : decode cX11_isOrder 15 = .ok (.if_icmp .eq 34, 3) := by decide +kernel
theorem dX11_isOrder_18 : decode cX11_isOrder 18 = .ok (.iload_n 0, 1) := by decide +kernel
theorem dX11_isOrder_19 : decode cX11_isOrder 19 = .ok (.bipush 114, 2) := by decide +kernel
theorem dX11_isOrder_21 : decode cX11_isOrder 21 = .ok (.if_icmp .eq 28, 3) := by decide +kernel
theorem dX11_isOrder_24 : decode cX11_isOrder 24 = .ok (.iload_n 0, 1) := by decide +kernel
theorem dX11_isOrder_25 : decode cX11_isOrder 25 = .ok (.bipush 100, 2) := by decide +kernel
theorem dX11_isOrder_27 : decode cX11_isOrder 27 = .ok (.if_icmp .eq 22, 3) := by decide +kernel
theorem dX11_isOrder_30 : decode cX11_isOrder 30 = .ok (.iload_n 0, 1) := by decide +kernel
theorem dX11_isOrder_31 : decode cX11_isOrder 31 = .ok (.bipush 112, 2) := by decide +kernel
theorem dX11_isOrder_33 : decode cX11_isOrder 33 = .ok (.if_icmp .eq 16, 3) := by decide +kernel
theorem dX11_isOrder_36 : decode cX11_isOrder 36 = .ok (.iload_n 0, 1) := by decide +kernel
theorem dX11_isOrder_37 : decode cX11_isOrder 37 = .ok (.invokestatic 100, 3) := by decide +kernel
theorem dX11_isOrder_40 : decode cX11_isOrder 40 = .ok (.ifCond .ne 9, 3) := by decide +kernel
theorem dX11_isOrder_43 : decode cX11_isOrder 43 = .ok (.iload_n 0, 1) := by decide +kernel
theorem dX11_isOrder_44 : decode cX11_isOrder 44 = .ok (.bipush 113, 2) := by decide +kernel
theorem dX11_isOrder_46 : decode cX11_isOrder 46 = .ok (.if_icmp .ne 7, 3) := by decide +kernel
theorem dX11_isOrder_49 : decode cX11_isOrder 49 = .ok (.iconst 1, 1) := by decide +kernel
theorem dX11_isOrder_50 : decode cX11_isOrder 50 = .ok (.goto 4, 3) := by decide +kernel
theorem dX11_isOrder_53 : decode cX11_isOrder 53 = .ok (.iconst 0, 1) := by decide +kernel
theorem dX11_isOrder_54 : decode cX11_isOrder 54 = .ok (.ireturn, 1) := by decide +kernel
theorem dX11_ends_0 : decode cX11_ends 0 = .ok (.iload_n 0, 1) := by decide +kernel
theorem dX11_ends_1 : decode cX11_ends 1 = .ok (.bipush 101, 2) := by decide +kernel
theorem dX11_ends_3 : decode cX11_ends 3 = .ok (.if_icmp .eq 21, 3) := by decide +kernel
theorem dX11_ends_6 : decode cX11_ends 6 = .ok (.iload_n 0, 1) := by decide +kernel
theorem dX11_ends_7 : decode cX11_ends 7 = .ok (.bipush 115, 2) := by decide +kernel
theorem dX11_ends_9 : decode cX11_ends 9 = .ok (.if_icmp .eq 15, 3) := by decide +kernel
theorem dX11_ends_12 : decode cX11_ends 12 = .ok (.iload_n 0, 1) := by decide +kernel
theorem dX11_ends_13 : decode cX11_ends 13 = .ok (.bipush 107, 2) := by decide +kernel
theorem dX11_ends_15 : decode cX11_ends 15 = .ok (.if_icmp .eq 9, 3) := by decide +kernel
theorem dX11_ends_18 : decode cX11_ends 18 = .ok (.iload_n 0, 1) := by decide +kernel
theorem dX11_ends_19 : decode cX11_ends 19 = .ok (.bipush 103, 2) := by decide +kernel
theorem dX11_ends_21 : decode cX11_ends 21 = .ok (.if_icmp .ne 7, 3) := by decide +kernel
theorem dX11_ends_24 : decode cX11_ends 24 = .ok (.iconst 1, 1) := by decide +kernel
theorem dX11_ends_25 : decode cX11_ends 25 = .ok (.goto 4, 3) := by decide +kernel
theorem dX11_ends_28 : decode cX11_ends 28 = .ok (.iconst 0, 1) := by decide +kernel
theorem dX11_ends_29 : decode cX11_ends 29 = .ok (.ireturn, 1) := by decide +kernel
theorem dX11_forbidden_0 : decode cX11_forbidden 0 = .ok (.iload_n 2, 1) := by decide +kernel
theorem dX11_forbidden_1 : decode cX11_forbidden 1 = .ok (.iconst 1, 1) := by decide +kernel
theorem dX11_forbidden_2 : decode cX11_forbidden 2 = .ok (.if_icmp .ne 13, 3) := by decide +kernel
theorem dX11_forbidden_5 : decode cX11_forbidden 5 = .ok (.iload_n 1, 1) := by decide +kernel
theorem dX11_forbidden_6 : decode cX11_forbidden 6 = .ok (.bipush 8, 2) := by decide +kernel
theorem dX11_forbidden_8 : decode cX11_forbidden 8 = .ok (.iand, 1) := by decide +kernel
theorem dX11_forbidden_9 : decode cX11_forbidden 9 = .ok (.ifCond .eq 6, 3) := by decide +kernel
theorem dX11_forbidden_12 : decode cX11_forbidden 12 = .ok (.bipush 100, 2) := by decide +kernel
theorem dX11_forbidden_14 : decode cX11_forbidden 14 = .ok (.ireturn, 1) := by decide +kernel
theorem dX11_forbidden_15 : decode cX11_forbidden 15 = .ok (.iload_n 1, 1) := by decide +kernel
theorem dX11_forbidden_16 : decode cX11_forbidden 16 = .ok (.bipush 96, 2) := by decide +kernel
theorem dX11_forbidden_18 : decode cX11_forbidden 18 = .ok (.iand, 1) := by decide +kernel
theorem dX11_forbidden_19 : decode cX11_forbidden 19 = .ok (.bipush 96, 2) := by decide +kernel
theorem dX11_forbidden_21 : decode cX11_forbidden 21 = .ok (.if_icmp .ne 6, 3) := by decide +kernel
theorem dX11_forbidden_24 : decode cX11_forbidden 24 = .ok (.bipush 114, 2) := by decide +kernel
theorem dX11_forbidden_26 : decode cX11_forbidden 26 = .ok (.ireturn, 1) := by decide +kernel
theorem dX11_forbidden_27 : decode cX11_forbidden 27 = .ok (.iload_n 3, 1) := by decide +kernel
theorem dX11_forbidden_28 : decode cX11_forbidden 28 = .ok (.bipush 99, 2) := by decide +kernel
theorem dX11_forbidden_30 : decode cX11_forbidden 30 = .ok (.if_icmp .eq 9, 3) := by decide +kernel
theorem dX11_forbidden_33 : decode cX11_forbidden 33 = .ok (.iload_n 3, 1) := by decide +kernel
theorem dX11_forbidden_34 : decode cX11_forbidden 34 = .ok (.bipush 114, 2) := by decide +kernel
theorem dX11_forbidden_36 : decode cX11_forbidden 36 = .ok (.if_icmp .ne 10, 3) := by decide +kernel
theorem dX11_forbidden_39 : decode cX11_forbidden 39 = .ok (.iload_n 2, 1) := by decide +kernel
theorem dX11_forbidden_40 : decode cX11_forbidden 40 = .ok (.ifCond .eq 6, 3) := by decide +kernel
theorem dX11_forbidden_43 : decode cX11_forbidden 43 = .ok (.bipush 109, 2) := by decide +kernel
theorem dX11_forbidden_45 : decode cX11_forbidden 45 = .ok (.ireturn, 1) := by decide +kernel
theorem dX11_forbidden_46 : decode cX11_forbidden 46 = .ok (.iload 4, 2) := by decide +kernel
theorem dX11_forbidden_48 : decode cX11_forbidden 48 = .ok (.ifCond .eq 12, 3) := by decide +kernel
theorem dX11_forbidden_51 : decode cX11_forbidden 51 = .ok (.iload_n 3, 1) := by decide +kernel
theorem dX11_forbidden_52 : decode cX11_forbidden 52 = .ok (.bipush 111, 2) := by decide +kernel
theorem dX11_forbidden_54 : decode cX11_forbidden 54 = .ok (.if_icmp .eq 6, 3) := by decide +kernel
theorem dX11_forbidden_57 : decode cX11_forbidden 57 = .ok (.bipush 116, 2) := by decide +kernel
theorem dX11_forbidden_59 : decode cX11_forbidden 59 = .ok (.ireturn, 1) := by decide +kernel
theorem dX11_forbidden_60 : decode cX11_forbidden 60 = .ok (.iload_n 0, 1) := by decide +kernel
theorem dX11_forbidden_61 : decode cX11_forbidden 61 = .ok (.bipush 64, 2) := by decide +kernel
theorem dX11_forbidden_63 : decode cX11_forbidden 63 = .ok (.iand, 1) := by decide +kernel
theorem dX11_forbidden_64 : decode cX11_forbidden 64 = .ok (.ifCond .eq 14, 3) := by decide +kernel
theorem dX11_forbidden_67 : decode cX11_forbidden 67 = .ok (.iload_n 3, 1) := by decide +kernel
theorem dX11_forbidden_68 : decode cX11_forbidden 68 = .ok (.bipush 111, 2) := by decide +kernel
theorem dX11_forbidden_70 : decode cX11_forbidden 70 = .ok (.if_icmp .ne 8, 3) := by decide +kernel
theorem dX11_forbidden_73 : decode cX11_forbidden 73 = .ok (.bipush 107, 2) := by decide +kernel
theorem dX11_forbidden_75 : decode cX11_forbidden 75 = .ok (.goto 5, 3) := by decide +kernel
theorem dX11_forbidden_78 : decode cX11_forbidden 78 = .ok (.bipush 45, 2) := by decide +kernel
theorem dX11_forbidden_80 : decode cX11_forbidden 80 = .ok (.ireturn, 1) := by decide +kernel
theorem dX11_write_0 : decode cX11_write 0 = .ok (.aload_n 0, 1) := by decide +kernel
theorem dX11_write_1 : decode cX11_write 1 = .ok (.iload_n 1, 1) := by decide +kernel
theorem dX11_write_2 : decode cX11_write 2 = .ok (.bipush 64, 2) := by decide +kernel
theorem dX11_write_4 : decode cX11_write 4 = .ok (.invokevirtual 104, 3) := by decide +kernel
theorem dX11_write_7 : decode cX11_write 7 = .ok (.ifCond .eq 5, 3) := by decide +kernel
theorem dX11_write_10 : decode cX11_write 10 = .ok (.iconst 0, 1) := by decide +kernel
theorem dX11_write_11 : decode cX11_write 11 = .ok (.ireturn, 1) := by decide +kernel
theorem dX11_write_12 : decode cX11_write 12 = .ok (.iload_n 2, 1) := by decide +kernel
theorem dX11_write_13 : decode cX11_write 13 = .ok (.iconst 0, 1) := by decide +kernel
theorem dX11_write_14 : decode cX11_write 14 = .ok (.bipush 127, 2) := by decide +kernel
theorem dX11_write_16 : decode cX11_write 16 = .ok (.invokestatic 96, 3) := by decide +kernel
theorem dX11_write_19 : decode cX11_write 19 = .ok (.ifCond .eq 69, 3) := by decide +kernel
theorem dX11_write_22 : decode cX11_write 22 = .ok (.iload_n 3, 1) := by decide +kernel
theorem dX11_write_23 : decode cX11_write 23 = .ok (.iconst 0, 1) := by decide +kernel
theorem dX11_write_24 : decode cX11_write 24 = .ok (.bipush 7, 2) := by decide +kernel
theorem dX11_write_26 : decode cX11_write 26 = .ok (.invokestatic 96, 3) := by decide +kernel
theorem dX11_write_29 : decode cX11_write 29 = .ok (.ifCond .eq 59, 3) := by decide +kernel
theorem dX11_write_32 : decode cX11_write 32 = .ok (.iload 4, 2) := by decide +kernel
theorem dX11_write_34 : decode cX11_write 34 = .ok (.iconst 0, 1) := by decide +kernel
theorem dX11_write_35 : decode cX11_write 35 = .ok (.sipush 255, 3) := by decide +kernel
theorem dX11_write_38 : decode cX11_write 38 = .ok (.invokestatic 96, 3) := by decide +kernel
theorem dX11_write_41 : decode cX11_write 41 = .ok (.ifCond .eq 47, 3) := by decide +kernel
theorem dX11_write_44 : decode cX11_write 44 = .ok (.iload 5, 2) := by decide +kernel
theorem dX11_write_46 : decode cX11_write 46 = .ok (.iconst 0, 1) := by decide +kernel
theorem dX11_write_47 : decode cX11_write 47 = .ok (.iconst 2, 1) := by decide +kernel
theorem dX11_write_48 : decode cX11_write 48 = .ok (.invokestatic 96, 3) := by decide +kernel
theorem dX11_write_51 : decode cX11_write 51 = .ok (.ifCond .eq 37, 3) := by decide +kernel
theorem dX11_write_54 : decode cX11_write 54 = .ok (.iload 6, 2) := by decide +kernel
theorem dX11_write_56 : decode cX11_write 56 = .ok (.invokestatic 108, 3) := by decide +kernel
theorem dX11_write_59 : decode cX11_write 59 = .ok (.ifCond .eq 29, 3) := by decide +kernel
theorem dX11_write_62 : decode cX11_write 62 = .ok (.iload 7, 2) := by decide +kernel
theorem dX11_write_64 : decode cX11_write 64 = .ok (.iconst 0, 1) := by decide +kernel
theorem dX11_write_65 : decode cX11_write 65 = .ok (.bipush 79, 2) := by decide +kernel
theorem dX11_write_67 : decode cX11_write 67 = .ok (.invokestatic 96, 3) := by decide +kernel
theorem dX11_write_70 : decode cX11_write 70 = .ok (.ifCond .eq 18, 3) := by decide +kernel
theorem dX11_write_73 : decode cX11_write 73 = .ok (.iload 8, 2) := by decide +kernel
theorem dX11_write_75 : decode cX11_write 75 = .ok (.iconst 0, 1) := by decide +kernel
theorem dX11_write_76 : decode cX11_write 76 = .ok (.bipush 15, 2) := by decide +kernel
theorem dX11_write_78 : decode cX11_write 78 = .ok (.invokestatic 96, 3) := by decide +kernel
theorem dX11_write_81 : decode cX11_write 81 = .ok (.ifCond .eq 7, 3) := by decide +kernel
theorem dX11_write_84 : decode cX11_write 84 = .ok (.iconst 1, 1) := by decide +kernel
theorem dX11_write_85 : decode cX11_write 85 = .ok (.goto 4, 3) := by decide +kernel
theorem dX11_write_88 : decode cX11_write 88 = .ok (.iconst 0, 1) := by decide +kernel
theorem dX11_write_89 : decode cX11_write 89 = .ok (.istore 9, 2) := by decide +kernel
theorem dX11_write_91 : decode cX11_write 91 = .ok (.iload 9, 2) := by decide +kernel
theorem dX11_write_93 : decode cX11_write 93 = .ok (.ifCond .ne 9, 3) := by decide +kernel
theorem dX11_write_96 : decode cX11_write 96 = .ok (.aload_n 0, 1) := by decide +kernel
theorem dX11_write_97 : decode cX11_write 97 = .ok (.iconst 2, 1) := by decide +kernel
theorem dX11_write_98 : decode cX11_write 98 = .ok (.invokevirtual 111, 3) := by decide +kernel
theorem dX11_write_101 : decode cX11_write 101 = .ok (.ireturn, 1) := by decide +kernel
theorem dX11_write_102 : decode cX11_write 102 = .ok (.iload_n 2, 1) := by decide +kernel
theorem dX11_write_103 : decode cX11_write 103 = .ok (.iload 4, 2) := by decide +kernel
theorem dX11_write_105 : decode cX11_write 105 = .ok (.iload 5, 2) := by decide +kernel
theorem dX11_write_107 : decode cX11_write 107 = .ok (.iload 6, 2) := by decide +kernel
theorem dX11_write_109 : decode cX11_write 109 = .ok (.iload 8, 2) := by decide +kernel
theorem dX11_write_111 : decode cX11_write 111 = .ok (.iconst 2, 1) := by decide +kernel
theorem dX11_write_112 : decode cX11_write 112 = .ok (.idiv, 1) := by decide +kernel
theorem dX11_write_113 : decode cX11_write 113 = .ok (.invokestatic 115, 3) := by decide +kernel
theorem dX11_write_116 : decode cX11_write 116 = .ok (.bipush 45, 2) := by decide +kernel
theorem dX11_write_118 : decode cX11_write 118 = .ok (.if_icmp .eq 9, 3) := by decide +kernel
theorem dX11_write_121 : decode cX11_write 121 = .ok (.aload_n 0, 1) := by decide +kernel
theorem dX11_write_122 : decode cX11_write 122 = .ok (.iconst 3, 1) := by decide +kernel
theorem dX11_write_123 : decode cX11_write 123 = .ok (.invokevirtual 111, 3) := by decide +kernel
theorem dX11_write_126 : decode cX11_write 126 = .ok (.ireturn, 1) := by decide +kernel
theorem dX11_write_127 : decode cX11_write 127 = .ok (.aload_n 0, 1) := by decide +kernel
theorem dX11_write_128 : decode cX11_write 128 = .ok (.getfield 7, 3) := by decide +kernel
theorem dX11_write_131 : decode cX11_write 131 = .ok (.iload_n 1, 1) := by decide +kernel
theorem dX11_write_132 : decode cX11_write 132 = .ok (.iload_n 2, 1) := by decide +kernel
theorem dX11_write_133 : decode cX11_write 133 = .ok (.iastore, 1) := by decide +kernel
theorem dX11_write_134 : decode cX11_write 134 = .ok (.aload_n 0, 1) := by decide +kernel
theorem dX11_write_135 : decode cX11_write 135 = .ok (.getfield 13, 3) := by decide +kernel
theorem dX11_write_138 : decode cX11_write 138 = .ok (.iload_n 1, 1) := by decide +kernel
theorem dX11_write_139 : decode cX11_write 139 = .ok (.iload_n 3, 1) := by decide +kernel
theorem dX11_write_140 : decode cX11_write 140 = .ok (.iastore, 1) := by decide +kernel
theorem dX11_write_141 : decode cX11_write 141 = .ok (.aload_n 0, 1) := by decide +kernel
theorem dX11_write_142 : decode cX11_write 142 = .ok (.getfield 16, 3) := by decide +kernel
theorem dX11_write_145 : decode cX11_write 145 = .ok (.iload_n 1, 1) := by decide +kernel
theorem dX11_write_146 : decode cX11_write 146 = .ok (.iload 4, 2) := by decide +kernel
theorem dX11_write_148 : decode cX11_write 148 = .ok (.iastore, 1) := by decide +kernel
theorem dX11_write_149 : decode cX11_write 149 = .ok (.aload_n 0, 1) := by decide +kernel
theorem dX11_write_150 : decode cX11_write 150 = .ok (.getfield 19, 3) := by decide +kernel
theorem dX11_write_153 : decode cX11_write 153 = .ok (.iload_n 1, 1) := by decide +kernel
theorem dX11_write_154 : decode cX11_write 154 = .ok (.iload 5, 2) := by decide +kernel
theorem dX11_write_156 : decode cX11_write 156 = .ok (.iastore, 1) := by decide +kernel
theorem dX11_write_157 : decode cX11_write 157 = .ok (.aload_n 0, 1) := by decide +kernel
theorem dX11_write_158 : decode cX11_write 158 = .ok (.getfield 34, 3) := by decide +kernel
theorem dX11_write_161 : decode cX11_write 161 = .ok (.iload_n 1, 1) := by decide +kernel
theorem dX11_write_162 : decode cX11_write 162 = .ok (.iload 6, 2) := by decide +kernel
theorem dX11_write_164 : decode cX11_write 164 = .ok (.castore, 1) := by decide +kernel
theorem dX11_write_165 : decode cX11_write 165 = .ok (.aload_n 0, 1) := by decide +kernel
theorem dX11_write_166 : decode cX11_write 166 = .ok (.getfield 22, 3) := by decide +kernel
theorem dX11_write_169 : decode cX11_write 169 = .ok (.iload_n 1, 1) := by decide +kernel
theorem dX11_write_170 : decode cX11_write 170 = .ok (.iload 7, 2) := by decide +kernel
theorem dX11_write_172 : decode cX11_write 172 = .ok (.iastore, 1) := by decide +kernel
theorem dX11_write_173 : decode cX11_write 173 = .ok (.aload_n 0, 1) := by decide +kernel
theorem dX11_write_174 : decode cX11_write 174 = .ok (.getfield 25, 3) := by decide +kernel
theorem dX11_write_177 : decode cX11_write 177 = .ok (.iload_n 1, 1) := by decide +kernel
theorem dX11_write_178 : decode cX11_write 178 = .ok (.iload 8, 2) := by decide +kernel
theorem dX11_write_180 : decode cX11_write 180 = .ok (.iconst 2, 1) := by decide +kernel
theorem dX11_write_181 : decode cX11_write 181 = .ok (.idiv, 1) := by decide +kernel
theorem dX11_write_182 : decode cX11_write 182 = .ok (.iastore, 1) := by decide +kernel
theorem dX11_write_183 : decode cX11_write 183 = .ok (.aload_n 0, 1) := by decide +kernel
theorem dX11_write_184 : decode cX11_write 184 = .ok (.getfield 42, 3) := by decide +kernel
theorem dX11_write_187 : decode cX11_write 187 = .ok (.iload_n 1, 1) := by decide +kernel
theorem dX11_write_188 : decode cX11_write 188 = .ok (.iload 8, 2) := by decide +kernel
theorem dX11_write_190 : decode cX11_write 190 = .ok (.iconst 2, 1) := by decide +kernel
theorem dX11_write_191 : decode cX11_write 191 = .ok (.irem, 1) := by decide +kernel
theorem dX11_write_192 : decode cX11_write 192 = .ok (.iconst 1, 1) := by decide +kernel
theorem dX11_write_193 : decode cX11_write 193 = .ok (.if_icmp .ne 7, 3) := by decide +kernel
theorem dX11_write_196 : decode cX11_write 196 = .ok (.iconst 1, 1) := by decide +kernel
theorem dX11_write_197 : decode cX11_write 197 = .ok (.goto 4, 3) := by decide +kernel
theorem dX11_write_200 : decode cX11_write 200 = .ok (.iconst 0, 1) := by decide +kernel
theorem dX11_write_201 : decode cX11_write 201 = .ok (.bastore, 1) := by decide +kernel
theorem dX11_write_202 : decode cX11_write 202 = .ok (.aload_n 0, 1) := by decide +kernel
theorem dX11_write_203 : decode cX11_write 203 = .ok (.getfield 28, 3) := by decide +kernel
theorem dX11_write_206 : decode cX11_write 206 = .ok (.iload_n 1, 1) := by decide +kernel
theorem dX11_write_207 : decode cX11_write 207 = .ok (.iconst 0, 1) := by decide +kernel
theorem dX11_write_208 : decode cX11_write 208 = .ok (.iastore, 1) := by decide +kernel
theorem dX11_write_209 : decode cX11_write 209 = .ok (.aload_n 0, 1) := by decide +kernel
theorem dX11_write_210 : decode cX11_write 210 = .ok (.iload_n 1, 1) := by decide +kernel
theorem dX11_write_211 : decode cX11_write 211 = .ok (.invokevirtual 119, 3) := by decide +kernel
theorem dX11_write_214 : decode cX11_write 214 = .ok (.ireturn, 1) := by decide +kernel
theorem dX11_adds_0 : decode cX11_adds 0 = .ok (.aload_n 0, 1) := by decide +kernel
theorem dX11_adds_1 : decode cX11_adds 1 = .ok (.dup, 1) := by decide +kernel
theorem dX11_adds_2 : decode cX11_adds 2 = .ok (.getfield 122, 3) := by decide +kernel
theorem dX11_adds_5 : decode cX11_adds 5 = .ok (.aload_n 0, 1) := by decide +kernel
theorem dX11_adds_6 : decode cX11_adds 6 = .ok (.getfield 38, 3) := by decide +kernel
theorem dX11_adds_9 : decode cX11_adds 9 = .ok (.iload_n 1, 1) := by decide +kernel
theorem dX11_adds_10 : decode cX11_adds 10 = .ok (.baload, 1) := by decide +kernel
theorem dX11_adds_11 : decode cX11_adds 11 = .ok (.ifCond .eq 7, 3) := by decide +kernel
theorem dX11_adds_14 : decode cX11_adds 14 = .ok (.iconst 0, 1) := by decide +kernel
theorem dX11_adds_15 : decode cX11_adds 15 = .ok (.goto 4, 3) := by decide +kernel
theorem dX11_adds_18 : decode cX11_adds 18 = .ok (.iconst 1, 1) := by decide +kernel
theorem dX11_adds_19 : decode cX11_adds 19 = .ok (.iadd, 1) := by decide +kernel
theorem dX11_adds_20 : decode cX11_adds 20 = .ok (.putfield 122, 3) := by decide +kernel
theorem dX11_adds_23 : decode cX11_adds 23 = .ok (.aload_n 0, 1) := by decide +kernel
theorem dX11_adds_24 : decode cX11_adds 24 = .ok (.getfield 38, 3) := by decide +kernel
theorem dX11_adds_27 : decode cX11_adds 27 = .ok (.iload_n 1, 1) := by decide +kernel
theorem dX11_adds_28 : decode cX11_adds 28 = .ok (.iconst 1, 1) := by decide +kernel
theorem dX11_adds_29 : decode cX11_adds 29 = .ok (.bastore, 1) := by decide +kernel
theorem dX11_adds_30 : decode cX11_adds 30 = .ok (.aload_n 0, 1) := by decide +kernel
theorem dX11_adds_31 : decode cX11_adds 31 = .ok (.getfield 122, 3) := by decide +kernel
theorem dX11_adds_34 : decode cX11_adds 34 = .ok (.ireturn, 1) := by decide +kernel
theorem dX11_patch_0 : decode cX11_patch 0 = .ok (.aload_n 0, 1) := by decide +kernel
theorem dX11_patch_1 : decode cX11_patch 1 = .ok (.iload_n 1, 1) := by decide +kernel
theorem dX11_patch_2 : decode cX11_patch 2 = .ok (.bipush 64, 2) := by decide +kernel
theorem dX11_patch_4 : decode cX11_patch 4 = .ok (.bipush 79, 2) := by decide +kernel
theorem dX11_patch_6 : decode cX11_patch 6 = .ok (.invokestatic 96, 3) := by decide +kernel
theorem dX11_patch_9 : decode cX11_patch 9 = .ok (.ifCond .eq 17, 3) := by decide +kernel
theorem dX11_patch_12 : decode cX11_patch 12 = .ok (.iload_n 2, 1) := by decide +kernel
theorem dX11_patch_13 : decode cX11_patch 13 = .ok (.iconst 0, 1) := by decide +kernel
theorem dX11_patch_14 : decode cX11_patch 14 = .ok (.bipush 79, 2) := by decide +kernel
theorem dX11_patch_16 : decode cX11_patch 16 = .ok (.invokestatic 96, 3) := by decide +kernel
theorem dX11_patch_19 : decode cX11_patch 19 = .ok (.ifCond .eq 7, 3) := by decide +kernel
theorem dX11_patch_22 : decode cX11_patch 22 = .ok (.iconst 0, 1) := by decide +kernel
theorem dX11_patch_23 : decode cX11_patch 23 = .ok (.goto 4, 3) := by decide +kernel
theorem dX11_patch_26 : decode cX11_patch 26 = .ok (.iconst 1, 1) := by decide +kernel
theorem dX11_patch_27 : decode cX11_patch 27 = .ok (.putfield 93, 3) := by decide +kernel
theorem dX11_patch_30 : decode cX11_patch 30 = .ok (.aload_n 0, 1) := by decide +kernel
theorem dX11_patch_31 : decode cX11_patch 31 = .ok (.getfield 93, 3) := by decide +kernel
theorem dX11_patch_34 : decode cX11_patch 34 = .ok (.ifCond .eq 5, 3) := by decide +kernel
theorem dX11_patch_37 : decode cX11_patch 37 = .ok (.iconst 0, 1) := by decide +kernel
theorem dX11_patch_38 : decode cX11_patch 38 = .ok (.ireturn, 1) := by decide +kernel
theorem dX11_patch_39 : decode cX11_patch 39 = .ok (.iload_n 3, 1) := by decide +kernel
theorem dX11_patch_40 : decode cX11_patch 40 = .ok (.iconst 0, 1) := by decide +kernel
theorem dX11_patch_41 : decode cX11_patch 41 = .ok (.bipush 79, 2) := by decide +kernel
theorem dX11_patch_43 : decode cX11_patch 43 = .ok (.invokestatic 96, 3) := by decide +kernel
theorem dX11_patch_46 : decode cX11_patch 46 = .ok (.ifCond .ne 9, 3) := by decide +kernel
theorem dX11_patch_49 : decode cX11_patch 49 = .ok (.aload_n 0, 1) := by decide +kernel
theorem dX11_patch_50 : decode cX11_patch 50 = .ok (.iconst 2, 1) := by decide +kernel
theorem dX11_patch_51 : decode cX11_patch 51 = .ok (.invokevirtual 111, 3) := by decide +kernel
theorem dX11_patch_54 : decode cX11_patch 54 = .ok (.ireturn, 1) := by decide +kernel
theorem dX11_patch_55 : decode cX11_patch 55 = .ok (.aload_n 0, 1) := by decide +kernel
theorem dX11_patch_56 : decode cX11_patch 56 = .ok (.getfield 38, 3) := by decide +kernel
theorem dX11_patch_59 : decode cX11_patch 59 = .ok (.iload_n 2, 1) := by decide +kernel
theorem dX11_patch_60 : decode cX11_patch 60 = .ok (.baload, 1) := by decide +kernel
theorem dX11_patch_61 : decode cX11_patch 61 = .ok (.ifCond .ne 9, 3) := by decide +kernel
theorem dX11_patch_64 : decode cX11_patch 64 = .ok (.aload_n 0, 1) := by decide +kernel
theorem dX11_patch_65 : decode cX11_patch 65 = .ok (.iconst 3, 1) := by decide +kernel
theorem dX11_patch_66 : decode cX11_patch 66 = .ok (.invokevirtual 111, 3) := by decide +kernel
theorem dX11_patch_69 : decode cX11_patch 69 = .ok (.ireturn, 1) := by decide +kernel
theorem dX11_patch_70 : decode cX11_patch 70 = .ok (.aload_n 0, 1) := by decide +kernel
theorem dX11_patch_71 : decode cX11_patch 71 = .ok (.getfield 7, 3) := by decide +kernel
theorem dX11_patch_74 : decode cX11_patch 74 = .ok (.iload_n 1, 1) := by decide +kernel
theorem dX11_patch_75 : decode cX11_patch 75 = .ok (.aload_n 0, 1) := by decide +kernel
theorem dX11_patch_76 : decode cX11_patch 76 = .ok (.getfield 7, 3) := by decide +kernel
theorem dX11_patch_79 : decode cX11_patch 79 = .ok (.iload_n 2, 1) := by decide +kernel
theorem dX11_patch_80 : decode cX11_patch 80 = .ok (.iaload, 1) := by decide +kernel
theorem dX11_patch_81 : decode cX11_patch 81 = .ok (.iastore, 1) := by decide +kernel
theorem dX11_patch_82 : decode cX11_patch 82 = .ok (.aload_n 0, 1) := by decide +kernel
theorem dX11_patch_83 : decode cX11_patch 83 = .ok (.getfield 13, 3) := by decide +kernel
theorem dX11_patch_86 : decode cX11_patch 86 = .ok (.iload_n 1, 1) := by decide +kernel
theorem dX11_patch_87 : decode cX11_patch 87 = .ok (.aload_n 0, 1) := by decide +kernel
theorem dX11_patch_88 : decode cX11_patch 88 = .ok (.getfield 13, 3) := by decide +kernel
theorem dX11_patch_91 : decode cX11_patch 91 = .ok (.iload_n 2, 1) := by decide +kernel
theorem dX11_patch_92 : decode cX11_patch 92 = .ok (.iaload, 1) := by decide +kernel
theorem dX11_patch_93 : decode cX11_patch 93 = .ok (.iastore, 1) := by decide +kernel
theorem dX11_patch_94 : decode cX11_patch 94 = .ok (.aload_n 0, 1) := by decide +kernel
theorem dX11_patch_95 : decode cX11_patch 95 = .ok (.getfield 16, 3) := by decide +kernel
theorem dX11_patch_98 : decode cX11_patch 98 = .ok (.iload_n 1, 1) := by decide +kernel
theorem dX11_patch_99 : decode cX11_patch 99 = .ok (.aload_n 0, 1) := by decide +kernel
theorem dX11_patch_100 : decode cX11_patch 100 = .ok (.getfield 16, 3) := by decide +kernel
theorem dX11_patch_103 : decode cX11_patch 103 = .ok (.iload_n 2, 1) := by decide +kernel
theorem dX11_patch_104 : decode cX11_patch 104 = .ok (.iaload, 1) := by decide +kernel
theorem dX11_patch_105 : decode cX11_patch 105 = .ok (.iastore, 1) := by decide +kernel
theorem dX11_patch_106 : decode cX11_patch 106 = .ok (.aload_n 0, 1) := by decide +kernel
theorem dX11_patch_107 : decode cX11_patch 107 = .ok (.getfield 19, 3) := by decide +kernel
theorem dX11_patch_110 : decode cX11_patch 110 = .ok (.iload_n 1, 1) := by decide +kernel
theorem dX11_patch_111 : decode cX11_patch 111 = .ok (.aload_n 0, 1) := by decide +kernel
theorem dX11_patch_112 : decode cX11_patch 112 = .ok (.getfield 19, 3) := by decide +kernel
theorem dX11_patch_115 : decode cX11_patch 115 = .ok (.iload_n 2, 1) := by decide +kernel
theorem dX11_patch_116 : decode cX11_patch 116 = .ok (.iaload, 1) := by decide +kernel
theorem dX11_patch_117 : decode cX11_patch 117 = .ok (.iastore, 1) := by decide +kernel
theorem dX11_patch_118 : decode cX11_patch 118 = .ok (.aload_n 0, 1) := by decide +kernel
theorem dX11_patch_119 : decode cX11_patch 119 = .ok (.getfield 34, 3) := by decide +kernel
theorem dX11_patch_122 : decode cX11_patch 122 = .ok (.iload_n 1, 1) := by decide +kernel
theorem dX11_patch_123 : decode cX11_patch 123 = .ok (.aload_n 0, 1) := by decide +kernel
theorem dX11_patch_124 : decode cX11_patch 124 = .ok (.getfield 34, 3) := by decide +kernel
theorem dX11_patch_127 : decode cX11_patch 127 = .ok (.iload_n 2, 1) := by decide +kernel
theorem dX11_patch_128 : decode cX11_patch 128 = .ok (.caload, 1) := by decide +kernel
theorem dX11_patch_129 : decode cX11_patch 129 = .ok (.castore, 1) := by decide +kernel
theorem dX11_patch_130 : decode cX11_patch 130 = .ok (.aload_n 0, 1) := by decide +kernel
theorem dX11_patch_131 : decode cX11_patch 131 = .ok (.getfield 22, 3) := by decide +kernel
theorem dX11_patch_134 : decode cX11_patch 134 = .ok (.iload_n 1, 1) := by decide +kernel
theorem dX11_patch_135 : decode cX11_patch 135 = .ok (.iload_n 3, 1) := by decide +kernel
theorem dX11_patch_136 : decode cX11_patch 136 = .ok (.iastore, 1) := by decide +kernel
theorem dX11_patch_137 : decode cX11_patch 137 = .ok (.aload_n 0, 1) := by decide +kernel
theorem dX11_patch_138 : decode cX11_patch 138 = .ok (.getfield 25, 3) := by decide +kernel
theorem dX11_patch_141 : decode cX11_patch 141 = .ok (.iload_n 1, 1) := by decide +kernel
theorem dX11_patch_142 : decode cX11_patch 142 = .ok (.aload_n 0, 1) := by decide +kernel
theorem dX11_patch_143 : decode cX11_patch 143 = .ok (.getfield 25, 3) := by decide +kernel
theorem dX11_patch_146 : decode cX11_patch 146 = .ok (.iload_n 2, 1) := by decide +kernel
theorem dX11_patch_147 : decode cX11_patch 147 = .ok (.iaload, 1) := by decide +kernel
theorem dX11_patch_148 : decode cX11_patch 148 = .ok (.iastore, 1) := by decide +kernel
theorem dX11_patch_149 : decode cX11_patch 149 = .ok (.aload_n 0, 1) := by decide +kernel
theorem dX11_patch_150 : decode cX11_patch 150 = .ok (.getfield 42, 3) := by decide +kernel
theorem dX11_patch_153 : decode cX11_patch 153 = .ok (.iload_n 1, 1) := by decide +kernel
theorem dX11_patch_154 : decode cX11_patch 154 = .ok (.aload_n 0, 1) := by decide +kernel
theorem dX11_patch_155 : decode cX11_patch 155 = .ok (.getfield 42, 3) := by decide +kernel
theorem dX11_patch_158 : decode cX11_patch 158 = .ok (.iload_n 2, 1) := by decide +kernel
theorem dX11_patch_159 : decode cX11_patch 159 = .ok (.baload, 1) := by decide +kernel
theorem dX11_patch_160 : decode cX11_patch 160 = .ok (.bastore, 1) := by decide +kernel
theorem dX11_patch_161 : decode cX11_patch 161 = .ok (.aload_n 0, 1) := by decide +kernel
theorem dX11_patch_162 : decode cX11_patch 162 = .ok (.getfield 28, 3) := by decide +kernel
theorem dX11_patch_165 : decode cX11_patch 165 = .ok (.iload_n 1, 1) := by decide +kernel
theorem dX11_patch_166 : decode cX11_patch 166 = .ok (.aload_n 0, 1) := by decide +kernel
theorem dX11_patch_167 : decode cX11_patch 167 = .ok (.getfield 28, 3) := by decide +kernel
theorem dX11_patch_170 : decode cX11_patch 170 = .ok (.iload_n 2, 1) := by decide +kernel
theorem dX11_patch_171 : decode cX11_patch 171 = .ok (.iaload, 1) := by decide +kernel
theorem dX11_patch_172 : decode cX11_patch 172 = .ok (.iastore, 1) := by decide +kernel
theorem dX11_patch_173 : decode cX11_patch 173 = .ok (.aload_n 0, 1) := by decide +kernel
theorem dX11_patch_174 : decode cX11_patch 174 = .ok (.iload_n 1, 1) := by decide +kernel
theorem dX11_patch_175 : decode cX11_patch 175 = .ok (.invokevirtual 119, 3) := by decide +kernel
theorem dX11_patch_178 : decode cX11_patch 178 = .ok (.ireturn, 1) := by decide +kernel
theorem dX11_setConstant_0 : decode cX11_setConstant 0 = .ok (.aload_n 0, 1) := by decide +kernel
theorem dX11_setConstant_1 : decode cX11_setConstant 1 = .ok (.iload_n 1, 1) := by decide +kernel
theorem dX11_setConstant_2 : decode cX11_setConstant 2 = .ok (.bipush 80, 2) := by decide +kernel
theorem dX11_setConstant_4 : decode cX11_setConstant 4 = .ok (.invokevirtual 104, 3) := by decide +kernel
theorem dX11_setConstant_7 : decode cX11_setConstant 7 = .ok (.ifCond .eq 5, 3) := by decide +kernel
theorem dX11_setConstant_10 : decode cX11_setConstant 10 = .ok (.iconst 0, 1) := by decide +kernel
theorem dX11_setConstant_11 : decode cX11_setConstant 11 = .ok (.ireturn, 1) := by decide +kernel
theorem dX11_setConstant_12 : decode cX11_setConstant 12 = .ok (.iload_n 2, 1) := by decide +kernel
theorem dX11_setConstant_13 : decode cX11_setConstant 13 = .ok (.iconst 0, 1) := by decide +kernel
theorem dX11_setConstant_14 : decode cX11_setConstant 14 = .ok (.sipush 255, 3) := by decide +kernel
theorem dX11_setConstant_17 : decode cX11_setConstant 17 = .ok (.invokestatic 96, 3) := by decide +kernel
theorem dX11_setConstant_20 : decode cX11_setConstant 20 = .ok (.ifCond .ne 9, 3) := by decide +kernel
theorem dX11_setConstant_23 : decode cX11_setConstant 23 = .ok (.aload_n 0, 1) := by decide +kernel
theorem dX11_setConstant_24 : decode cX11_setConstant 24 = .ok (.iconst 2, 1) := by decide +kernel
theorem dX11_setConstant_25 : decode cX11_setConstant 25 = .ok (.invokevirtual 111, 3) := by decide +kernel
theorem dX11_setConstant_28 : decode cX11_setConstant 28 = .ok (.ireturn, 1) := by decide +kernel
theorem dX11_setConstant_29 : decode cX11_setConstant 29 = .ok (.aload_n 0, 1) := by decide +kernel
theorem dX11_setConstant_30 : decode cX11_setConstant 30 = .ok (.getfield 38, 3) := by decide +kernel
theorem dX11_setConstant_33 : decode cX11_setConstant 33 = .ok (.iload_n 1, 1) := by decide +kernel
theorem dX11_setConstant_34 : decode cX11_setConstant 34 = .ok (.baload, 1) := by decide +kernel
theorem dX11_setConstant_35 : decode cX11_setConstant 35 = .ok (.ifCond .ne 9, 3) := by decide +kernel
theorem dX11_setConstant_38 : decode cX11_setConstant 38 = .ok (.aload_n 0, 1) := by decide +kernel
theorem dX11_setConstant_39 : decode cX11_setConstant 39 = .ok (.iconst 3, 1) := by decide +kernel
theorem dX11_setConstant_40 : decode cX11_setConstant 40 = .ok (.invokevirtual 111, 3) := by decide +kernel
theorem dX11_setConstant_43 : decode cX11_setConstant 43 = .ok (.ireturn, 1) := by decide +kernel
theorem dX11_setConstant_44 : decode cX11_setConstant 44 = .ok (.aload_n 0, 1) := by decide +kernel
theorem dX11_setConstant_45 : decode cX11_setConstant 45 = .ok (.getfield 28, 3) := by decide +kernel
theorem dX11_setConstant_48 : decode cX11_setConstant 48 = .ok (.iload_n 1, 1) := by decide +kernel
theorem dX11_setConstant_49 : decode cX11_setConstant 49 = .ok (.iaload, 1) := by decide +kernel
theorem dX11_setConstant_50 : decode cX11_setConstant 50 = .ok (.istore_n 3, 1) := by decide +kernel
theorem dX11_setConstant_51 : decode cX11_setConstant 51 = .ok (.aload_n 0, 1) := by decide +kernel
theorem dX11_setConstant_52 : decode cX11_setConstant 52 = .ok (.getfield 28, 3) := by decide +kernel
theorem dX11_setConstant_55 : decode cX11_setConstant 55 = .ok (.iload_n 1, 1) := by decide +kernel
theorem dX11_setConstant_56 : decode cX11_setConstant 56 = .ok (.iload_n 2, 1) := by decide +kernel
theorem dX11_setConstant_57 : decode cX11_setConstant 57 = .ok (.iastore, 1) := by decide +kernel
theorem dX11_setConstant_58 : decode cX11_setConstant 58 = .ok (.iload_n 3, 1) := by decide +kernel
theorem dX11_setConstant_59 : decode cX11_setConstant 59 = .ok (.ireturn, 1) := by decide +kernel
theorem dX11_reason_0 : decode cX11_reason 0 = .ok (.aload_n 0, 1) := by decide +kernel
theorem dX11_reason_1 : decode cX11_reason 1 = .ok (.iload_n 1, 1) := by decide +kernel
theorem dX11_reason_2 : decode cX11_reason 2 = .ok (.iconst 0, 1) := by decide +kernel
theorem dX11_reason_3 : decode cX11_reason 3 = .ok (.bipush 127, 2) := by decide +kernel
theorem dX11_reason_5 : decode cX11_reason 5 = .ok (.invokestatic 96, 3) := by decide +kernel
theorem dX11_reason_8 : decode cX11_reason 8 = .ok (.ifCond .eq 46, 3) := by decide +kernel
theorem dX11_reason_11 : decode cX11_reason 11 = .ok (.iload_n 2, 1) := by decide +kernel
theorem dX11_reason_12 : decode cX11_reason 12 = .ok (.iconst 0, 1) := by decide +kernel
theorem dX11_reason_13 : decode cX11_reason 13 = .ok (.sipush 255, 3) := by decide +kernel
theorem dX11_reason_16 : decode cX11_reason 16 = .ok (.invokestatic 96, 3) := by decide +kernel
theorem dX11_reason_19 : decode cX11_reason 19 = .ok (.ifCond .eq 35, 3) := by decide +kernel
theorem dX11_reason_22 : decode cX11_reason 22 = .ok (.iload_n 3, 1) := by decide +kernel
theorem dX11_reason_23 : decode cX11_reason 23 = .ok (.iconst 0, 1) := by decide +kernel
theorem dX11_reason_24 : decode cX11_reason 24 = .ok (.iconst 2, 1) := by decide +kernel
theorem dX11_reason_25 : decode cX11_reason 25 = .ok (.invokestatic 96, 3) := by decide +kernel
theorem dX11_reason_28 : decode cX11_reason 28 = .ok (.ifCond .eq 26, 3) := by decide +kernel
theorem dX11_reason_31 : decode cX11_reason 31 = .ok (.iload 4, 2) := by decide +kernel
theorem dX11_reason_33 : decode cX11_reason 33 = .ok (.invokestatic 108, 3) := by decide +kernel
theorem dX11_reason_36 : decode cX11_reason 36 = .ok (.ifCond .eq 18, 3) := by decide +kernel
theorem dX11_reason_39 : decode cX11_reason 39 = .ok (.iload 5, 2) := by decide +kernel
theorem dX11_reason_41 : decode cX11_reason 41 = .ok (.iconst 0, 1) := by decide +kernel
theorem dX11_reason_42 : decode cX11_reason 42 = .ok (.bipush 7, 2) := by decide +kernel
theorem dX11_reason_44 : decode cX11_reason 44 = .ok (.invokestatic 96, 3) := by decide +kernel
theorem dX11_reason_47 : decode cX11_reason 47 = .ok (.ifCond .eq 7, 3) := by decide +kernel
theorem dX11_reason_50 : decode cX11_reason 50 = .ok (.iconst 0, 1) := by decide +kernel
theorem dX11_reason_51 : decode cX11_reason 51 = .ok (.goto 4, 3) := by decide +kernel
theorem dX11_reason_54 : decode cX11_reason 54 = .ok (.iconst 1, 1) := by decide +kernel
theorem dX11_reason_55 : decode cX11_reason 55 = .ok (.putfield 93, 3) := by decide +kernel
theorem dX11_reason_58 : decode cX11_reason 58 = .ok (.aload_n 0, 1) := by decide +kernel
theorem dX11_reason_59 : decode cX11_reason 59 = .ok (.getfield 93, 3) := by decide +kernel
theorem dX11_reason_62 : decode cX11_reason 62 = .ok (.ifCond .ne 16, 3) := by decide +kernel
theorem dX11_reason_65 : decode cX11_reason 65 = .ok (.iload_n 1, 1) := by decide +kernel
theorem dX11_reason_66 : decode cX11_reason 66 = .ok (.iload_n 2, 1) := by decide +kernel
theorem dX11_reason_67 : decode cX11_reason 67 = .ok (.iload_n 3, 1) := by decide +kernel
theorem dX11_reason_68 : decode cX11_reason 68 = .ok (.iload 4, 2) := by decide +kernel
theorem dX11_reason_70 : decode cX11_reason 70 = .ok (.iload 5, 2) := by decide +kernel
theorem dX11_reason_72 : decode cX11_reason 72 = .ok (.invokestatic 115, 3) := by decide +kernel
theorem dX11_reason_75 : decode cX11_reason 75 = .ok (.goto 5, 3) := by decide +kernel
theorem dX11_reason_78 : decode cX11_reason 78 = .ok (.bipush 45, 2) := by decide +kernel
theorem dX11_reason_80 : decode cX11_reason 80 = .ok (.ireturn, 1) := by decide +kernel
theorem dX11_isFree_0 : decode cX11_isFree 0 = .ok (.aload_n 0, 1) := by decide +kernel
theorem dX11_isFree_1 : decode cX11_isFree 1 = .ok (.getfield 38, 3) := by decide +kernel
theorem dX11_isFree_4 : decode cX11_isFree 4 = .ok (.iload_n 1, 1) := by decide +kernel
theorem dX11_isFree_5 : decode cX11_isFree 5 = .ok (.baload, 1) := by decide +kernel
theorem dX11_isFree_6 : decode cX11_isFree 6 = .ok (.ifCond .ne 16, 3) := by decide +kernel
theorem dX11_isFree_9 : decode cX11_isFree 9 = .ok (.aload_n 0, 1) := by decide +kernel
theorem dX11_isFree_10 : decode cX11_isFree 10 = .ok (.getfield 45, 3) := by decide +kernel
theorem dX11_isFree_13 : decode cX11_isFree 13 = .ok (.iload_n 1, 1) := by decide +kernel
theorem dX11_isFree_14 : decode cX11_isFree 14 = .ok (.baload, 1) := by decide +kernel
theorem dX11_isFree_15 : decode cX11_isFree 15 = .ok (.ifCond .ne 7, 3) := by decide +kernel
theorem dX11_isFree_18 : decode cX11_isFree 18 = .ok (.iconst 1, 1) := by decide +kernel
theorem dX11_isFree_19 : decode cX11_isFree 19 = .ok (.goto 4, 3) := by decide +kernel
theorem dX11_isFree_22 : decode cX11_isFree 22 = .ok (.iconst 0, 1) := by decide +kernel
theorem dX11_isFree_23 : decode cX11_isFree 23 = .ok (.ireturn, 1) := by decide +kernel
theorem dX11_reserve_0 : decode cX11_reserve 0 = .ok (.iload_n 1, 1) := by decide +kernel
theorem dX11_reserve_1 : decode cX11_reserve 1 = .ok (.iconst 1, 1) := by decide +kernel
theorem dX11_reserve_2 : decode cX11_reserve 2 = .ok (.if_icmp .eq 25, 3) := by decide +kernel
theorem dX11_reserve_5 : decode cX11_reserve 5 = .ok (.iload_n 1, 1) := by decide +kernel
theorem dX11_reserve_6 : decode cX11_reserve 6 = .ok (.iconst 2, 1) := by decide +kernel
theorem dX11_reserve_7 : decode cX11_reserve 7 = .ok (.if_icmp .eq 20, 3) := by decide +kernel
theorem dX11_reserve_10 : decode cX11_reserve 10 = .ok (.iload_n 1, 1) := by decide +kernel
theorem dX11_reserve_11 : decode cX11_reserve 11 = .ok (.iconst 4, 1) := by decide +kernel
theorem dX11_reserve_12 : decode cX11_reserve 12 = .ok (.if_icmp .eq 15, 3) := by decide +kernel
theorem dX11_reserve_15 : decode cX11_reserve 15 = .ok (.iload_n 1, 1) := by decide +kernel
theorem dX11_reserve_16 : decode cX11_reserve 16 = .ok (.bipush 8, 2) := by decide +kernel
theorem dX11_reserve_18 : decode cX11_reserve 18 = .ok (.if_icmp .eq 9, 3) := by decide +kernel
theorem dX11_reserve_21 : decode cX11_reserve 21 = .ok (.aload_n 0, 1) := by decide +kernel
theorem dX11_reserve_22 : decode cX11_reserve 22 = .ok (.iconst 1, 1) := by decide +kernel
theorem dX11_reserve_23 : decode cX11_reserve 23 = .ok (.invokevirtual 111, 3) := by decide +kernel
theorem dX11_reserve_26 : decode cX11_reserve 26 = .ok (.ireturn, 1) := by decide +kernel
theorem dX11_reserve_27 : decode cX11_reserve 27 = .ok (.iconst 0, 1) := by decide +kernel
theorem dX11_reserve_28 : decode cX11_reserve 28 = .ok (.istore_n 2, 1) := by decide +kernel
theorem dX11_reserve_29 : decode cX11_reserve 29 = .ok (.iload_n 2, 1) := by decide +kernel
theorem dX11_reserve_30 : decode cX11_reserve 30 = .ok (.bipush 64, 2) := by decide +kernel
theorem dX11_reserve_32 : decode cX11_reserve 32 = .ok (.if_icmp .ge 77, 3) := by decide +kernel
theorem dX11_reserve_35 : decode cX11_reserve 35 = .ok (.iconst 1, 1) := by decide +kernel
theorem dX11_reserve_36 : decode cX11_reserve 36 = .ok (.istore_n 3, 1) := by decide +kernel
theorem dX11_reserve_37 : decode cX11_reserve 37 = .ok (.iconst 0, 1) := by decide +kernel
theorem dX11_reserve_38 : decode cX11_reserve 38 = .ok (.istore 4, 2) := by decide +kernel
theorem dX11_reserve_40 : decode cX11_reserve 40 = .ok (.iload 4, 2) := by decide +kernel
theorem dX11_reserve_42 : decode cX11_reserve 42 = .ok (.iload_n 1, 1) := by decide +kernel
theorem dX11_reserve_43 : decode cX11_reserve 43 = .ok (.if_icmp .ge 20, 3) := by decide +kernel
theorem dX11_reserve_46 : decode cX11_reserve 46 = .ok (.iload_n 3, 1) := by decide +kernel
theorem dX11_reserve_47 : decode cX11_reserve 47 = .ok (.aload_n 0, 1) := by decide +kernel
theorem dX11_reserve_48 : decode cX11_reserve 48 = .ok (.iload_n 2, 1) := by decide +kernel
theorem dX11_reserve_49 : decode cX11_reserve 49 = .ok (.iload 4, 2) := by decide +kernel
theorem dX11_reserve_51 : decode cX11_reserve 51 = .ok (.iadd, 1) := by decide +kernel
theorem dX11_reserve_52 : decode cX11_reserve 52 = .ok (.invokevirtual 125, 3) := by decide +kernel
theorem dX11_reserve_55 : decode cX11_reserve 55 = .ok (.iand, 1) := by decide +kernel
theorem dX11_reserve_56 : decode cX11_reserve 56 = .ok (.istore_n 3, 1) := by decide +kernel
theorem dX11_reserve_57 : decode cX11_reserve 57 = .ok (.iinc 4 1, 3) := by decide +kernel
theorem dX11_reserve_60 : decode cX11_reserve 60 = .ok (.goto (-20), 3) := by decide +kernel
theorem dX11_reserve_63 : decode cX11_reserve 63 = .ok (.iload_n 3, 1) := by decide +kernel
theorem dX11_reserve_64 : decode cX11_reserve 64 = .ok (.ifCond .ne 6, 3) := by decide +kernel
theorem dX11_reserve_67 : decode cX11_reserve 67 = .ok (.goto 35, 3) := by decide +kernel
theorem dX11_reserve_70 : decode cX11_reserve 70 = .ok (.iconst 0, 1) := by decide +kernel
theorem dX11_reserve_71 : decode cX11_reserve 71 = .ok (.istore 4, 2) := by decide +kernel
theorem dX11_reserve_73 : decode cX11_reserve 73 = .ok (.iload 4, 2) := by decide +kernel
theorem dX11_reserve_75 : decode cX11_reserve 75 = .ok (.iload_n 1, 1) := by decide +kernel
theorem dX11_reserve_76 : decode cX11_reserve 76 = .ok (.if_icmp .ge 19, 3) := by decide +kernel
theorem dX11_reserve_79 : decode cX11_reserve 79 = .ok (.aload_n 0, 1) := by decide +kernel
theorem dX11_reserve_80 : decode cX11_reserve 80 = .ok (.getfield 45, 3) := by decide +kernel
theorem dX11_reserve_83 : decode cX11_reserve 83 = .ok (.iload_n 2, 1) := by decide +kernel
theorem dX11_reserve_84 : decode cX11_reserve 84 = .ok (.iload 4, 2) := by decide +kernel
theorem dX11_reserve_86 : decode cX11_reserve 86 = .ok (.iadd, 1) := by decide +kernel
theorem dX11_reserve_87 : decode cX11_reserve 87 = .ok (.iconst 1, 1) := by decide +kernel
theorem dX11_reserve_88 : decode cX11_reserve 88 = .ok (.bastore, 1) := by decide +kernel
theorem dX11_reserve_89 : decode cX11_reserve 89 = .ok (.iinc 4 1, 3) := by decide +kernel
theorem dX11_reserve_92 : decode cX11_reserve 92 = .ok (.goto (-19), 3) := by decide +kernel
theorem dX11_reserve_95 : decode cX11_reserve 95 = .ok (.aload_n 0, 1) := by decide +kernel
theorem dX11_reserve_96 : decode cX11_reserve 96 = .ok (.iconst 0, 1) := by decide +kernel
theorem dX11_reserve_97 : decode cX11_reserve 97 = .ok (.putfield 93, 3) := by decide +kernel
theorem dX11_reserve_100 : decode cX11_reserve 100 = .ok (.iload_n 2, 1) := by decide +kernel
theorem dX11_reserve_101 : decode cX11_reserve 101 = .ok (.ireturn, 1) := by decide +kernel
theorem dX11_reserve_102 : decode cX11_reserve 102 = .ok (.iload_n 2, 1) := by decide +kernel
theorem dX11_reserve_103 : decode cX11_reserve 103 = .ok (.iload_n 1, 1) := by decide +kernel
theorem dX11_reserve_104 : decode cX11_reserve 104 = .ok (.iadd, 1) := by decide +kernel
theorem dX11_reserve_105 : decode cX11_reserve 105 = .ok (.istore_n 2, 1) := by decide +kernel
theorem dX11_reserve_106 : decode cX11_reserve 106 = .ok (.goto (-77), 3) := by decide +kernel
theorem dX11_reserve_109 : decode cX11_reserve 109 = .ok (.aload_n 0, 1) := by decide +kernel
theorem dX11_reserve_110 : decode cX11_reserve 110 = .ok (.iconst 2, 1) := by decide +kernel
theorem dX11_reserve_111 : decode cX11_reserve 111 = .ok (.invokevirtual 111, 3) := by decide +kernel
theorem dX11_reserve_114 : decode cX11_reserve 114 = .ok (.ireturn, 1) := by decide +kernel
theorem dX11_free_0 : decode cX11_free 0 = .ok (.iconst 0, 1) := by decide +kernel
theorem dX11_free_1 : decode cX11_free 1 = .ok (.istore_n 1, 1) := by decide +kernel
theorem dX11_free_2 : decode cX11_free 2 = .ok (.iconst 0, 1) := by decide +kernel
theorem dX11_free_3 : decode cX11_free 3 = .ok (.istore_n 2, 1) := by decide +kernel
theorem dX11_free_4 : decode cX11_free 4 = .ok (.iload_n 2, 1) := by decide +kernel
theorem dX11_free_5 : decode cX11_free 5 = .ok (.bipush 64, 2) := by decide +kernel
theorem dX11_free_7 : decode cX11_free 7 = .ok (.if_icmp .ge 25, 3) := by decide +kernel
theorem dX11_free_10 : decode cX11_free 10 = .ok (.iload_n 1, 1) := by decide +kernel
theorem dX11_free_11 : decode cX11_free 11 = .ok (.aload_n 0, 1) := by decide +kernel
theorem dX11_free_12 : decode cX11_free 12 = .ok (.iload_n 2, 1) := by decide +kernel
theorem dX11_free_13 : decode cX11_free 13 = .ok (.invokevirtual 125, 3) := by decide +kernel
theorem dX11_free_16 : decode cX11_free 16 = .ok (.ifCond .eq 7, 3) := by decide +kernel
theorem dX11_free_19 : decode cX11_free 19 = .ok (.iconst 1, 1) := by decide +kernel
theorem dX11_free_20 : decode cX11_free 20 = .ok (.goto 4, 3) := by decide +kernel
theorem dX11_free_23 : decode cX11_free 23 = .ok (.iconst 0, 1) := by decide +kernel
theorem dX11_free_24 : decode cX11_free 24 = .ok (.iadd, 1) := by decide +kernel
theorem dX11_free_25 : decode cX11_free 25 = .ok (.istore_n 1, 1) := by decide +kernel
theorem dX11_free_26 : decode cX11_free 26 = .ok (.iinc 2 1, 3) := by decide +kernel
theorem dX11_free_29 : decode cX11_free 29 = .ok (.goto (-25), 3) := by decide +kernel
theorem dX11_free_32 : decode cX11_free 32 = .ok (.iload_n 1, 1) := by decide +kernel
theorem dX11_free_33 : decode cX11_free 33 = .ok (.ireturn, 1) := by decide +kernel
theorem dX11_setEntry_0 : decode cX11_setEntry 0 = .ok (.aload_n 0, 1) := by decide +kernel
theorem dX11_setEntry_1 : decode cX11_setEntry 1 = .ok (.iload_n 1, 1) := by decide +kernel
theorem dX11_setEntry_2 : decode cX11_setEntry 2 = .ok (.iconst 0, 1) := by decide +kernel
theorem dX11_setEntry_3 : decode cX11_setEntry 3 = .ok (.iconst 1, 1) := by decide +kernel
theorem dX11_setEntry_4 : decode cX11_setEntry 4 = .ok (.invokestatic 96, 3) := by decide +kernel
theorem dX11_setEntry_7 : decode cX11_setEntry 7 = .ok (.ifCond .eq 17, 3) := by decide +kernel
theorem dX11_setEntry_10 : decode cX11_setEntry 10 = .ok (.iload_n 2, 1) := by decide +kernel
theorem dX11_setEntry_11 : decode cX11_setEntry 11 = .ok (.iconst 0, 1) := by decide +kernel
theorem dX11_setEntry_12 : decode cX11_setEntry 12 = .ok (.bipush 15, 2) := by decide +kernel
theorem dX11_setEntry_14 : decode cX11_setEntry 14 = .ok (.invokestatic 96, 3) := by decide +kernel
theorem dX11_setEntry_17 : decode cX11_setEntry 17 = .ok (.ifCond .eq 7, 3) := by decide +kernel
theorem dX11_setEntry_20 : decode cX11_setEntry 20 = .ok (.iconst 0, 1) := by decide +kernel
theorem dX11_setEntry_21 : decode cX11_setEntry 21 = .ok (.goto 4, 3) := by decide +kernel
theorem dX11_setEntry_24 : decode cX11_setEntry 24 = .ok (.iconst 1, 1) := by decide +kernel
theorem dX11_setEntry_25 : decode cX11_setEntry 25 = .ok (.putfield 93, 3) := by decide +kernel
theorem dX11_setEntry_28 : decode cX11_setEntry 28 = .ok (.aload_n 0, 1) := by decide +kernel
theorem dX11_setEntry_29 : decode cX11_setEntry 29 = .ok (.getfield 93, 3) := by decide +kernel
theorem dX11_setEntry_32 : decode cX11_setEntry 32 = .ok (.ifCond .eq 5, 3) := by decide +kernel
theorem dX11_setEntry_35 : decode cX11_setEntry 35 = .ok (.iconst 0, 1) := by decide +kernel
theorem dX11_setEntry_36 : decode cX11_setEntry 36 = .ok (.ireturn, 1) := by decide +kernel
theorem dX11_setEntry_37 : decode cX11_setEntry 37 = .ok (.iload_n 3, 1) := by decide +kernel
theorem dX11_setEntry_38 : decode cX11_setEntry 38 = .ok (.iconst (-1), 1) := by decide +kernel
theorem dX11_setEntry_39 : decode cX11_setEntry 39 = .ok (.bipush 79, 2) := by decide +kernel
theorem dX11_setEntry_41 : decode cX11_setEntry 41 = .ok (.invokestatic 96, 3) := by decide +kernel
theorem dX11_setEntry_44 : decode cX11_setEntry 44 = .ok (.ifCond .ne 9, 3) := by decide +kernel
theorem dX11_setEntry_47 : decode cX11_setEntry 47 = .ok (.aload_n 0, 1) := by decide +kernel
theorem dX11_setEntry_48 : decode cX11_setEntry 48 = .ok (.iconst 2, 1) := by decide +kernel
theorem dX11_setEntry_49 : decode cX11_setEntry 49 = .ok (.invokevirtual 111, 3) := by decide +kernel
theorem dX11_setEntry_52 : decode cX11_setEntry 52 = .ok (.ireturn, 1) := by decide +kernel
theorem dX11_setEntry_53 : decode cX11_setEntry 53 = .ok (.aload_n 0, 1) := by decide +kernel
theorem dX11_setEntry_54 : decode cX11_setEntry 54 = .ok (.getfield 51, 3) := by decide +kernel
theorem dX11_setEntry_57 : decode cX11_setEntry 57 = .ok (.bipush 16, 2) := by decide +kernel
theorem dX11_setEntry_59 : decode cX11_setEntry 59 = .ok (.iload_n 1, 1) := by decide +kernel
theorem dX11_setEntry_60 : decode cX11_setEntry 60 = .ok (.imul, 1) := by decide +kernel
theorem dX11_setEntry_61 : decode cX11_setEntry 61 = .ok (.iload_n 2, 1) := by decide +kernel
theorem dX11_setEntry_62 : decode cX11_setEntry 62 = .ok (.iadd, 1) := by decide +kernel
theorem dX11_setEntry_63 : decode cX11_setEntry 63 = .ok (.iaload, 1) := by decide +kernel
theorem dX11_setEntry_64 : decode cX11_setEntry 64 = .ok (.istore 4, 2) := by decide +kernel
theorem dX11_setEntry_66 : decode cX11_setEntry 66 = .ok (.aload_n 0, 1) := by decide +kernel
theorem dX11_setEntry_67 : decode cX11_setEntry 67 = .ok (.getfield 51, 3) := by decide +kernel
theorem dX11_setEntry_70 : decode cX11_setEntry 70 = .ok (.bipush 16, 2) := by decide +kernel
theorem dX11_setEntry_72 : decode cX11_setEntry 72 = .ok (.iload_n 1, 1) := by decide +kernel
theorem dX11_setEntry_73 : decode cX11_setEntry 73 = .ok (.imul, 1) := by decide +kernel
theorem dX11_setEntry_74 : decode cX11_setEntry 74 = .ok (.iload_n 2, 1) := by decide +kernel
theorem dX11_setEntry_75 : decode cX11_setEntry 75 = .ok (.iadd, 1) := by decide +kernel
theorem dX11_setEntry_76 : decode cX11_setEntry 76 = .ok (.iload_n 3, 1) := by decide +kernel
theorem dX11_setEntry_77 : decode cX11_setEntry 77 = .ok (.iastore, 1) := by decide +kernel
theorem dX11_setEntry_78 : decode cX11_setEntry 78 = .ok (.iload 4, 2) := by decide +kernel
theorem dX11_setEntry_80 : decode cX11_setEntry 80 = .ok (.ireturn, 1) := by decide +kernel
theorem dX11_setCatch_0 : decode cX11_setCatch 0 = .ok (.aload_n 0, 1) := by decide +kernel
theorem dX11_setCatch_1 : decode cX11_setCatch 1 = .ok (.iload_n 1, 1) := by decide +kernel
theorem dX11_setCatch_2 : decode cX11_setCatch 2 = .ok (.bipush 80, 2) := by decide +kernel
theorem dX11_setCatch_4 : decode cX11_setCatch 4 = .ok (.invokevirtual 104, 3) := by decide +kernel
theorem dX11_setCatch_7 : decode cX11_setCatch 7 = .ok (.ifCond .eq 5, 3) := by decide +kernel
theorem dX11_setCatch_10 : decode cX11_setCatch 10 = .ok (.iconst 0, 1) := by decide +kernel
theorem dX11_setCatch_11 : decode cX11_setCatch 11 = .ok (.ireturn, 1) := by decide +kernel
theorem dX11_setCatch_12 : decode cX11_setCatch 12 = .ok (.iload_n 2, 1) := by decide +kernel
theorem dX11_setCatch_13 : decode cX11_setCatch 13 = .ok (.iconst (-1), 1) := by decide +kernel
theorem dX11_setCatch_14 : decode cX11_setCatch 14 = .ok (.if_icmp .eq 20, 3) := by decide +kernel
theorem dX11_setCatch_17 : decode cX11_setCatch 17 = .ok (.iload_n 2, 1) := by decide +kernel
theorem dX11_setCatch_18 : decode cX11_setCatch 18 = .ok (.bipush 64, 2) := by decide +kernel
theorem dX11_setCatch_20 : decode cX11_setCatch 20 = .ok (.bipush 79, 2) := by decide +kernel
theorem dX11_setCatch_22 : decode cX11_setCatch 22 = .ok (.invokestatic 96, 3) := by decide +kernel
theorem dX11_setCatch_25 : decode cX11_setCatch 25 = .ok (.ifCond .ne 9, 3) := by decide +kernel
theorem dX11_setCatch_28 : decode cX11_setCatch 28 = .ok (.aload_n 0, 1) := by decide +kernel
theorem dX11_setCatch_29 : decode cX11_setCatch 29 = .ok (.iconst 2, 1) := by decide +kernel
theorem dX11_setCatch_30 : decode cX11_setCatch 30 = .ok (.invokevirtual 111, 3) := by decide +kernel
theorem dX11_setCatch_33 : decode cX11_setCatch 33 = .ok (.ireturn, 1) := by decide +kernel
theorem dX11_setCatch_34 : decode cX11_setCatch 34 = .ok (.iload_n 2, 1) := by decide +kernel
theorem dX11_setCatch_35 : decode cX11_setCatch 35 = .ok (.iconst (-1), 1) := by decide +kernel
theorem dX11_setCatch_36 : decode cX11_setCatch 36 = .ok (.if_icmp .ne 19, 3) := by decide +kernel
theorem dX11_setCatch_39 : decode cX11_setCatch 39 = .ok (.aload_n 0, 1) := by decide +kernel
theorem dX11_setCatch_40 : decode cX11_setCatch 40 = .ok (.getfield 31, 3) := by decide +kernel
theorem dX11_setCatch_43 : decode cX11_setCatch 43 = .ok (.iload_n 1, 1) := by decide +kernel
theorem dX11_setCatch_44 : decode cX11_setCatch 44 = .ok (.iaload, 1) := by decide +kernel
theorem dX11_setCatch_45 : decode cX11_setCatch 45 = .ok (.iconst (-1), 1) := by decide +kernel
theorem dX11_setCatch_46 : decode cX11_setCatch 46 = .ok (.if_icmp .ne 9, 3) := by decide +kernel
theorem dX11_setCatch_49 : decode cX11_setCatch 49 = .ok (.aload_n 0, 1) := by decide +kernel
theorem dX11_setCatch_50 : decode cX11_setCatch 50 = .ok (.iconst 3, 1) := by decide +kernel
theorem dX11_setCatch_51 : decode cX11_setCatch 51 = .ok (.invokevirtual 111, 3) := by decide +kernel
theorem dX11_setCatch_54 : decode cX11_setCatch 54 = .ok (.ireturn, 1) := by decide +kernel
theorem dX11_setCatch_55 : decode cX11_setCatch 55 = .ok (.iload_n 2, 1) := by decide +kernel
theorem dX11_setCatch_56 : decode cX11_setCatch 56 = .ok (.iconst (-1), 1) := by decide +kernel
theorem dX11_setCatch_57 : decode cX11_setCatch 57 = .ok (.if_icmp .eq 27, 3) := by decide +kernel
theorem dX11_setCatch_60 : decode cX11_setCatch 60 = .ok (.aload_n 0, 1) := by decide +kernel
theorem dX11_setCatch_61 : decode cX11_setCatch 61 = .ok (.getfield 31, 3) := by decide +kernel
theorem dX11_setCatch_64 : decode cX11_setCatch 64 = .ok (.iload_n 1, 1) := by decide +kernel
theorem dX11_setCatch_65 : decode cX11_setCatch 65 = .ok (.iaload, 1) := by decide +kernel
theorem dX11_setCatch_66 : decode cX11_setCatch 66 = .ok (.iconst (-1), 1) := by decide +kernel
theorem dX11_setCatch_67 : decode cX11_setCatch 67 = .ok (.if_icmp .ne 17, 3) := by decide +kernel
theorem dX11_setCatch_70 : decode cX11_setCatch 70 = .ok (.aload_n 0, 1) := by decide +kernel
theorem dX11_setCatch_71 : decode cX11_setCatch 71 = .ok (.getfield 129, 3) := by decide +kernel
theorem dX11_setCatch_74 : decode cX11_setCatch 74 = .ok (.iconst 4, 1) := by decide +kernel
theorem dX11_setCatch_75 : decode cX11_setCatch 75 = .ok (.if_icmp .ne 9, 3) := by decide +kernel
theorem dX11_setCatch_78 : decode cX11_setCatch 78 = .ok (.aload_n 0, 1) := by decide +kernel
theorem dX11_setCatch_79 : decode cX11_setCatch 79 = .ok (.iconst 4, 1) := by decide +kernel
theorem dX11_setCatch_80 : decode cX11_setCatch 80 = .ok (.invokevirtual 111, 3) := by decide +kernel
theorem dX11_setCatch_83 : decode cX11_setCatch 83 = .ok (.ireturn, 1) := by decide +kernel
theorem dX11_setCatch_84 : decode cX11_setCatch 84 = .ok (.aload_n 0, 1) := by decide +kernel
theorem dX11_setCatch_85 : decode cX11_setCatch 85 = .ok (.dup, 1) := by decide +kernel
theorem dX11_setCatch_86 : decode cX11_setCatch 86 = .ok (.getfield 129, 3) := by decide +kernel
theorem dX11_setCatch_89 : decode cX11_setCatch 89 = .ok (.iload_n 2, 1) := by decide +kernel
theorem dX11_setCatch_90 : decode cX11_setCatch 90 = .ok (.iconst (-1), 1) := by decide +kernel
theorem dX11_setCatch_91 : decode cX11_setCatch 91 = .ok (.if_icmp .ne 7, 3) := by decide +kernel
theorem dX11_setCatch_94 : decode cX11_setCatch 94 = .ok (.iconst 0, 1) := by decide +kernel
theorem dX11_setCatch_95 : decode cX11_setCatch 95 = .ok (.goto 4, 3) := by decide +kernel
theorem dX11_setCatch_98 : decode cX11_setCatch 98 = .ok (.iconst 1, 1) := by decide +kernel
theorem dX11_setCatch_99 : decode cX11_setCatch 99 = .ok (.aload_n 0, 1) := by decide +kernel
theorem dX11_setCatch_100 : decode cX11_setCatch 100 = .ok (.getfield 31, 3) := by decide +kernel
theorem dX11_setCatch_103 : decode cX11_setCatch 103 = .ok (.iload_n 1, 1) := by decide +kernel
theorem dX11_setCatch_104 : decode cX11_setCatch 104 = .ok (.iaload, 1) := by decide +kernel
theorem dX11_setCatch_105 : decode cX11_setCatch 105 = .ok (.iconst (-1), 1) := by decide +kernel
theorem dX11_setCatch_106 : decode cX11_setCatch 106 = .ok (.if_icmp .ne 7, 3) := by decide +kernel
theorem dX11_setCatch_109 : decode cX11_setCatch 109 = .ok (.iconst 0, 1) := by decide +kernel
theorem dX11_setCatch_110 : decode cX11_setCatch 110 = .ok (.goto 4, 3) := by decide +kernel
theorem dX11_setCatch_113 : decode cX11_setCatch 113 = .ok (.iconst 1, 1) := by decide +kernel
theorem dX11_setCatch_114 : decode cX11_setCatch 114 = .ok (.isub, 1) := by decide +kernel
theorem dX11_setCatch_115 : decode cX11_setCatch 115 = .ok (.iadd, 1) := by decide +kernel
theorem dX11_setCatch_116 : decode cX11_setCatch 116 = .ok (.putfield 129, 3) := by decide +kernel
theorem dX11_setCatch_119 : decode cX11_setCatch 119 = .ok (.aload_n 0, 1) := by decide +kernel
theorem dX11_setCatch_120 : decode cX11_setCatch 120 = .ok (.getfield 31, 3) := by decide +kernel
theorem dX11_setCatch_123 : decode cX11_setCatch 123 = .ok (.iload_n 1, 1) := by decide +kernel
theorem dX11_setCatch_124 : decode cX11_setCatch 124 = .ok (.iload_n 2, 1) := by decide +kernel
theorem dX11_setCatch_125 : decode cX11_setCatch 125 = .ok (.iastore, 1) := by decide +kernel
theorem dX11_setCatch_126 : decode cX11_setCatch 126 = .ok (.aload_n 0, 1) := by decide +kernel
theorem dX11_setCatch_127 : decode cX11_setCatch 127 = .ok (.getfield 129, 3) := by decide +kernel
theorem dX11_setCatch_130 : decode cX11_setCatch 130 = .ok (.ireturn, 1) := by decide +kernel
theorem dX11_setCell_0 : decode cX11_setCell 0 = .ok (.aload_n 0, 1) := by decide +kernel
theorem dX11_setCell_1 : decode cX11_setCell 1 = .ok (.iload_n 1, 1) := by decide +kernel
theorem dX11_setCell_2 : decode cX11_setCell 2 = .ok (.bipush 64, 2) := by decide +kernel
theorem dX11_setCell_4 : decode cX11_setCell 4 = .ok (.invokevirtual 104, 3) := by decide +kernel
theorem dX11_setCell_7 : decode cX11_setCell 7 = .ok (.ifCond .eq 5, 3) := by decide +kernel
theorem dX11_setCell_10 : decode cX11_setCell 10 = .ok (.iconst 0, 1) := by decide +kernel
theorem dX11_setCell_11 : decode cX11_setCell 11 = .ok (.ireturn, 1) := by decide +kernel
theorem dX11_setCell_12 : decode cX11_setCell 12 = .ok (.iload_n 2, 1) := by decide +kernel
theorem dX11_setCell_13 : decode cX11_setCell 13 = .ok (.iconst 0, 1) := by decide +kernel
theorem dX11_setCell_14 : decode cX11_setCell 14 = .ok (.sipush 255, 3) := by decide +kernel
theorem dX11_setCell_17 : decode cX11_setCell 17 = .ok (.invokestatic 96, 3) := by decide +kernel
theorem dX11_setCell_20 : decode cX11_setCell 20 = .ok (.ifCond .ne 9, 3) := by decide +kernel
theorem dX11_setCell_23 : decode cX11_setCell 23 = .ok (.aload_n 0, 1) := by decide +kernel
theorem dX11_setCell_24 : decode cX11_setCell 24 = .ok (.iconst 2, 1) := by decide +kernel
theorem dX11_setCell_25 : decode cX11_setCell 25 = .ok (.invokevirtual 111, 3) := by decide +kernel
theorem dX11_setCell_28 : decode cX11_setCell 28 = .ok (.ireturn, 1) := by decide +kernel
theorem dX11_setCell_29 : decode cX11_setCell 29 = .ok (.aload_n 0, 1) := by decide +kernel
theorem dX11_setCell_30 : decode cX11_setCell 30 = .ok (.getfield 132, 3) := by decide +kernel
theorem dX11_setCell_33 : decode cX11_setCell 33 = .ok (.ifCond .eq 9, 3) := by decide +kernel
theorem dX11_setCell_36 : decode cX11_setCell 36 = .ok (.aload_n 0, 1) := by decide +kernel
theorem dX11_setCell_37 : decode cX11_setCell 37 = .ok (.iconst 3, 1) := by decide +kernel
theorem dX11_setCell_38 : decode cX11_setCell 38 = .ok (.invokevirtual 111, 3) := by decide +kernel
theorem dX11_setCell_41 : decode cX11_setCell 41 = .ok (.ireturn, 1) := by decide +kernel
theorem dX11_setCell_42 : decode cX11_setCell 42 = .ok (.aload_n 0, 1) := by decide +kernel
theorem dX11_setCell_43 : decode cX11_setCell 43 = .ok (.getfield 60, 3) := by decide +kernel
theorem dX11_setCell_46 : decode cX11_setCell 46 = .ok (.iload_n 1, 1) := by decide +kernel
theorem dX11_setCell_47 : decode cX11_setCell 47 = .ok (.iaload, 1) := by decide +kernel
theorem dX11_setCell_48 : decode cX11_setCell 48 = .ok (.istore_n 3, 1) := by decide +kernel
theorem dX11_setCell_49 : decode cX11_setCell 49 = .ok (.aload_n 0, 1) := by decide +kernel
theorem dX11_setCell_50 : decode cX11_setCell 50 = .ok (.getfield 60, 3) := by decide +kernel
theorem dX11_setCell_53 : decode cX11_setCell 53 = .ok (.iload_n 1, 1) := by decide +kernel
theorem dX11_setCell_54 : decode cX11_setCell 54 = .ok (.iload_n 2, 1) := by decide +kernel
theorem dX11_setCell_55 : decode cX11_setCell 55 = .ok (.iastore, 1) := by decide +kernel
theorem dX11_setCell_56 : decode cX11_setCell 56 = .ok (.aload_n 0, 1) := by decide +kernel
theorem dX11_setCell_57 : decode cX11_setCell 57 = .ok (.getfield 63, 3) := by decide +kernel
theorem dX11_setCell_60 : decode cX11_setCell 60 = .ok (.iload_n 1, 1) := by decide +kernel
theorem dX11_setCell_61 : decode cX11_setCell 61 = .ok (.iload_n 2, 1) := by decide +kernel
theorem dX11_setCell_62 : decode cX11_setCell 62 = .ok (.iastore, 1) := by decide +kernel
theorem dX11_setCell_63 : decode cX11_setCell 63 = .ok (.iload_n 3, 1) := by decide +kernel
theorem dX11_setCell_64 : decode cX11_setCell 64 = .ok (.ireturn, 1) := by decide +kernel
theorem dX11_setRegister_0 : decode cX11_setRegister 0 = .ok (.aload_n 0, 1) := by decide +kernel
theorem dX11_setRegister_1 : decode cX11_setRegister 1 = .ok (.iload_n 1, 1) := by decide +kernel
theorem dX11_setRegister_2 : decode cX11_setRegister 2 = .ok (.iconst 4, 1) := by decide +kernel
theorem dX11_setRegister_3 : decode cX11_setRegister 3 = .ok (.invokevirtual 104, 3) := by decide +kernel
theorem dX11_setRegister_6 : decode cX11_setRegister 6 = .ok (.ifCond .eq 5, 3) := by decide +kernel
theorem dX11_setRegister_9 : decode cX11_setRegister 9 = .ok (.iconst 0, 1) := by decide +kernel
theorem dX11_setRegister_10 : decode cX11_setRegister 10 = .ok (.ireturn, 1) := by decide +kernel
theorem dX11_setRegister_11 : decode cX11_setRegister 11 = .ok (.iload_n 2, 1) := by decide +kernel
theorem dX11_setRegister_12 : decode cX11_setRegister 12 = .ok (.iconst 0, 1) := by decide +kernel
theorem dX11_setRegister_13 : decode cX11_setRegister 13 = .ok (.sipush 255, 3) := by decide +kernel
theorem dX11_setRegister_16 : decode cX11_setRegister 16 = .ok (.invokestatic 96, 3) := by decide +kernel
theorem dX11_setRegister_19 : decode cX11_setRegister 19 = .ok (.ifCond .ne 9, 3) := by decide +kernel
theorem dX11_setRegister_22 : decode cX11_setRegister 22 = .ok (.aload_n 0, 1) := by decide +kernel
theorem dX11_setRegister_23 : decode cX11_setRegister 23 = .ok (.iconst 2, 1) := by decide +kernel
theorem dX11_setRegister_24 : decode cX11_setRegister 24 = .ok (.invokevirtual 111, 3) := by decide +kernel
theorem dX11_setRegister_27 : decode cX11_setRegister 27 = .ok (.ireturn, 1) := by decide +kernel
theorem dX11_setRegister_28 : decode cX11_setRegister 28 = .ok (.aload_n 0, 1) := by decide +kernel
theorem dX11_setRegister_29 : decode cX11_setRegister 29 = .ok (.getfield 132, 3) := by decide +kernel
theorem dX11_setRegister_32 : decode cX11_setRegister 32 = .ok (.ifCond .eq 9, 3) := by decide +kernel
theorem dX11_setRegister_35 : decode cX11_setRegister 35 = .ok (.aload_n 0, 1) := by decide +kernel
theorem dX11_setRegister_36 : decode cX11_setRegister 36 = .ok (.iconst 3, 1) := by decide +kernel
theorem dX11_setRegister_37 : decode cX11_setRegister 37 = .ok (.invokevirtual 111, 3) := by decide +kernel
theorem dX11_setRegister_40 : decode cX11_setRegister 40 = .ok (.ireturn, 1) := by decide +kernel
theorem dX11_setRegister_41 : decode cX11_setRegister 41 = .ok (.aload_n 0, 1) := by decide +kernel
theorem dX11_setRegister_42 : decode cX11_setRegister 42 = .ok (.getfield 54, 3) := by decide +kernel
theorem dX11_setRegister_45 : decode cX11_setRegister 45 = .ok (.iload_n 1, 1) := by decide +kernel
theorem dX11_setRegister_46 : decode cX11_setRegister 46 = .ok (.iaload, 1) := by decide +kernel
theorem dX11_setRegister_47 : decode cX11_setRegister 47 = .ok (.istore_n 3, 1) := by decide +kernel
theorem dX11_setRegister_48 : decode cX11_setRegister 48 = .ok (.aload_n 0, 1) := by decide +kernel
theorem dX11_setRegister_49 : decode cX11_setRegister 49 = .ok (.getfield 54, 3) := by decide +kernel
theorem dX11_setRegister_52 : decode cX11_setRegister 52 = .ok (.iload_n 1, 1) := by decide +kernel
theorem dX11_setRegister_53 : decode cX11_setRegister 53 = .ok (.iload_n 2, 1) := by decide +kernel
theorem dX11_setRegister_54 : decode cX11_setRegister 54 = .ok (.iastore, 1) := by decide +kernel
theorem dX11_setRegister_55 : decode cX11_setRegister 55 = .ok (.aload_n 0, 1) := by decide +kernel
theorem dX11_setRegister_56 : decode cX11_setRegister 56 = .ok (.getfield 57, 3) := by decide +kernel
theorem dX11_setRegister_59 : decode cX11_setRegister 59 = .ok (.iload_n 1, 1) := by decide +kernel
theorem dX11_setRegister_60 : decode cX11_setRegister 60 = .ok (.iload_n 2, 1) := by decide +kernel
theorem dX11_setRegister_61 : decode cX11_setRegister 61 = .ok (.iastore, 1) := by decide +kernel
theorem dX11_setRegister_62 : decode cX11_setRegister 62 = .ok (.iload_n 3, 1) := by decide +kernel
theorem dX11_setRegister_63 : decode cX11_setRegister 63 = .ok (.ireturn, 1) := by decide +kernel
theorem dX11_start_0 : decode cX11_start 0 = .ok (.iload_n 1, 1) := by decide +kernel
theorem dX11_start_1 : decode cX11_start 1 = .ok (.iconst 0, 1) := by decide +kernel
theorem dX11_start_2 : decode cX11_start 2 = .ok (.bipush 63, 2) := by decide +kernel
theorem dX11_start_4 : decode cX11_start 4 = .ok (.invokestatic 96, 3) := by decide +kernel
theorem dX11_start_7 : decode cX11_start 7 = .ok (.ifCond .eq 12, 3) := by decide +kernel
theorem dX11_start_10 : decode cX11_start 10 = .ok (.iload_n 2, 1) := by decide +kernel
theorem dX11_start_11 : decode cX11_start 11 = .ok (.iconst 0, 1) := by decide +kernel
theorem dX11_start_12 : decode cX11_start 12 = .ok (.iconst 1, 1) := by decide +kernel
theorem dX11_start_13 : decode cX11_start 13 = .ok (.invokestatic 96, 3) := by decide +kernel
theorem dX11_start_16 : decode cX11_start 16 = .ok (.ifCond .ne 9, 3) := by decide +kernel
theorem dX11_start_19 : decode cX11_start 19 = .ok (.aload_n 0, 1) := by decide +kernel
theorem dX11_start_20 : decode cX11_start 20 = .ok (.iconst 1, 1) := by decide +kernel
theorem dX11_start_21 : decode cX11_start 21 = .ok (.invokevirtual 111, 3) := by decide +kernel
theorem dX11_start_24 : decode cX11_start 24 = .ok (.ireturn, 1) := by decide +kernel
theorem dX11_start_25 : decode cX11_start 25 = .ok (.aload_n 0, 1) := by decide +kernel
theorem dX11_start_26 : decode cX11_start 26 = .ok (.getfield 132, 3) := by decide +kernel
theorem dX11_start_29 : decode cX11_start 29 = .ok (.ifCond .eq 9, 3) := by decide +kernel
theorem dX11_start_32 : decode cX11_start 32 = .ok (.aload_n 0, 1) := by decide +kernel
theorem dX11_start_33 : decode cX11_start 33 = .ok (.iconst 2, 1) := by decide +kernel
theorem dX11_start_34 : decode cX11_start 34 = .ok (.invokevirtual 111, 3) := by decide +kernel
theorem dX11_start_37 : decode cX11_start 37 = .ok (.ireturn, 1) := by decide +kernel
theorem dX11_start_38 : decode cX11_start 38 = .ok (.aload_n 0, 1) := by decide +kernel
theorem dX11_start_39 : decode cX11_start 39 = .ok (.iconst 0, 1) := by decide +kernel
theorem dX11_start_40 : decode cX11_start 40 = .ok (.putfield 93, 3) := by decide +kernel
theorem dX11_start_43 : decode cX11_start 43 = .ok (.aload_n 0, 1) := by decide +kernel
theorem dX11_start_44 : decode cX11_start 44 = .ok (.getfield 54, 3) := by decide +kernel
theorem dX11_start_47 : decode cX11_start 47 = .ok (.iconst 4, 1) := by decide +kernel
theorem dX11_start_48 : decode cX11_start 48 = .ok (.iaload, 1) := by decide +kernel
theorem dX11_start_49 : decode cX11_start 49 = .ok (.istore 4, 2) := by decide +kernel
theorem dX11_start_51 : decode cX11_start 51 = .ok (.aload_n 0, 1) := by decide +kernel
theorem dX11_start_52 : decode cX11_start 52 = .ok (.getfield 54, 3) := by decide +kernel
theorem dX11_start_55 : decode cX11_start 55 = .ok (.iconst 4, 1) := by decide +kernel
theorem dX11_start_56 : decode cX11_start 56 = .ok (.iload_n 1, 1) := by decide +kernel
theorem dX11_start_57 : decode cX11_start 57 = .ok (.iastore, 1) := by decide +kernel
theorem dX11_start_58 : decode cX11_start 58 = .ok (.aload_n 0, 1) := by decide +kernel
theorem dX11_start_59 : decode cX11_start 59 = .ok (.getfield 54, 3) := by decide +kernel
theorem dX11_start_62 : decode cX11_start 62 = .ok (.bipush 7, 2) := by decide +kernel
theorem dX11_start_64 : decode cX11_start 64 = .ok (.iload_n 2, 1) := by decide +kernel
theorem dX11_start_65 : decode cX11_start 65 = .ok (.iastore, 1) := by decide +kernel
theorem dX11_start_66 : decode cX11_start 66 = .ok (.aload_n 0, 1) := by decide +kernel
theorem dX11_start_67 : decode cX11_start 67 = .ok (.getfield 54, 3) := by decide +kernel
theorem dX11_start_70 : decode cX11_start 70 = .ok (.bipush 8, 2) := by decide +kernel
theorem dX11_start_72 : decode cX11_start 72 = .ok (.iload_n 3, 1) := by decide +kernel
theorem dX11_start_73 : decode cX11_start 73 = .ok (.ifCond .eq 7, 3) := by decide +kernel
theorem dX11_start_76 : decode cX11_start 76 = .ok (.iconst 1, 1) := by decide +kernel
theorem dX11_start_77 : decode cX11_start 77 = .ok (.goto 4, 3) := by decide +kernel
theorem dX11_start_80 : decode cX11_start 80 = .ok (.iconst 0, 1) := by decide +kernel
theorem dX11_start_81 : decode cX11_start 81 = .ok (.iastore, 1) := by decide +kernel
theorem dX11_start_82 : decode cX11_start 82 = .ok (.iconst 4, 1) := by decide +kernel
theorem dX11_start_83 : decode cX11_start 83 = .ok (.istore 5, 2) := by decide +kernel
theorem dX11_start_85 : decode cX11_start 85 = .ok (.iload 5, 2) := by decide +kernel
theorem dX11_start_87 : decode cX11_start 87 = .ok (.bipush 8, 2) := by decide +kernel
theorem dX11_start_89 : decode cX11_start 89 = .ok (.if_icmp .gt 23, 3) := by decide +kernel
theorem dX11_start_92 : decode cX11_start 92 = .ok (.aload_n 0, 1) := by decide +kernel
theorem dX11_start_93 : decode cX11_start 93 = .ok (.getfield 57, 3) := by decide +kernel
theorem dX11_start_96 : decode cX11_start 96 = .ok (.iload 5, 2) := by decide +kernel
theorem dX11_start_98 : decode cX11_start 98 = .ok (.aload_n 0, 1) := by decide +kernel
theorem dX11_start_99 : decode cX11_start 99 = .ok (.getfield 54, 3) := by decide +kernel
theorem dX11_start_102 : decode cX11_start 102 = .ok (.iload 5, 2) := by decide +kernel
theorem dX11_start_104 : decode cX11_start 104 = .ok (.iaload, 1) := by decide +kernel
theorem dX11_start_105 : decode cX11_start 105 = .ok (.iastore, 1) := by decide +kernel
theorem dX11_start_106 : decode cX11_start 106 = .ok (.iinc 5 1, 3) := by decide +kernel
theorem dX11_start_109 : decode cX11_start 109 = .ok (.goto (-24), 3) := by decide +kernel
theorem dX11_start_112 : decode cX11_start 112 = .ok (.iload 4, 2) := by decide +kernel
theorem dX11_start_114 : decode cX11_start 114 = .ok (.ireturn, 1) := by decide +kernel
theorem dX11_setPage_0 : decode cX11_setPage 0 = .ok (.aload_n 0, 1) := by decide +kernel
theorem dX11_setPage_1 : decode cX11_setPage 1 = .ok (.iload_n 1, 1) := by decide +kernel
theorem dX11_setPage_2 : decode cX11_setPage 2 = .ok (.iconst 4, 1) := by decide +kernel
theorem dX11_setPage_3 : decode cX11_setPage 3 = .ok (.invokevirtual 104, 3) := by decide +kernel
theorem dX11_setPage_6 : decode cX11_setPage 6 = .ok (.ifCond .eq 5, 3) := by decide +kernel
theorem dX11_setPage_9 : decode cX11_setPage 9 = .ok (.iconst 0, 1) := by decide +kernel
theorem dX11_setPage_10 : decode cX11_setPage 10 = .ok (.ireturn, 1) := by decide +kernel
theorem dX11_setPage_11 : decode cX11_setPage 11 = .ok (.aload_n 0, 1) := by decide +kernel
theorem dX11_setPage_12 : decode cX11_setPage 12 = .ok (.getfield 48, 3) := by decide +kernel
theorem dX11_setPage_15 : decode cX11_setPage 15 = .ok (.iload_n 1, 1) := by decide +kernel
theorem dX11_setPage_16 : decode cX11_setPage 16 = .ok (.baload, 1) := by decide +kernel
theorem dX11_setPage_17 : decode cX11_setPage 17 = .ok (.ifCond .ne 7, 3) := by decide +kernel
theorem dX11_setPage_20 : decode cX11_setPage 20 = .ok (.iconst 1, 1) := by decide +kernel
theorem dX11_setPage_21 : decode cX11_setPage 21 = .ok (.goto 4, 3) := by decide +kernel
theorem dX11_setPage_24 : decode cX11_setPage 24 = .ok (.iconst 0, 1) := by decide +kernel
theorem dX11_setPage_25 : decode cX11_setPage 25 = .ok (.istore_n 3, 1) := by decide +kernel
theorem dX11_setPage_26 : decode cX11_setPage 26 = .ok (.aload_n 0, 1) := by decide +kernel
theorem dX11_setPage_27 : decode cX11_setPage 27 = .ok (.getfield 48, 3) := by decide +kernel
theorem dX11_setPage_30 : decode cX11_setPage 30 = .ok (.iload_n 1, 1) := by decide +kernel
theorem dX11_setPage_31 : decode cX11_setPage 31 = .ok (.iload_n 2, 1) := by decide +kernel
theorem dX11_setPage_32 : decode cX11_setPage 32 = .ok (.ifCond .ne 7, 3) := by decide +kernel
theorem dX11_setPage_35 : decode cX11_setPage 35 = .ok (.iconst 1, 1) := by decide +kernel
theorem dX11_setPage_36 : decode cX11_setPage 36 = .ok (.goto 4, 3) := by decide +kernel
theorem dX11_setPage_39 : decode cX11_setPage 39 = .ok (.iconst 0, 1) := by decide +kernel
theorem dX11_setPage_40 : decode cX11_setPage 40 = .ok (.bastore, 1) := by decide +kernel
theorem dX11_setPage_41 : decode cX11_setPage 41 = .ok (.iload_n 2, 1) := by decide +kernel
theorem dX11_setPage_42 : decode cX11_setPage 42 = .ok (.ifCond .eq 26, 3) := by decide +kernel
theorem dX11_setPage_45 : decode cX11_setPage 45 = .ok (.aload_n 0, 1) := by decide +kernel
theorem dX11_setPage_46 : decode cX11_setPage 46 = .ok (.getfield 89, 3) := by decide +kernel
theorem dX11_setPage_49 : decode cX11_setPage 49 = .ok (.bipush 119, 2) := by decide +kernel
theorem dX11_setPage_51 : decode cX11_setPage 51 = .ok (.if_icmp .ne 17, 3) := by decide +kernel
theorem dX11_setPage_54 : decode cX11_setPage 54 = .ok (.aload_n 0, 1) := by decide +kernel
theorem dX11_setPage_55 : decode cX11_setPage 55 = .ok (.getfield 83, 3) := by decide +kernel
theorem dX11_setPage_58 : decode cX11_setPage 58 = .ok (.iload_n 1, 1) := by decide +kernel
theorem dX11_setPage_59 : decode cX11_setPage 59 = .ok (.if_icmp .ne 9, 3) := by decide +kernel
theorem dX11_setPage_62 : decode cX11_setPage 62 = .ok (.aload_n 0, 1) := by decide +kernel
theorem dX11_setPage_63 : decode cX11_setPage 63 = .ok (.bipush 114, 2) := by decide +kernel
theorem dX11_setPage_65 : decode cX11_setPage 65 = .ok (.putfield 89, 3) := by decide +kernel
theorem dX11_setPage_68 : decode cX11_setPage 68 = .ok (.iload_n 3, 1) := by decide +kernel
theorem dX11_setPage_69 : decode cX11_setPage 69 = .ok (.ireturn, 1) := by decide +kernel
theorem dX11_setWait_0 : decode cX11_setWait 0 = .ok (.iload_n 1, 1) := by decide +kernel
theorem dX11_setWait_1 : decode cX11_setWait 1 = .ok (.iconst 0, 1) := by decide +kernel
theorem dX11_setWait_2 : decode cX11_setWait 2 = .ok (.bipush 9, 2) := by decide +kernel
theorem dX11_setWait_4 : decode cX11_setWait 4 = .ok (.invokestatic 96, 3) := by decide +kernel
theorem dX11_setWait_7 : decode cX11_setWait 7 = .ok (.ifCond .ne 9, 3) := by decide +kernel
theorem dX11_setWait_10 : decode cX11_setWait 10 = .ok (.aload_n 0, 1) := by decide +kernel
theorem dX11_setWait_11 : decode cX11_setWait 11 = .ok (.iconst 1, 1) := by decide +kernel
theorem dX11_setWait_12 : decode cX11_setWait 12 = .ok (.invokevirtual 111, 3) := by decide +kernel
theorem dX11_setWait_15 : decode cX11_setWait 15 = .ok (.ireturn, 1) := by decide +kernel
theorem dX11_setWait_16 : decode cX11_setWait 16 = .ok (.aload_n 0, 1) := by decide +kernel
theorem dX11_setWait_17 : decode cX11_setWait 17 = .ok (.iconst 0, 1) := by decide +kernel
theorem dX11_setWait_18 : decode cX11_setWait 18 = .ok (.putfield 93, 3) := by decide +kernel
theorem dX11_setWait_21 : decode cX11_setWait 21 = .ok (.aload_n 0, 1) := by decide +kernel
theorem dX11_setWait_22 : decode cX11_setWait 22 = .ok (.getfield 136, 3) := by decide +kernel
theorem dX11_setWait_25 : decode cX11_setWait 25 = .ok (.istore_n 2, 1) := by decide +kernel
theorem dX11_setWait_26 : decode cX11_setWait 26 = .ok (.aload_n 0, 1) := by decide +kernel
theorem dX11_setWait_27 : decode cX11_setWait 27 = .ok (.iload_n 1, 1) := by decide +kernel
theorem dX11_setWait_28 : decode cX11_setWait 28 = .ok (.putfield 136, 3) := by decide +kernel
theorem dX11_setWait_31 : decode cX11_setWait 31 = .ok (.iload_n 2, 1) := by decide +kernel
theorem dX11_setWait_32 : decode cX11_setWait 32 = .ok (.ireturn, 1) := by decide +kernel
theorem dX11_setVector_0 : decode cX11_setVector 0 = .ok (.iload_n 1, 1) := by decide +kernel
theorem dX11_setVector_1 : decode cX11_setVector 1 = .ok (.iconst 0, 1) := by decide +kernel
theorem dX11_setVector_2 : decode cX11_setVector 2 = .ok (.bipush 63, 2) := by decide +kernel
theorem dX11_setVector_4 : decode cX11_setVector 4 = .ok (.invokestatic 96, 3) := by decide +kernel
theorem dX11_setVector_7 : decode cX11_setVector 7 = .ok (.ifCond .ne 9, 3) := by decide +kernel
theorem dX11_setVector_10 : decode cX11_setVector 10 = .ok (.aload_n 0, 1) := by decide +kernel
theorem dX11_setVector_11 : decode cX11_setVector 11 = .ok (.iconst 1, 1) := by decide +kernel
theorem dX11_setVector_12 : decode cX11_setVector 12 = .ok (.invokevirtual 111, 3) := by decide +kernel
theorem dX11_setVector_15 : decode cX11_setVector 15 = .ok (.ireturn, 1) := by decide +kernel
theorem dX11_setVector_16 : decode cX11_setVector 16 = .ok (.aload_n 0, 1) := by decide +kernel
theorem dX11_setVector_17 : decode cX11_setVector 17 = .ok (.iconst 0, 1) := by decide +kernel
theorem dX11_setVector_18 : decode cX11_setVector 18 = .ok (.putfield 93, 3) := by decide +kernel
theorem dX11_setVector_21 : decode cX11_setVector 21 = .ok (.aload_n 0, 1) := by decide +kernel
theorem dX11_setVector_22 : decode cX11_setVector 22 = .ok (.getfield 79, 3) := by decide +kernel
theorem dX11_setVector_25 : decode cX11_setVector 25 = .ok (.istore_n 2, 1) := by decide +kernel
theorem dX11_setVector_26 : decode cX11_setVector 26 = .ok (.aload_n 0, 1) := by decide +kernel
theorem dX11_setVector_27 : decode cX11_setVector 27 = .ok (.iload_n 1, 1) := by decide +kernel
theorem dX11_setVector_28 : decode cX11_setVector 28 = .ok (.putfield 79, 3) := by decide +kernel
theorem dX11_setVector_31 : decode cX11_setVector 31 = .ok (.iload_n 2, 1) := by decide +kernel
theorem dX11_setVector_32 : decode cX11_setVector 32 = .ok (.ireturn, 1) := by decide +kernel
theorem dX11_interrupt_0 : decode cX11_interrupt 0 = .ok (.aload_n 0, 1) := by decide +kernel
theorem dX11_interrupt_1 : decode cX11_interrupt 1 = .ok (.getfield 139, 3) := by decide +kernel
theorem dX11_interrupt_4 : decode cX11_interrupt 4 = .ok (.istore_n 1, 1) := by decide +kernel
theorem dX11_interrupt_5 : decode cX11_interrupt 5 = .ok (.aload_n 0, 1) := by decide +kernel
theorem dX11_interrupt_6 : decode cX11_interrupt 6 = .ok (.iconst 1, 1) := by decide +kernel
theorem dX11_interrupt_7 : decode cX11_interrupt 7 = .ok (.putfield 139, 3) := by decide +kernel
theorem dX11_interrupt_10 : decode cX11_interrupt 10 = .ok (.iload_n 1, 1) := by decide +kernel
theorem dX11_interrupt_11 : decode cX11_interrupt 11 = .ok (.ireturn, 1) := by decide +kernel
theorem dX11_reset_0 : decode cX11_reset 0 = .ok (.aload_n 0, 1) := by decide +kernel
theorem dX11_reset_1 : decode cX11_reset 1 = .ok (.getfield 142, 3) := by decide +kernel
theorem dX11_reset_4 : decode cX11_reset 4 = .ok (.istore_n 1, 1) := by decide +kernel
theorem dX11_reset_5 : decode cX11_reset 5 = .ok (.aload_n 0, 1) := by decide +kernel
theorem dX11_reset_6 : decode cX11_reset 6 = .ok (.invokevirtual 145, 3) := by decide +kernel
theorem dX11_reset_9 : decode cX11_reset 9 = .ok (.aload_n 0, 1) := by decide +kernel
theorem dX11_reset_10 : decode cX11_reset 10 = .ok (.getfield 89, 3) := by decide +kernel
theorem dX11_reset_13 : decode cX11_reset 13 = .ok (.bipush 108, 2) := by decide +kernel
theorem dX11_reset_15 : decode cX11_reset 15 = .ok (.if_icmp .ne 9, 3) := by decide +kernel
theorem dX11_reset_18 : decode cX11_reset 18 = .ok (.aload_n 0, 1) := by decide +kernel
theorem dX11_reset_19 : decode cX11_reset 19 = .ok (.bipush 114, 2) := by decide +kernel
theorem dX11_reset_21 : decode cX11_reset 21 = .ok (.putfield 89, 3) := by decide +kernel
theorem dX11_reset_24 : decode cX11_reset 24 = .ok (.iload_n 1, 1) := by decide +kernel
theorem dX11_reset_25 : decode cX11_reset 25 = .ok (.ireturn, 1) := by decide +kernel
theorem dX11_begins_0 : decode cX11_begins 0 = .ok (.iconst 0, 1) := by decide +kernel
theorem dX11_begins_1 : decode cX11_begins 1 = .ok (.istore_n 1, 1) := by decide +kernel
theorem dX11_begins_2 : decode cX11_begins 2 = .ok (.iload_n 1, 1) := by decide +kernel
theorem dX11_begins_3 : decode cX11_begins 3 = .ok (.bipush 10, 2) := by decide +kernel
theorem dX11_begins_5 : decode cX11_begins 5 = .ok (.if_icmp .ge 21, 3) := by decide +kernel
theorem dX11_begins_8 : decode cX11_begins 8 = .ok (.aload_n 0, 1) := by decide +kernel
theorem dX11_begins_9 : decode cX11_begins 9 = .ok (.getfield 57, 3) := by decide +kernel
theorem dX11_begins_12 : decode cX11_begins 12 = .ok (.iload_n 1, 1) := by decide +kernel
theorem dX11_begins_13 : decode cX11_begins 13 = .ok (.aload_n 0, 1) := by decide +kernel
theorem dX11_begins_14 : decode cX11_begins 14 = .ok (.getfield 54, 3) := by decide +kernel
theorem dX11_begins_17 : decode cX11_begins 17 = .ok (.iload_n 1, 1) := by decide +kernel
theorem dX11_begins_18 : decode cX11_begins 18 = .ok (.iaload, 1) := by decide +kernel
theorem dX11_begins_19 : decode cX11_begins 19 = .ok (.iastore, 1) := by decide +kernel
theorem dX11_begins_20 : decode cX11_begins 20 = .ok (.iinc 1 1, 3) := by decide +kernel
theorem dX11_begins_23 : decode cX11_begins 23 = .ok (.goto (-21), 3) := by decide +kernel
theorem dX11_begins_26 : decode cX11_begins 26 = .ok (.iconst 0, 1) := by decide +kernel
theorem dX11_begins_27 : decode cX11_begins 27 = .ok (.istore_n 1, 1) := by decide +kernel
theorem dX11_begins_28 : decode cX11_begins 28 = .ok (.iload_n 1, 1) := by decide +kernel
theorem dX11_begins_29 : decode cX11_begins 29 = .ok (.bipush 64, 2) := by decide +kernel
theorem dX11_begins_31 : decode cX11_begins 31 = .ok (.if_icmp .ge 21, 3) := by decide +kernel
theorem dX11_begins_34 : decode cX11_begins 34 = .ok (.aload_n 0, 1) := by decide +kernel
theorem dX11_begins_35 : decode cX11_begins 35 = .ok (.getfield 63, 3) := by decide +kernel
theorem dX11_begins_38 : decode cX11_begins 38 = .ok (.iload_n 1, 1) := by decide +kernel
theorem dX11_begins_39 : decode cX11_begins 39 = .ok (.aload_n 0, 1) := by decide +kernel
theorem dX11_begins_40 : decode cX11_begins 40 = .ok (.getfield 60, 3) := by decide +kernel
theorem dX11_begins_43 : decode cX11_begins 43 = .ok (.iload_n 1, 1) := by decide +kernel
theorem dX11_begins_44 : decode cX11_begins 44 = .ok (.iaload, 1) := by decide +kernel
theorem dX11_begins_45 : decode cX11_begins 45 = .ok (.iastore, 1) := by decide +kernel
theorem dX11_begins_46 : decode cX11_begins 46 = .ok (.iinc 1 1, 3) := by decide +kernel
theorem dX11_begins_49 : decode cX11_begins 49 = .ok (.goto (-21), 3) := by decide +kernel
theorem dX11_begins_52 : decode cX11_begins 52 = .ok (.aload_n 0, 1) := by decide +kernel
theorem dX11_begins_53 : decode cX11_begins 53 = .ok (.invokevirtual 148, 3) := by decide +kernel
theorem dX11_begins_56 : decode cX11_begins 56 = .ok (.return_, 1) := by decide +kernel
theorem dX11_again_0 : decode cX11_again 0 = .ok (.aload_n 0, 1) := by decide +kernel
theorem dX11_again_1 : decode cX11_again 1 = .ok (.getfield 54, 3) := by decide +kernel
theorem dX11_again_4 : decode cX11_again 4 = .ok (.bipush 15, 2) := by decide +kernel
theorem dX11_again_6 : decode cX11_again 6 = .ok (.iconst 0, 1) := by decide +kernel
theorem dX11_again_7 : decode cX11_again 7 = .ok (.iastore, 1) := by decide +kernel
theorem dX11_again_8 : decode cX11_again 8 = .ok (.aload_n 0, 1) := by decide +kernel
theorem dX11_again_9 : decode cX11_again 9 = .ok (.iconst 0, 1) := by decide +kernel
theorem dX11_again_10 : decode cX11_again 10 = .ok (.putfield 151, 3) := by decide +kernel
theorem dX11_again_13 : decode cX11_again 13 = .ok (.aload_n 0, 1) := by decide +kernel
theorem dX11_again_14 : decode cX11_again 14 = .ok (.iconst 0, 1) := by decide +kernel
theorem dX11_again_15 : decode cX11_again 15 = .ok (.putfield 142, 3) := by decide +kernel
theorem dX11_again_18 : decode cX11_again 18 = .ok (.aload_n 0, 1) := by decide +kernel
theorem dX11_again_19 : decode cX11_again 19 = .ok (.iconst 0, 1) := by decide +kernel
theorem dX11_again_20 : decode cX11_again 20 = .ok (.putfield 132, 3) := by decide +kernel
theorem dX11_again_23 : decode cX11_again 23 = .ok (.return_, 1) := by decide +kernel
theorem dX11_back_0 : decode cX11_back 0 = .ok (.iconst 0, 1) := by decide +kernel
theorem dX11_back_1 : decode cX11_back 1 = .ok (.istore_n 1, 1) := by decide +kernel
theorem dX11_back_2 : decode cX11_back 2 = .ok (.iload_n 1, 1) := by decide +kernel
theorem dX11_back_3 : decode cX11_back 3 = .ok (.bipush 10, 2) := by decide +kernel
theorem dX11_back_5 : decode cX11_back 5 = .ok (.if_icmp .ge 21, 3) := by decide +kernel
theorem dX11_back_8 : decode cX11_back 8 = .ok (.aload_n 0, 1) := by decide +kernel
theorem dX11_back_9 : decode cX11_back 9 = .ok (.getfield 54, 3) := by decide +kernel
theorem dX11_back_12 : decode cX11_back 12 = .ok (.iload_n 1, 1) := by decide +kernel
theorem dX11_back_13 : decode cX11_back 13 = .ok (.aload_n 0, 1) := by decide +kernel
theorem dX11_back_14 : decode cX11_back 14 = .ok (.getfield 57, 3) := by decide +kernel
theorem dX11_back_17 : decode cX11_back 17 = .ok (.iload_n 1, 1) := by decide +kernel
theorem dX11_back_18 : decode cX11_back 18 = .ok (.iaload, 1) := by decide +kernel
theorem dX11_back_19 : decode cX11_back 19 = .ok (.iastore, 1) := by decide +kernel
theorem dX11_back_20 : decode cX11_back 20 = .ok (.iinc 1 1, 3) := by decide +kernel
theorem dX11_back_23 : decode cX11_back 23 = .ok (.goto (-21), 3) := by decide +kernel
theorem dX11_back_26 : decode cX11_back 26 = .ok (.iconst 0, 1) := by decide +kernel
theorem dX11_back_27 : decode cX11_back 27 = .ok (.istore_n 1, 1) := by decide +kernel
theorem dX11_back_28 : decode cX11_back 28 = .ok (.iload_n 1, 1) := by decide +kernel
theorem dX11_back_29 : decode cX11_back 29 = .ok (.bipush 64, 2) := by decide +kernel
theorem dX11_back_31 : decode cX11_back 31 = .ok (.if_icmp .ge 21, 3) := by decide +kernel
theorem dX11_back_34 : decode cX11_back 34 = .ok (.aload_n 0, 1) := by decide +kernel
theorem dX11_back_35 : decode cX11_back 35 = .ok (.getfield 60, 3) := by decide +kernel
theorem dX11_back_38 : decode cX11_back 38 = .ok (.iload_n 1, 1) := by decide +kernel
theorem dX11_back_39 : decode cX11_back 39 = .ok (.aload_n 0, 1) := by decide +kernel
theorem dX11_back_40 : decode cX11_back 40 = .ok (.getfield 63, 3) := by decide +kernel
theorem dX11_back_43 : decode cX11_back 43 = .ok (.iload_n 1, 1) := by decide +kernel
theorem dX11_back_44 : decode cX11_back 44 = .ok (.iaload, 1) := by decide +kernel
theorem dX11_back_45 : decode cX11_back 45 = .ok (.iastore, 1) := by decide +kernel
theorem dX11_back_46 : decode cX11_back 46 = .ok (.iinc 1 1, 3) := by decide +kernel
theorem dX11_back_49 : decode cX11_back 49 = .ok (.goto (-21), 3) := by decide +kernel
theorem dX11_back_52 : decode cX11_back 52 = .ok (.aload_n 0, 1) := by decide +kernel
theorem dX11_back_53 : decode cX11_back 53 = .ok (.iconst 0, 1) := by decide +kernel
theorem dX11_back_54 : decode cX11_back 54 = .ok (.putfield 154, 3) := by decide +kernel
theorem dX11_back_57 : decode cX11_back 57 = .ok (.aload_n 0, 1) := by decide +kernel
theorem dX11_back_58 : decode cX11_back 58 = .ok (.invokevirtual 148, 3) := by decide +kernel
theorem dX11_back_61 : decode cX11_back 61 = .ok (.return_, 1) := by decide +kernel
theorem dX11_asks_0 : decode cX11_asks 0 = .ok (.aload_n 0, 1) := by decide +kernel
theorem dX11_asks_1 : decode cX11_asks 1 = .ok (.getfield 139, 3) := by decide +kernel
theorem dX11_asks_4 : decode cX11_asks 4 = .ok (.ifCond .eq 13, 3) := by decide +kernel
theorem dX11_asks_7 : decode cX11_asks 7 = .ok (.aload_n 0, 1) := by decide +kernel
theorem dX11_asks_8 : decode cX11_asks 8 = .ok (.getfield 54, 3) := by decide +kernel
theorem dX11_asks_11 : decode cX11_asks 11 = .ok (.bipush 8, 2) := by decide +kernel
theorem dX11_asks_13 : decode cX11_asks 13 = .ok (.iaload, 1) := by decide +kernel
theorem dX11_asks_14 : decode cX11_asks 14 = .ok (.ifCond .ne 4, 3) := by decide +kernel
theorem dX11_asks_17 : decode cX11_asks 17 = .ok (.return_, 1) := by decide +kernel
theorem dX11_asks_18 : decode cX11_asks 18 = .ok (.aload_n 0, 1) := by decide +kernel
theorem dX11_asks_19 : decode cX11_asks 19 = .ok (.getfield 54, 3) := by decide +kernel
theorem dX11_asks_22 : decode cX11_asks 22 = .ok (.bipush 9, 2) := by decide +kernel
theorem dX11_asks_24 : decode cX11_asks 24 = .ok (.aload_n 0, 1) := by decide +kernel
theorem dX11_asks_25 : decode cX11_asks 25 = .ok (.getfield 54, 3) := by decide +kernel
theorem dX11_asks_28 : decode cX11_asks 28 = .ok (.iconst 4, 1) := by decide +kernel
theorem dX11_asks_29 : decode cX11_asks 29 = .ok (.iaload, 1) := by decide +kernel
theorem dX11_asks_30 : decode cX11_asks 30 = .ok (.iastore, 1) := by decide +kernel
theorem dX11_asks_31 : decode cX11_asks 31 = .ok (.aload_n 0, 1) := by decide +kernel
theorem dX11_asks_32 : decode cX11_asks 32 = .ok (.getfield 54, 3) := by decide +kernel
theorem dX11_asks_35 : decode cX11_asks 35 = .ok (.iconst 4, 1) := by decide +kernel
theorem dX11_asks_36 : decode cX11_asks 36 = .ok (.aload_n 0, 1) := by decide +kernel
theorem dX11_asks_37 : decode cX11_asks 37 = .ok (.getfield 79, 3) := by decide +kernel
theorem dX11_asks_40 : decode cX11_asks 40 = .ok (.iastore, 1) := by decide +kernel
theorem dX11_asks_41 : decode cX11_asks 41 = .ok (.aload_n 0, 1) := by decide +kernel
theorem dX11_asks_42 : decode cX11_asks 42 = .ok (.getfield 54, 3) := by decide +kernel
theorem dX11_asks_45 : decode cX11_asks 45 = .ok (.bipush 7, 2) := by decide +kernel
theorem dX11_asks_47 : decode cX11_asks 47 = .ok (.iconst 0, 1) := by decide +kernel
theorem dX11_asks_48 : decode cX11_asks 48 = .ok (.iastore, 1) := by decide +kernel
theorem dX11_asks_49 : decode cX11_asks 49 = .ok (.aload_n 0, 1) := by decide +kernel
theorem dX11_asks_50 : decode cX11_asks 50 = .ok (.getfield 54, 3) := by decide +kernel
theorem dX11_asks_53 : decode cX11_asks 53 = .ok (.bipush 8, 2) := by decide +kernel
theorem dX11_asks_55 : decode cX11_asks 55 = .ok (.iconst 0, 1) := by decide +kernel
theorem dX11_asks_56 : decode cX11_asks 56 = .ok (.iastore, 1) := by decide +kernel
theorem dX11_asks_57 : decode cX11_asks 57 = .ok (.aload_n 0, 1) := by decide +kernel
theorem dX11_asks_58 : decode cX11_asks 58 = .ok (.iconst 0, 1) := by decide +kernel
theorem dX11_asks_59 : decode cX11_asks 59 = .ok (.putfield 139, 3) := by decide +kernel
theorem dX11_asks_62 : decode cX11_asks 62 = .ok (.aload_n 0, 1) := by decide +kernel
theorem dX11_asks_63 : decode cX11_asks 63 = .ok (.dup, 1) := by decide +kernel
theorem dX11_asks_64 : decode cX11_asks 64 = .ok (.getfield 157, 3) := by decide +kernel
theorem dX11_asks_67 : decode cX11_asks 67 = .ok (.iconst 1, 1) := by decide +kernel
theorem dX11_asks_68 : decode cX11_asks 68 = .ok (.iadd, 1) := by decide +kernel
theorem dX11_asks_69 : decode cX11_asks 69 = .ok (.putfield 157, 3) := by decide +kernel
theorem dX11_asks_72 : decode cX11_asks 72 = .ok (.return_, 1) := by decide +kernel
theorem dX11_finish_0 : decode cX11_finish 0 = .ok (.aload_n 0, 1) := by decide +kernel
theorem dX11_finish_1 : decode cX11_finish 1 = .ok (.invokevirtual 160, 3) := by decide +kernel
theorem dX11_finish_4 : decode cX11_finish 4 = .ok (.aload_n 0, 1) := by decide +kernel
theorem dX11_finish_5 : decode cX11_finish 5 = .ok (.invokevirtual 163, 3) := by decide +kernel
theorem dX11_finish_8 : decode cX11_finish 8 = .ok (.aload_n 0, 1) := by decide +kernel
theorem dX11_finish_9 : decode cX11_finish 9 = .ok (.getfield 166, 3) := by decide +kernel
theorem dX11_finish_12 : decode cX11_finish 12 = .ok (.istore_n 1, 1) := by decide +kernel
theorem dX11_finish_13 : decode cX11_finish 13 = .ok (.iconst 0, 1) := by decide +kernel
theorem dX11_finish_14 : decode cX11_finish 14 = .ok (.istore_n 2, 1) := by decide +kernel
theorem dX11_finish_15 : decode cX11_finish 15 = .ok (.iload_n 2, 1) := by decide +kernel
theorem dX11_finish_16 : decode cX11_finish 16 = .ok (.bipush 10, 2) := by decide +kernel
theorem dX11_finish_18 : decode cX11_finish 18 = .ok (.if_icmp .ge 32, 3) := by decide +kernel
theorem dX11_finish_21 : decode cX11_finish 21 = .ok (.iload_n 1, 1) := by decide +kernel
theorem dX11_finish_22 : decode cX11_finish 22 = .ok (.aload_n 0, 1) := by decide +kernel
theorem dX11_finish_23 : decode cX11_finish 23 = .ok (.getfield 69, 3) := by decide +kernel
theorem dX11_finish_26 : decode cX11_finish 26 = .ok (.iload_n 2, 1) := by decide +kernel
theorem dX11_finish_27 : decode cX11_finish 27 = .ok (.iaload, 1) := by decide +kernel
theorem dX11_finish_28 : decode cX11_finish 28 = .ok (.aload_n 0, 1) := by decide +kernel
theorem dX11_finish_29 : decode cX11_finish 29 = .ok (.getfield 54, 3) := by decide +kernel
theorem dX11_finish_32 : decode cX11_finish 32 = .ok (.iload_n 2, 1) := by decide +kernel
theorem dX11_finish_33 : decode cX11_finish 33 = .ok (.iaload, 1) := by decide +kernel
theorem dX11_finish_34 : decode cX11_finish 34 = .ok (.if_icmp .ne 7, 3) := by decide +kernel
theorem dX11_finish_37 : decode cX11_finish 37 = .ok (.iconst 1, 1) := by decide +kernel
theorem dX11_finish_38 : decode cX11_finish 38 = .ok (.goto 4, 3) := by decide +kernel
theorem dX11_finish_41 : decode cX11_finish 41 = .ok (.iconst 0, 1) := by decide +kernel
theorem dX11_finish_42 : decode cX11_finish 42 = .ok (.iand, 1) := by decide +kernel
theorem dX11_finish_43 : decode cX11_finish 43 = .ok (.istore_n 1, 1) := by decide +kernel
theorem dX11_finish_44 : decode cX11_finish 44 = .ok (.iinc 2 1, 3) := by decide +kernel
theorem dX11_finish_47 : decode cX11_finish 47 = .ok (.goto (-32), 3) := by decide +kernel
theorem dX11_finish_50 : decode cX11_finish 50 = .ok (.iconst 0, 1) := by decide +kernel
theorem dX11_finish_51 : decode cX11_finish 51 = .ok (.istore_n 2, 1) := by decide +kernel
theorem dX11_finish_52 : decode cX11_finish 52 = .ok (.iload_n 2, 1) := by decide +kernel
theorem dX11_finish_53 : decode cX11_finish 53 = .ok (.bipush 64, 2) := by decide +kernel
theorem dX11_finish_55 : decode cX11_finish 55 = .ok (.if_icmp .ge 32, 3) := by decide +kernel
theorem dX11_finish_58 : decode cX11_finish 58 = .ok (.iload_n 1, 1) := by decide +kernel
theorem dX11_finish_59 : decode cX11_finish 59 = .ok (.aload_n 0, 1) := by decide +kernel
theorem dX11_finish_60 : decode cX11_finish 60 = .ok (.getfield 72, 3) := by decide +kernel
theorem dX11_finish_63 : decode cX11_finish 63 = .ok (.iload_n 2, 1) := by decide +kernel
theorem dX11_finish_64 : decode cX11_finish 64 = .ok (.iaload, 1) := by decide +kernel
theorem dX11_finish_65 : decode cX11_finish 65 = .ok (.aload_n 0, 1) := by decide +kernel
theorem dX11_finish_66 : decode cX11_finish 66 = .ok (.getfield 60, 3) := by decide +kernel
theorem dX11_finish_69 : decode cX11_finish 69 = .ok (.iload_n 2, 1) := by decide +kernel
theorem dX11_finish_70 : decode cX11_finish 70 = .ok (.iaload, 1) := by decide +kernel
theorem dX11_finish_71 : decode cX11_finish 71 = .ok (.if_icmp .ne 7, 3) := by decide +kernel
theorem dX11_finish_74 : decode cX11_finish 74 = .ok (.iconst 1, 1) := by decide +kernel
theorem dX11_finish_75 : decode cX11_finish 75 = .ok (.goto 4, 3) := by decide +kernel
theorem dX11_finish_78 : decode cX11_finish 78 = .ok (.iconst 0, 1) := by decide +kernel
theorem dX11_finish_79 : decode cX11_finish 79 = .ok (.iand, 1) := by decide +kernel
theorem dX11_finish_80 : decode cX11_finish 80 = .ok (.istore_n 1, 1) := by decide +kernel
theorem dX11_finish_81 : decode cX11_finish 81 = .ok (.iinc 2 1, 3) := by decide +kernel
theorem dX11_finish_84 : decode cX11_finish 84 = .ok (.goto (-32), 3) := by decide +kernel
theorem dX11_finish_87 : decode cX11_finish 87 = .ok (.iload_n 1, 1) := by decide +kernel
theorem dX11_finish_88 : decode cX11_finish 88 = .ok (.ifCond .ne 20, 3) := by decide +kernel
theorem dX11_finish_91 : decode cX11_finish 91 = .ok (.aload_n 0, 1) := by decide +kernel
theorem dX11_finish_92 : decode cX11_finish 92 = .ok (.getfield 169, 3) := by decide +kernel
theorem dX11_finish_95 : decode cX11_finish 95 = .ok (.ifCond .ne 13, 3) := by decide +kernel
theorem dX11_finish_98 : decode cX11_finish 98 = .ok (.aload_n 0, 1) := by decide +kernel
theorem dX11_finish_99 : decode cX11_finish 99 = .ok (.aload_n 0, 1) := by decide +kernel
theorem dX11_finish_100 : decode cX11_finish 100 = .ok (.getfield 57, 3) := by decide +kernel
theorem dX11_finish_103 : decode cX11_finish 103 = .ok (.iconst 4, 1) := by decide +kernel
theorem dX11_finish_104 : decode cX11_finish 104 = .ok (.iaload, 1) := by decide +kernel
theorem dX11_finish_105 : decode cX11_finish 105 = .ok (.putfield 86, 3) := by decide +kernel
theorem dX11_finish_108 : decode cX11_finish 108 = .ok (.aload_n 0, 1) := by decide +kernel
theorem dX11_finish_109 : decode cX11_finish 109 = .ok (.dup, 1) := by decide +kernel
theorem dX11_finish_110 : decode cX11_finish 110 = .ok (.getfield 169, 3) := by decide +kernel
theorem dX11_finish_113 : decode cX11_finish 113 = .ok (.iload_n 1, 1) := by decide +kernel
theorem dX11_finish_114 : decode cX11_finish 114 = .ok (.ifCond .eq 7, 3) := by decide +kernel
theorem dX11_finish_117 : decode cX11_finish 117 = .ok (.iconst 0, 1) := by decide +kernel
theorem dX11_finish_118 : decode cX11_finish 118 = .ok (.goto 4, 3) := by decide +kernel
theorem dX11_finish_121 : decode cX11_finish 121 = .ok (.iconst 1, 1) := by decide +kernel
theorem dX11_finish_122 : decode cX11_finish 122 = .ok (.iadd, 1) := by decide +kernel
theorem dX11_finish_123 : decode cX11_finish 123 = .ok (.putfield 169, 3) := by decide +kernel
theorem dX11_finish_126 : decode cX11_finish 126 = .ok (.aload_n 0, 1) := by decide +kernel
theorem dX11_finish_127 : decode cX11_finish 127 = .ok (.dup, 1) := by decide +kernel
theorem dX11_finish_128 : decode cX11_finish 128 = .ok (.getfield 172, 3) := by decide +kernel
theorem dX11_finish_131 : decode cX11_finish 131 = .ok (.iconst 1, 1) := by decide +kernel
theorem dX11_finish_132 : decode cX11_finish 132 = .ok (.iadd, 1) := by decide +kernel
theorem dX11_finish_133 : decode cX11_finish 133 = .ok (.putfield 172, 3) := by decide +kernel
theorem dX11_finish_136 : decode cX11_finish 136 = .ok (.aload_n 0, 1) := by decide +kernel
theorem dX11_finish_137 : decode cX11_finish 137 = .ok (.getfield 75, 3) := by decide +kernel
theorem dX11_finish_140 : decode cX11_finish 140 = .ok (.bipush 16, 2) := by decide +kernel
theorem dX11_finish_142 : decode cX11_finish 142 = .ok (.aload_n 0, 1) := by decide +kernel
theorem dX11_finish_143 : decode cX11_finish 143 = .ok (.getfield 57, 3) := by decide +kernel
theorem dX11_finish_146 : decode cX11_finish 146 = .ok (.bipush 7, 2) := by decide +kernel
theorem dX11_finish_148 : decode cX11_finish 148 = .ok (.iaload, 1) := by decide +kernel
theorem dX11_finish_149 : decode cX11_finish 149 = .ok (.imul, 1) := by decide +kernel
theorem dX11_finish_150 : decode cX11_finish 150 = .ok (.aload_n 0, 1) := by decide +kernel
theorem dX11_finish_151 : decode cX11_finish 151 = .ok (.getfield 54, 3) := by decide +kernel
theorem dX11_finish_154 : decode cX11_finish 154 = .ok (.bipush 14, 2) := by decide +kernel
theorem dX11_finish_156 : decode cX11_finish 156 = .ok (.iaload, 1) := by decide +kernel
theorem dX11_finish_157 : decode cX11_finish 157 = .ok (.bipush 16, 2) := by decide +kernel
theorem dX11_finish_159 : decode cX11_finish 159 = .ok (.idiv, 1) := by decide +kernel
theorem dX11_finish_160 : decode cX11_finish 160 = .ok (.iadd, 1) := by decide +kernel
theorem dX11_finish_161 : decode cX11_finish 161 = .ok (.dup2, 1) := by decide +kernel
theorem dX11_finish_162 : decode cX11_finish 162 = .ok (.laload, 1) := by decide +kernel
theorem dX11_finish_163 : decode cX11_finish 163 = .ok (.aload_n 0, 1) := by decide +kernel
theorem dX11_finish_164 : decode cX11_finish 164 = .ok (.getfield 175, 3) := by decide +kernel
theorem dX11_finish_167 : decode cX11_finish 167 = .ok (.i2l, 1) := by decide +kernel
theorem dX11_finish_168 : decode cX11_finish 168 = .ok (.ladd, 1) := by decide +kernel
theorem dX11_finish_169 : decode cX11_finish 169 = .ok (.lastore, 1) := by decide +kernel
theorem dX11_finish_170 : decode cX11_finish 170 = .ok (.aload_n 0, 1) := by decide +kernel
theorem dX11_finish_171 : decode cX11_finish 171 = .ok (.dup, 1) := by decide +kernel
theorem dX11_finish_172 : decode cX11_finish 172 = .ok (.getfield 178, 3) := by decide +kernel
theorem dX11_finish_175 : decode cX11_finish 175 = .ok (.aload_n 0, 1) := by decide +kernel
theorem dX11_finish_176 : decode cX11_finish 176 = .ok (.getfield 175, 3) := by decide +kernel
theorem dX11_finish_179 : decode cX11_finish 179 = .ok (.i2l, 1) := by decide +kernel
theorem dX11_finish_180 : decode cX11_finish 180 = .ok (.ladd, 1) := by decide +kernel
theorem dX11_finish_181 : decode cX11_finish 181 = .ok (.putfield 178, 3) := by decide +kernel
theorem dX11_finish_184 : decode cX11_finish 184 = .ok (.aload_n 0, 1) := by decide +kernel
theorem dX11_finish_185 : decode cX11_finish 185 = .ok (.iconst 0, 1) := by decide +kernel
theorem dX11_finish_186 : decode cX11_finish 186 = .ok (.putfield 175, 3) := by decide +kernel
theorem dX11_finish_189 : decode cX11_finish 189 = .ok (.aload_n 0, 1) := by decide +kernel
theorem dX11_finish_190 : decode cX11_finish 190 = .ok (.invokevirtual 182, 3) := by decide +kernel
theorem dX11_finish_193 : decode cX11_finish 193 = .ok (.aload_n 0, 1) := by decide +kernel
theorem dX11_finish_194 : decode cX11_finish 194 = .ok (.invokevirtual 185, 3) := by decide +kernel
theorem dX11_finish_197 : decode cX11_finish 197 = .ok (.return_, 1) := by decide +kernel
theorem dX11_combined_0 : decode cX11_combined 0 = .ok (.iload_n 0, 1) := by decide +kernel
theorem dX11_combined_1 : decode cX11_combined 1 = .ok (.ifCond .ne 5, 3) := by decide +kernel
theorem dX11_combined_4 : decode cX11_combined 4 = .ok (.iload_n 2, 1) := by decide +kernel
theorem dX11_combined_5 : decode cX11_combined 5 = .ok (.ireturn, 1) := by decide +kernel
theorem dX11_combined_6 : decode cX11_combined 6 = .ok (.iload_n 0, 1) := by decide +kernel
theorem dX11_combined_7 : decode cX11_combined 7 = .ok (.iconst 1, 1) := by decide +kernel
theorem dX11_combined_8 : decode cX11_combined 8 = .ok (.if_icmp .ne 11, 3) := by decide +kernel
theorem dX11_combined_11 : decode cX11_combined 11 = .ok (.iload_n 1, 1) := by decide +kernel
theorem dX11_combined_12 : decode cX11_combined 12 = .ok (.iload_n 2, 1) := by decide +kernel
theorem dX11_combined_13 : decode cX11_combined 13 = .ok (.iadd, 1) := by decide +kernel
theorem dX11_combined_14 : decode cX11_combined 14 = .ok (.sipush 256, 3) := by decide +kernel
theorem dX11_combined_17 : decode cX11_combined 17 = .ok (.irem, 1) := by decide +kernel
theorem dX11_combined_18 : decode cX11_combined 18 = .ok (.ireturn, 1) := by decide +kernel
theorem dX11_combined_19 : decode cX11_combined 19 = .ok (.iload_n 0, 1) := by decide +kernel
theorem dX11_combined_20 : decode cX11_combined 20 = .ok (.iconst 2, 1) := by decide +kernel
theorem dX11_combined_21 : decode cX11_combined 21 = .ok (.if_icmp .ne 15, 3) := by decide +kernel
theorem dX11_combined_24 : decode cX11_combined 24 = .ok (.iload_n 1, 1) := by decide +kernel
theorem dX11_combined_25 : decode cX11_combined 25 = .ok (.sipush 256, 3) := by decide +kernel
theorem dX11_combined_28 : decode cX11_combined 28 = .ok (.iadd, 1) := by decide +kernel
theorem dX11_combined_29 : decode cX11_combined 29 = .ok (.iload_n 2, 1) := by decide +kernel
theorem dX11_combined_30 : decode cX11_combined 30 = .ok (.isub, 1) := by decide +kernel
theorem dX11_combined_31 : decode cX11_combined 31 = .ok (.sipush 256, 3) := by decide +kernel
theorem dX11_combined_34 : decode cX11_combined 34 = .ok (.irem, 1) := by decide +kernel
theorem dX11_combined_35 : decode cX11_combined 35 = .ok (.ireturn, 1) := by decide +kernel
theorem dX11_combined_36 : decode cX11_combined 36 = .ok (.iload_n 0, 1) := by decide +kernel
theorem dX11_combined_37 : decode cX11_combined 37 = .ok (.iconst 3, 1) := by decide +kernel
theorem dX11_combined_38 : decode cX11_combined 38 = .ok (.if_icmp .ne 7, 3) := by decide +kernel
theorem dX11_combined_41 : decode cX11_combined 41 = .ok (.iload_n 1, 1) := by decide +kernel
theorem dX11_combined_42 : decode cX11_combined 42 = .ok (.iload_n 2, 1) := by decide +kernel
theorem dX11_combined_43 : decode cX11_combined 43 = .ok (.iand, 1) := by decide +kernel
theorem dX11_combined_44 : decode cX11_combined 44 = .ok (.ireturn, 1) := by decide +kernel
theorem dX11_combined_45 : decode cX11_combined 45 = .ok (.iload_n 0, 1) := by decide +kernel
theorem dX11_combined_46 : decode cX11_combined 46 = .ok (.iconst 4, 1) := by decide +kernel
theorem dX11_combined_47 : decode cX11_combined 47 = .ok (.if_icmp .ne 7, 3) := by decide +kernel
theorem dX11_combined_50 : decode cX11_combined 50 = .ok (.iload_n 1, 1) := by decide +kernel
theorem dX11_combined_51 : decode cX11_combined 51 = .ok (.iload_n 2, 1) := by decide +kernel
theorem dX11_combined_52 : decode cX11_combined 52 = .ok (.ixor, 1) := by decide +kernel
theorem dX11_combined_53 : decode cX11_combined 53 = .ok (.ireturn, 1) := by decide +kernel
theorem dX11_combined_54 : decode cX11_combined 54 = .ok (.iload_n 0, 1) := by decide +kernel
theorem dX11_combined_55 : decode cX11_combined 55 = .ok (.iconst 5, 1) := by decide +kernel
theorem dX11_combined_56 : decode cX11_combined 56 = .ok (.if_icmp .ne 13, 3) := by decide +kernel
theorem dX11_combined_59 : decode cX11_combined 59 = .ok (.iload_n 2, 1) := by decide +kernel
theorem dX11_combined_60 : decode cX11_combined 60 = .ok (.iconst 1, 1) := by decide +kernel
theorem dX11_combined_61 : decode cX11_combined 61 = .ok (.iadd, 1) := by decide +kernel
theorem dX11_combined_62 : decode cX11_combined 62 = .ok (.sipush 256, 3) := by decide +kernel
theorem dX11_combined_65 : decode cX11_combined 65 = .ok (.irem, 1) := by decide +kernel
theorem dX11_combined_66 : decode cX11_combined 66 = .ok (.goto 24, 3) := by decide +kernel
theorem dX11_combined_69 : decode cX11_combined 69 = .ok (.iload_n 0, 1) := by decide +kernel
theorem dX11_combined_70 : decode cX11_combined 70 = .ok (.bipush 6, 2) := by decide +kernel
theorem dX11_combined_72 : decode cX11_combined 72 = .ok (.if_icmp .ne 15, 3) := by decide +kernel
theorem dX11_combined_75 : decode cX11_combined 75 = .ok (.iload_n 2, 1) := by decide +kernel
theorem dX11_combined_76 : decode cX11_combined 76 = .ok (.sipush 255, 3) := by decide +kernel
theorem dX11_combined_79 : decode cX11_combined 79 = .ok (.iadd, 1) := by decide +kernel
theorem dX11_combined_80 : decode cX11_combined 80 = .ok (.sipush 256, 3) := by decide +kernel
theorem dX11_combined_83 : decode cX11_combined 83 = .ok (.irem, 1) := by decide +kernel
theorem dX11_combined_84 : decode cX11_combined 84 = .ok (.goto 6, 3) := by decide +kernel
theorem dX11_combined_87 : decode cX11_combined 87 = .ok (.iload_n 2, 1) := by decide +kernel
theorem dX11_combined_88 : decode cX11_combined 88 = .ok (.iconst 2, 1) := by decide +kernel
theorem dX11_combined_89 : decode cX11_combined 89 = .ok (.idiv, 1) := by decide +kernel
theorem dX11_combined_90 : decode cX11_combined 90 = .ok (.ireturn, 1) := by decide +kernel
theorem dX11_carry_0 : decode cX11_carry 0 = .ok (.iload_n 0, 1) := by decide +kernel
theorem dX11_carry_1 : decode cX11_carry 1 = .ok (.iconst 1, 1) := by decide +kernel
theorem dX11_carry_2 : decode cX11_carry 2 = .ok (.if_icmp .ne 12, 3) := by decide +kernel
theorem dX11_carry_5 : decode cX11_carry 5 = .ok (.iload_n 1, 1) := by decide +kernel
theorem dX11_carry_6 : decode cX11_carry 6 = .ok (.iload_n 2, 1) := by decide +kernel
theorem dX11_carry_7 : decode cX11_carry 7 = .ok (.iadd, 1) := by decide +kernel
theorem dX11_carry_8 : decode cX11_carry 8 = .ok (.sipush 255, 3) := by decide +kernel
theorem dX11_carry_11 : decode cX11_carry 11 = .ok (.if_icmp .gt 48, 3) := by decide +kernel
theorem dX11_carry_14 : decode cX11_carry 14 = .ok (.iload_n 0, 1) := by decide +kernel
theorem dX11_carry_15 : decode cX11_carry 15 = .ok (.iconst 2, 1) := by decide +kernel
theorem dX11_carry_16 : decode cX11_carry 16 = .ok (.if_icmp .ne 8, 3) := by decide +kernel
theorem dX11_carry_19 : decode cX11_carry 19 = .ok (.iload_n 1, 1) := by decide +kernel
theorem dX11_carry_20 : decode cX11_carry 20 = .ok (.iload_n 2, 1) := by decide +kernel
theorem dX11_carry_21 : decode cX11_carry 21 = .ok (.if_icmp .lt 38, 3) := by decide +kernel
theorem dX11_carry_24 : decode cX11_carry 24 = .ok (.iload_n 0, 1) := by decide +kernel
theorem dX11_carry_25 : decode cX11_carry 25 = .ok (.iconst 5, 1) := by decide +kernel
theorem dX11_carry_26 : decode cX11_carry 26 = .ok (.if_icmp .ne 10, 3) := by decide +kernel
theorem dX11_carry_29 : decode cX11_carry 29 = .ok (.iload_n 2, 1) := by decide +kernel
theorem dX11_carry_30 : decode cX11_carry 30 = .ok (.sipush 255, 3) := by decide +kernel
theorem dX11_carry_33 : decode cX11_carry 33 = .ok (.if_icmp .eq 26, 3) := by decide +kernel
theorem dX11_carry_36 : decode cX11_carry 36 = .ok (.iload_n 0, 1) := by decide +kernel
theorem dX11_carry_37 : decode cX11_carry 37 = .ok (.bipush 6, 2) := by decide +kernel
theorem dX11_carry_39 : decode cX11_carry 39 = .ok (.if_icmp .ne 7, 3) := by decide +kernel
theorem dX11_carry_42 : decode cX11_carry 42 = .ok (.iload_n 2, 1) := by decide +kernel
theorem dX11_carry_43 : decode cX11_carry 43 = .ok (.ifCond .eq 16, 3) := by decide +kernel
theorem dX11_carry_46 : decode cX11_carry 46 = .ok (.iload_n 0, 1) := by decide +kernel
theorem dX11_carry_47 : decode cX11_carry 47 = .ok (.bipush 7, 2) := by decide +kernel
theorem dX11_carry_49 : decode cX11_carry 49 = .ok (.if_icmp .ne 14, 3) := by decide +kernel
theorem dX11_carry_52 : decode cX11_carry 52 = .ok (.iload_n 2, 1) := by decide +kernel
theorem dX11_carry_53 : decode cX11_carry 53 = .ok (.iconst 2, 1) := by decide +kernel
theorem dX11_carry_54 : decode cX11_carry 54 = .ok (.irem, 1) := by decide +kernel
theorem dX11_carry_55 : decode cX11_carry 55 = .ok (.iconst 1, 1) := by decide +kernel
theorem dX11_carry_56 : decode cX11_carry 56 = .ok (.if_icmp .ne 7, 3) := by decide +kernel
theorem dX11_carry_59 : decode cX11_carry 59 = .ok (.iconst 1, 1) := by decide +kernel
theorem dX11_carry_60 : decode cX11_carry 60 = .ok (.goto 4, 3) := by decide +kernel
theorem dX11_carry_63 : decode cX11_carry 63 = .ok (.iconst 0, 1) := by decide +kernel
theorem dX11_carry_64 : decode cX11_carry 64 = .ok (.istore_n 3, 1) := by decide +kernel
theorem dX11_carry_65 : decode cX11_carry 65 = .ok (.iload_n 3, 1) := by decide +kernel
theorem dX11_carry_66 : decode cX11_carry 66 = .ok (.ifCond .eq 7, 3) := by decide +kernel
theorem dX11_carry_69 : decode cX11_carry 69 = .ok (.iconst 1, 1) := by decide +kernel
theorem dX11_carry_70 : decode cX11_carry 70 = .ok (.goto 4, 3) := by decide +kernel
theorem dX11_carry_73 : decode cX11_carry 73 = .ok (.iconst 0, 1) := by decide +kernel
theorem dX11_carry_74 : decode cX11_carry 74 = .ok (.ireturn, 1) := by decide +kernel
theorem dX11_finds_0 : decode cX11_finds 0 = .ok (.aload_n 0, 1) := by decide +kernel
theorem dX11_finds_1 : decode cX11_finds 1 = .ok (.getfield 154, 3) := by decide +kernel
theorem dX11_finds_4 : decode cX11_finds 4 = .ok (.ifCond .ne 4, 3) := by decide +kernel
theorem dX11_finds_7 : decode cX11_finds 7 = .ok (.return_, 1) := by decide +kernel
theorem dX11_finds_8 : decode cX11_finds 8 = .ok (.aload_n 0, 1) := by decide +kernel
theorem dX11_finds_9 : decode cX11_finds 9 = .ok (.iconst 0, 1) := by decide +kernel
theorem dX11_finds_10 : decode cX11_finds 10 = .ok (.putfield 154, 3) := by decide +kernel
theorem dX11_finds_13 : decode cX11_finds 13 = .ok (.aload_n 0, 1) := by decide +kernel
theorem dX11_finds_14 : decode cX11_finds 14 = .ok (.getfield 54, 3) := by decide +kernel
theorem dX11_finds_17 : decode cX11_finds 17 = .ok (.iconst 5, 1) := by decide +kernel
theorem dX11_finds_18 : decode cX11_finds 18 = .ok (.aload_n 0, 1) := by decide +kernel
theorem dX11_finds_19 : decode cX11_finds 19 = .ok (.getfield 188, 3) := by decide +kernel
theorem dX11_finds_22 : decode cX11_finds 22 = .ok (.aload_n 0, 1) := by decide +kernel
theorem dX11_finds_23 : decode cX11_finds 23 = .ok (.getfield 191, 3) := by decide +kernel
theorem dX11_finds_26 : decode cX11_finds 26 = .ok (.aload_n 0, 1) := by decide +kernel
theorem dX11_finds_27 : decode cX11_finds 27 = .ok (.getfield 194, 3) := by decide +kernel
theorem dX11_finds_30 : decode cX11_finds 30 = .ok (.invokestatic 197, 3) := by decide +kernel
theorem dX11_finds_33 : decode cX11_finds 33 = .ok (.ifCond .ne 7, 3) := by decide +kernel
theorem dX11_finds_36 : decode cX11_finds 36 = .ok (.iconst 1, 1) := by decide +kernel
theorem dX11_finds_37 : decode cX11_finds 37 = .ok (.goto 4, 3) := by decide +kernel
theorem dX11_finds_40 : decode cX11_finds 40 = .ok (.iconst 0, 1) := by decide +kernel
theorem dX11_finds_41 : decode cX11_finds 41 = .ok (.iastore, 1) := by decide +kernel
theorem dX11_finds_42 : decode cX11_finds 42 = .ok (.aload_n 0, 1) := by decide +kernel
theorem dX11_finds_43 : decode cX11_finds 43 = .ok (.getfield 54, 3) := by decide +kernel
theorem dX11_finds_46 : decode cX11_finds 46 = .ok (.bipush 6, 2) := by decide +kernel
theorem dX11_finds_48 : decode cX11_finds 48 = .ok (.aload_n 0, 1) := by decide +kernel
theorem dX11_finds_49 : decode cX11_finds 49 = .ok (.getfield 188, 3) := by decide +kernel
theorem dX11_finds_52 : decode cX11_finds 52 = .ok (.aload_n 0, 1) := by decide +kernel
theorem dX11_finds_53 : decode cX11_finds 53 = .ok (.getfield 191, 3) := by decide +kernel
theorem dX11_finds_56 : decode cX11_finds 56 = .ok (.aload_n 0, 1) := by decide +kernel
theorem dX11_finds_57 : decode cX11_finds 57 = .ok (.getfield 194, 3) := by decide +kernel
theorem dX11_finds_60 : decode cX11_finds 60 = .ok (.invokestatic 201, 3) := by decide +kernel
theorem dX11_finds_63 : decode cX11_finds 63 = .ok (.iastore, 1) := by decide +kernel
theorem dX11_finds_64 : decode cX11_finds 64 = .ok (.aload_n 0, 1) := by decide +kernel
theorem dX11_finds_65 : decode cX11_finds 65 = .ok (.dup, 1) := by decide +kernel
theorem dX11_finds_66 : decode cX11_finds 66 = .ok (.getfield 204, 3) := by decide +kernel
theorem dX11_finds_69 : decode cX11_finds 69 = .ok (.iconst 1, 1) := by decide +kernel
theorem dX11_finds_70 : decode cX11_finds 70 = .ok (.iadd, 1) := by decide +kernel
theorem dX11_finds_71 : decode cX11_finds 71 = .ok (.putfield 204, 3) := by decide +kernel
theorem dX11_finds_74 : decode cX11_finds 74 = .ok (.return_, 1) := by decide +kernel
theorem dX11_registerOf_0 : decode cX11_registerOf 0 = .ok (.iload_n 1, 1) := by decide +kernel
theorem dX11_registerOf_1 : decode cX11_registerOf 1 = .ok (.ifCond .ne 7, 3) := by decide +kernel
theorem dX11_registerOf_4 : decode cX11_registerOf 4 = .ok (.iconst 1, 1) := by decide +kernel
theorem dX11_registerOf_5 : decode cX11_registerOf 5 = .ok (.goto 4, 3) := by decide +kernel
theorem dX11_registerOf_8 : decode cX11_registerOf 8 = .ok (.iconst 0, 1) := by decide +kernel
theorem dX11_registerOf_9 : decode cX11_registerOf 9 = .ok (.aload_n 0, 1) := by decide +kernel
theorem dX11_registerOf_10 : decode cX11_registerOf 10 = .ok (.getfield 54, 3) := by decide +kernel
theorem dX11_registerOf_13 : decode cX11_registerOf 13 = .ok (.bipush 15, 2) := by decide +kernel
theorem dX11_registerOf_15 : decode cX11_registerOf 15 = .ok (.iaload, 1) := by decide +kernel
theorem dX11_registerOf_16 : decode cX11_registerOf 16 = .ok (.ifCond .ne 7, 3) := by decide +kernel
theorem dX11_registerOf_19 : decode cX11_registerOf 19 = .ok (.iconst 1, 1) := by decide +kernel
theorem dX11_registerOf_20 : decode cX11_registerOf 20 = .ok (.goto 4, 3) := by decide +kernel
theorem dX11_registerOf_23 : decode cX11_registerOf 23 = .ok (.iconst 0, 1) := by decide +kernel
theorem dX11_registerOf_24 : decode cX11_registerOf 24 = .ok (.if_icmp .ne 7, 3) := by decide +kernel
theorem dX11_registerOf_27 : decode cX11_registerOf 27 = .ok (.iconst 1, 1) := by decide +kernel
theorem dX11_registerOf_28 : decode cX11_registerOf 28 = .ok (.goto 4, 3) := by decide +kernel
theorem dX11_registerOf_31 : decode cX11_registerOf 31 = .ok (.iconst 0, 1) := by decide +kernel
theorem dX11_registerOf_32 : decode cX11_registerOf 32 = .ok (.istore_n 2, 1) := by decide +kernel
theorem dX11_registerOf_33 : decode cX11_registerOf 33 = .ok (.iload_n 2, 1) := by decide +kernel
theorem dX11_registerOf_34 : decode cX11_registerOf 34 = .ok (.ifCond .eq 15, 3) := by decide +kernel
theorem dX11_registerOf_37 : decode cX11_registerOf 37 = .ok (.aload_n 0, 1) := by decide +kernel
theorem dX11_registerOf_38 : decode cX11_registerOf 38 = .ok (.getfield 54, 3) := by decide +kernel
theorem dX11_registerOf_41 : decode cX11_registerOf 41 = .ok (.bipush 14, 2) := by decide +kernel
theorem dX11_registerOf_43 : decode cX11_registerOf 43 = .ok (.iaload, 1) := by decide +kernel
theorem dX11_registerOf_44 : decode cX11_registerOf 44 = .ok (.iconst 4, 1) := by decide +kernel
theorem dX11_registerOf_45 : decode cX11_registerOf 45 = .ok (.irem, 1) := by decide +kernel
theorem dX11_registerOf_46 : decode cX11_registerOf 46 = .ok (.goto 14, 3) := by decide +kernel
theorem dX11_registerOf_49 : decode cX11_registerOf 49 = .ok (.aload_n 0, 1) := by decide +kernel
theorem dX11_registerOf_50 : decode cX11_registerOf 50 = .ok (.getfield 54, 3) := by decide +kernel
theorem dX11_registerOf_53 : decode cX11_registerOf 53 = .ok (.bipush 14, 2) := by decide +kernel
theorem dX11_registerOf_55 : decode cX11_registerOf 55 = .ok (.iaload, 1) := by decide +kernel
theorem dX11_registerOf_56 : decode cX11_registerOf 56 = .ok (.iconst 4, 1) := by decide +kernel
theorem dX11_registerOf_57 : decode cX11_registerOf 57 = .ok (.idiv, 1) := by decide +kernel
theorem dX11_registerOf_58 : decode cX11_registerOf 58 = .ok (.iconst 4, 1) := by decide +kernel
theorem dX11_registerOf_59 : decode cX11_registerOf 59 = .ok (.irem, 1) := by decide +kernel
theorem dX11_registerOf_60 : decode cX11_registerOf 60 = .ok (.ireturn, 1) := by decide +kernel
theorem dX11_drives_0 : decode cX11_drives 0 = .ok (.sipush 255, 3) := by decide +kernel
theorem dX11_drives_3 : decode cX11_drives 3 = .ok (.istore_n 2, 1) := by decide +kernel
theorem dX11_drives_4 : decode cX11_drives 4 = .ok (.iconst 0, 1) := by decide +kernel
theorem dX11_drives_5 : decode cX11_drives 5 = .ok (.istore_n 3, 1) := by decide +kernel
theorem dX11_drives_6 : decode cX11_drives 6 = .ok (.bipush 7, 2) := by decide +kernel
theorem dX11_drives_8 : decode cX11_drives 8 = .ok (.newarray .int, 2) := by decide +kernel
theorem dX11_drives_10 : decode cX11_drives 10 = .ok (.astore 4, 2) := by decide +kernel
theorem dX11_drives_12 : decode cX11_drives 12 = .ok (.aload 4, 2) := by decide +kernel
theorem dX11_drives_14 : decode cX11_drives 14 = .ok (.iconst 0, 1) := by decide +kernel
theorem dX11_drives_15 : decode cX11_drives 15 = .ok (.aload_n 0, 1) := by decide +kernel
theorem dX11_drives_16 : decode cX11_drives 16 = .ok (.getfield 54, 3) := by decide +kernel
theorem dX11_drives_19 : decode cX11_drives 19 = .ok (.bipush 10, 2) := by decide +kernel
theorem dX11_drives_21 : decode cX11_drives 21 = .ok (.iaload, 1) := by decide +kernel
theorem dX11_drives_22 : decode cX11_drives 22 = .ok (.iastore, 1) := by decide +kernel
theorem dX11_drives_23 : decode cX11_drives 23 = .ok (.aload 4, 2) := by decide +kernel
theorem dX11_drives_25 : decode cX11_drives 25 = .ok (.iconst 1, 1) := by decide +kernel
theorem dX11_drives_26 : decode cX11_drives 26 = .ok (.aload_n 0, 1) := by decide +kernel
theorem dX11_drives_27 : decode cX11_drives 27 = .ok (.getfield 54, 3) := by decide +kernel
theorem dX11_drives_30 : decode cX11_drives 30 = .ok (.bipush 11, 2) := by decide +kernel
theorem dX11_drives_32 : decode cX11_drives 32 = .ok (.iaload, 1) := by decide +kernel
theorem dX11_drives_33 : decode cX11_drives 33 = .ok (.iastore, 1) := by decide +kernel
theorem dX11_drives_34 : decode cX11_drives 34 = .ok (.aload 4, 2) := by decide +kernel
theorem dX11_drives_36 : decode cX11_drives 36 = .ok (.iconst 2, 1) := by decide +kernel
theorem dX11_drives_37 : decode cX11_drives 37 = .ok (.aload_n 0, 1) := by decide +kernel
theorem dX11_drives_38 : decode cX11_drives 38 = .ok (.getfield 54, 3) := by decide +kernel
theorem dX11_drives_41 : decode cX11_drives 41 = .ok (.bipush 13, 2) := by decide +kernel
theorem dX11_drives_43 : decode cX11_drives 43 = .ok (.iaload, 1) := by decide +kernel
theorem dX11_drives_44 : decode cX11_drives 44 = .ok (.iastore, 1) := by decide +kernel
theorem dX11_drives_45 : decode cX11_drives 45 = .ok (.aload 4, 2) := by decide +kernel
theorem dX11_drives_47 : decode cX11_drives 47 = .ok (.iconst 3, 1) := by decide +kernel
theorem dX11_drives_48 : decode cX11_drives 48 = .ok (.aload_n 0, 1) := by decide +kernel
theorem dX11_drives_49 : decode cX11_drives 49 = .ok (.getfield 54, 3) := by decide +kernel
theorem dX11_drives_52 : decode cX11_drives 52 = .ok (.iconst 4, 1) := by decide +kernel
theorem dX11_drives_53 : decode cX11_drives 53 = .ok (.iaload, 1) := by decide +kernel
theorem dX11_drives_54 : decode cX11_drives 54 = .ok (.iastore, 1) := by decide +kernel
theorem dX11_drives_55 : decode cX11_drives 55 = .ok (.aload 4, 2) := by decide +kernel
theorem dX11_drives_57 : decode cX11_drives 57 = .ok (.iconst 4, 1) := by decide +kernel
theorem dX11_drives_58 : decode cX11_drives 58 = .ok (.aload_n 0, 1) := by decide +kernel
theorem dX11_drives_59 : decode cX11_drives 59 = .ok (.getfield 54, 3) := by decide +kernel
theorem dX11_drives_62 : decode cX11_drives 62 = .ok (.aload_n 0, 1) := by decide +kernel
theorem dX11_drives_63 : decode cX11_drives 63 = .ok (.iconst 0, 1) := by decide +kernel
theorem dX11_drives_64 : decode cX11_drives 64 = .ok (.invokevirtual 207, 3) := by decide +kernel
theorem dX11_drives_67 : decode cX11_drives 67 = .ok (.iaload, 1) := by decide +kernel
theorem dX11_drives_68 : decode cX11_drives 68 = .ok (.iastore, 1) := by decide +kernel
theorem dX11_drives_69 : decode cX11_drives 69 = .ok (.aload 4, 2) := by decide +kernel
theorem dX11_drives_71 : decode cX11_drives 71 = .ok (.iconst 5, 1) := by decide +kernel
theorem dX11_drives_72 : decode cX11_drives 72 = .ok (.aload_n 0, 1) := by decide +kernel
theorem dX11_drives_73 : decode cX11_drives 73 = .ok (.getfield 54, 3) := by decide +kernel
theorem dX11_drives_76 : decode cX11_drives 76 = .ok (.aload_n 0, 1) := by decide +kernel
theorem dX11_drives_77 : decode cX11_drives 77 = .ok (.iconst 1, 1) := by decide +kernel
theorem dX11_drives_78 : decode cX11_drives 78 = .ok (.invokevirtual 207, 3) := by decide +kernel
theorem dX11_drives_81 : decode cX11_drives 81 = .ok (.iaload, 1) := by decide +kernel
theorem dX11_drives_82 : decode cX11_drives 82 = .ok (.iastore, 1) := by decide +kernel
theorem dX11_drives_83 : decode cX11_drives 83 = .ok (.aload 4, 2) := by decide +kernel
theorem dX11_drives_85 : decode cX11_drives 85 = .ok (.bipush 6, 2) := by decide +kernel
theorem dX11_drives_87 : decode cX11_drives 87 = .ok (.aload_n 0, 1) := by decide +kernel
theorem dX11_drives_88 : decode cX11_drives 88 = .ok (.getfield 28, 3) := by decide +kernel
theorem dX11_drives_91 : decode cX11_drives 91 = .ok (.iload_n 1, 1) := by decide +kernel
theorem dX11_drives_92 : decode cX11_drives 92 = .ok (.iaload, 1) := by decide +kernel
theorem dX11_drives_93 : decode cX11_drives 93 = .ok (.iastore, 1) := by decide +kernel
theorem dX11_drives_94 : decode cX11_drives 94 = .ok (.iconst 0, 1) := by decide +kernel
theorem dX11_drives_95 : decode cX11_drives 95 = .ok (.istore 5, 2) := by decide +kernel
theorem dX11_drives_97 : decode cX11_drives 97 = .ok (.iload 5, 2) := by decide +kernel
theorem dX11_drives_99 : decode cX11_drives 99 = .ok (.bipush 7, 2) := by decide +kernel
theorem dX11_drives_101 : decode cX11_drives 101 = .ok (.if_icmp .ge 37, 3) := by decide +kernel
theorem dX11_drives_104 : decode cX11_drives 104 = .ok (.aload_n 0, 1) := by decide +kernel
theorem dX11_drives_105 : decode cX11_drives 105 = .ok (.getfield 7, 3) := by decide +kernel
theorem dX11_drives_108 : decode cX11_drives 108 = .ok (.iload_n 1, 1) := by decide +kernel
theorem dX11_drives_109 : decode cX11_drives 109 = .ok (.iaload, 1) := by decide +kernel
theorem dX11_drives_110 : decode cX11_drives 110 = .ok (.iload 5, 2) := by decide +kernel
theorem dX11_drives_112 : decode cX11_drives 112 = .ok (.ishr, 1) := by decide +kernel
theorem dX11_drives_113 : decode cX11_drives 113 = .ok (.iconst 1, 1) := by decide +kernel
theorem dX11_drives_114 : decode cX11_drives 114 = .ok (.iand, 1) := by decide +kernel
theorem dX11_drives_115 : decode cX11_drives 115 = .ok (.ifCond .ne 6, 3) := by decide +kernel
theorem dX11_drives_118 : decode cX11_drives 118 = .ok (.goto 14, 3) := by decide +kernel
theorem dX11_drives_121 : decode cX11_drives 121 = .ok (.iload_n 2, 1) := by decide +kernel
theorem dX11_drives_122 : decode cX11_drives 122 = .ok (.aload 4, 2) := by decide +kernel
theorem dX11_drives_124 : decode cX11_drives 124 = .ok (.iload 5, 2) := by decide +kernel
theorem dX11_drives_126 : decode cX11_drives 126 = .ok (.iaload, 1) := by decide +kernel
theorem dX11_drives_127 : decode cX11_drives 127 = .ok (.iand, 1) := by decide +kernel
theorem dX11_drives_128 : decode cX11_drives 128 = .ok (.istore_n 2, 1) := by decide +kernel
theorem dX11_drives_129 : decode cX11_drives 129 = .ok (.iinc 3 1, 3) := by decide +kernel
theorem dX11_drives_132 : decode cX11_drives 132 = .ok (.iinc 5 1, 3) := by decide +kernel
theorem dX11_drives_135 : decode cX11_drives 135 = .ok (.goto (-38), 3) := by decide +kernel
theorem dX11_drives_138 : decode cX11_drives 138 = .ok (.aload_n 0, 1) := by decide +kernel
theorem dX11_drives_139 : decode cX11_drives 139 = .ok (.dup, 1) := by decide +kernel
theorem dX11_drives_140 : decode cX11_drives 140 = .ok (.getfield 210, 3) := by decide +kernel
theorem dX11_drives_143 : decode cX11_drives 143 = .ok (.iload_n 3, 1) := by decide +kernel
theorem dX11_drives_144 : decode cX11_drives 144 = .ok (.iconst 1, 1) := by decide +kernel
theorem dX11_drives_145 : decode cX11_drives 145 = .ok (.if_icmp .le 7, 3) := by decide +kernel
theorem dX11_drives_148 : decode cX11_drives 148 = .ok (.iconst 1, 1) := by decide +kernel
theorem dX11_drives_149 : decode cX11_drives 149 = .ok (.goto 4, 3) := by decide +kernel
theorem dX11_drives_152 : decode cX11_drives 152 = .ok (.iconst 0, 1) := by decide +kernel
theorem dX11_drives_153 : decode cX11_drives 153 = .ok (.iadd, 1) := by decide +kernel
theorem dX11_drives_154 : decode cX11_drives 154 = .ok (.putfield 210, 3) := by decide +kernel
theorem dX11_drives_157 : decode cX11_drives 157 = .ok (.iload_n 3, 1) := by decide +kernel
theorem dX11_drives_158 : decode cX11_drives 158 = .ok (.ifCond .ne 7, 3) := by decide +kernel
theorem dX11_drives_161 : decode cX11_drives 161 = .ok (.iconst 0, 1) := by decide +kernel
theorem dX11_drives_162 : decode cX11_drives 162 = .ok (.goto 4, 3) := by decide +kernel
theorem dX11_drives_165 : decode cX11_drives 165 = .ok (.iload_n 2, 1) := by decide +kernel
theorem dX11_drives_166 : decode cX11_drives 166 = .ok (.ireturn, 1) := by decide +kernel
theorem dX11_listens_0 : decode cX11_listens 0 = .ok (.aload_n 0, 1) := by decide +kernel
theorem dX11_listens_1 : decode cX11_listens 1 = .ok (.iconst 0, 1) := by decide +kernel
theorem dX11_listens_2 : decode cX11_listens 2 = .ok (.invokevirtual 207, 3) := by decide +kernel
theorem dX11_listens_5 : decode cX11_listens 5 = .ok (.istore_n 3, 1) := by decide +kernel
theorem dX11_listens_6 : decode cX11_listens 6 = .ok (.aload_n 0, 1) := by decide +kernel
theorem dX11_listens_7 : decode cX11_listens 7 = .ok (.iconst 1, 1) := by decide +kernel
theorem dX11_listens_8 : decode cX11_listens 8 = .ok (.invokevirtual 207, 3) := by decide +kernel
theorem dX11_listens_11 : decode cX11_listens 11 = .ok (.istore 4, 2) := by decide +kernel
theorem dX11_listens_13 : decode cX11_listens 13 = .ok (.aload_n 0, 1) := by decide +kernel
theorem dX11_listens_14 : decode cX11_listens 14 = .ok (.getfield 16, 3) := by decide +kernel
theorem dX11_listens_17 : decode cX11_listens 17 = .ok (.iload_n 1, 1) := by decide +kernel
theorem dX11_listens_18 : decode cX11_listens 18 = .ok (.iaload, 1) := by decide +kernel
theorem dX11_listens_19 : decode cX11_listens 19 = .ok (.istore 5, 2) := by decide +kernel
theorem dX11_listens_21 : decode cX11_listens 21 = .ok (.iload 5, 2) := by decide +kernel
theorem dX11_listens_23 : decode cX11_listens 23 = .ok (.iconst 1, 1) := by decide +kernel
theorem dX11_listens_24 : decode cX11_listens 24 = .ok (.iand, 1) := by decide +kernel
theorem dX11_listens_25 : decode cX11_listens 25 = .ok (.ifCond .eq 11, 3) := by decide +kernel
theorem dX11_listens_28 : decode cX11_listens 28 = .ok (.aload_n 0, 1) := by decide +kernel
theorem dX11_listens_29 : decode cX11_listens 29 = .ok (.getfield 54, 3) := by decide +kernel
theorem dX11_listens_32 : decode cX11_listens 32 = .ok (.bipush 10, 2) := by decide +kernel
theorem dX11_listens_34 : decode cX11_listens 34 = .ok (.iload_n 2, 1) := by decide +kernel
theorem dX11_listens_35 : decode cX11_listens 35 = .ok (.iastore, 1) := by decide +kernel
theorem dX11_listens_36 : decode cX11_listens 36 = .ok (.iload 5, 2) := by decide +kernel
theorem dX11_listens_38 : decode cX11_listens 38 = .ok (.iconst 2, 1) := by decide +kernel
theorem dX11_listens_39 : decode cX11_listens 39 = .ok (.iand, 1) := by decide +kernel
theorem dX11_listens_40 : decode cX11_listens 40 = .ok (.ifCond .eq 11, 3) := by decide +kernel
theorem dX11_listens_43 : decode cX11_listens 43 = .ok (.aload_n 0, 1) := by decide +kernel
theorem dX11_listens_44 : decode cX11_listens 44 = .ok (.getfield 54, 3) := by decide +kernel
theorem dX11_listens_47 : decode cX11_listens 47 = .ok (.bipush 11, 2) := by decide +kernel
theorem dX11_listens_49 : decode cX11_listens 49 = .ok (.iload_n 2, 1) := by decide +kernel
theorem dX11_listens_50 : decode cX11_listens 50 = .ok (.iastore, 1) := by decide +kernel
theorem dX11_listens_51 : decode cX11_listens 51 = .ok (.iload 5, 2) := by decide +kernel
theorem dX11_listens_53 : decode cX11_listens 53 = .ok (.iconst 4, 1) := by decide +kernel
theorem dX11_listens_54 : decode cX11_listens 54 = .ok (.iand, 1) := by decide +kernel
theorem dX11_listens_55 : decode cX11_listens 55 = .ok (.ifCond .eq 14, 3) := by decide +kernel
theorem dX11_listens_58 : decode cX11_listens 58 = .ok (.aload_n 0, 1) := by decide +kernel
theorem dX11_listens_59 : decode cX11_listens 59 = .ok (.getfield 54, 3) := by decide +kernel
theorem dX11_listens_62 : decode cX11_listens 62 = .ok (.bipush 12, 2) := by decide +kernel
theorem dX11_listens_64 : decode cX11_listens 64 = .ok (.iload_n 2, 1) := by decide +kernel
theorem dX11_listens_65 : decode cX11_listens 65 = .ok (.bipush 64, 2) := by decide +kernel
theorem dX11_listens_67 : decode cX11_listens 67 = .ok (.irem, 1) := by decide +kernel
theorem dX11_listens_68 : decode cX11_listens 68 = .ok (.iastore, 1) := by decide +kernel
theorem dX11_listens_69 : decode cX11_listens 69 = .ok (.iload 5, 2) := by decide +kernel
theorem dX11_listens_71 : decode cX11_listens 71 = .ok (.bipush 8, 2) := by decide +kernel
theorem dX11_listens_73 : decode cX11_listens 73 = .ok (.iand, 1) := by decide +kernel
theorem dX11_listens_74 : decode cX11_listens 74 = .ok (.ifCond .eq 11, 3) := by decide +kernel
theorem dX11_listens_77 : decode cX11_listens 77 = .ok (.aload_n 0, 1) := by decide +kernel
theorem dX11_listens_78 : decode cX11_listens 78 = .ok (.getfield 54, 3) := by decide +kernel
theorem dX11_listens_81 : decode cX11_listens 81 = .ok (.bipush 13, 2) := by decide +kernel
theorem dX11_listens_83 : decode cX11_listens 83 = .ok (.iload_n 2, 1) := by decide +kernel
theorem dX11_listens_84 : decode cX11_listens 84 = .ok (.iastore, 1) := by decide +kernel
theorem dX11_listens_85 : decode cX11_listens 85 = .ok (.iload 5, 2) := by decide +kernel
theorem dX11_listens_87 : decode cX11_listens 87 = .ok (.bipush 16, 2) := by decide +kernel
theorem dX11_listens_89 : decode cX11_listens 89 = .ok (.iand, 1) := by decide +kernel
theorem dX11_listens_90 : decode cX11_listens 90 = .ok (.ifCond .eq 13, 3) := by decide +kernel
theorem dX11_listens_93 : decode cX11_listens 93 = .ok (.aload_n 0, 1) := by decide +kernel
theorem dX11_listens_94 : decode cX11_listens 94 = .ok (.getfield 54, 3) := by decide +kernel
theorem dX11_listens_97 : decode cX11_listens 97 = .ok (.iconst 4, 1) := by decide +kernel
theorem dX11_listens_98 : decode cX11_listens 98 = .ok (.iload_n 2, 1) := by decide +kernel
theorem dX11_listens_99 : decode cX11_listens 99 = .ok (.bipush 64, 2) := by decide +kernel
theorem dX11_listens_101 : decode cX11_listens 101 = .ok (.irem, 1) := by decide +kernel
theorem dX11_listens_102 : decode cX11_listens 102 = .ok (.iastore, 1) := by decide +kernel
theorem dX11_listens_103 : decode cX11_listens 103 = .ok (.iload 5, 2) := by decide +kernel
theorem dX11_listens_105 : decode cX11_listens 105 = .ok (.bipush 32, 2) := by decide +kernel
theorem dX11_listens_107 : decode cX11_listens 107 = .ok (.iand, 1) := by decide +kernel
theorem dX11_listens_108 : decode cX11_listens 108 = .ok (.ifCond .eq 10, 3) := by decide +kernel
theorem dX11_listens_111 : decode cX11_listens 111 = .ok (.aload_n 0, 1) := by decide +kernel
theorem dX11_listens_112 : decode cX11_listens 112 = .ok (.getfield 54, 3) := by decide +kernel
theorem dX11_listens_115 : decode cX11_listens 115 = .ok (.iload_n 3, 1) := by decide +kernel
theorem dX11_listens_116 : decode cX11_listens 116 = .ok (.iload_n 2, 1) := by decide +kernel
theorem dX11_listens_117 : decode cX11_listens 117 = .ok (.iastore, 1) := by decide +kernel
theorem dX11_listens_118 : decode cX11_listens 118 = .ok (.iload 5, 2) := by decide +kernel
theorem dX11_listens_120 : decode cX11_listens 120 = .ok (.bipush 64, 2) := by decide +kernel
theorem dX11_listens_122 : decode cX11_listens 122 = .ok (.iand, 1) := by decide +kernel
theorem dX11_listens_123 : decode cX11_listens 123 = .ok (.ifCond .eq 11, 3) := by decide +kernel
theorem dX11_listens_126 : decode cX11_listens 126 = .ok (.aload_n 0, 1) := by decide +kernel
theorem dX11_listens_127 : decode cX11_listens 127 = .ok (.getfield 54, 3) := by decide +kernel
theorem dX11_listens_130 : decode cX11_listens 130 = .ok (.iload 4, 2) := by decide +kernel
theorem dX11_listens_132 : decode cX11_listens 132 = .ok (.iload_n 2, 1) := by decide +kernel
theorem dX11_listens_133 : decode cX11_listens 133 = .ok (.iastore, 1) := by decide +kernel
theorem dX11_listens_134 : decode cX11_listens 134 = .ok (.iload 5, 2) := by decide +kernel
theorem dX11_listens_136 : decode cX11_listens 136 = .ok (.sipush 128, 3) := by decide +kernel
theorem dX11_listens_139 : decode cX11_listens 139 = .ok (.iand, 1) := by decide +kernel
theorem dX11_listens_140 : decode cX11_listens 140 = .ok (.ifCond .eq 11, 3) := by decide +kernel
theorem dX11_listens_143 : decode cX11_listens 143 = .ok (.aload_n 0, 1) := by decide +kernel
theorem dX11_listens_144 : decode cX11_listens 144 = .ok (.getfield 54, 3) := by decide +kernel
theorem dX11_listens_147 : decode cX11_listens 147 = .ok (.bipush 14, 2) := by decide +kernel
theorem dX11_listens_149 : decode cX11_listens 149 = .ok (.iload_n 2, 1) := by decide +kernel
theorem dX11_listens_150 : decode cX11_listens 150 = .ok (.iastore, 1) := by decide +kernel
theorem dX11_listens_151 : decode cX11_listens 151 = .ok (.return_, 1) := by decide +kernel
theorem dX11_bits_0 : decode cX11_bits 0 = .ok (.aload_n 0, 1) := by decide +kernel
theorem dX11_bits_1 : decode cX11_bits 1 = .ok (.getfield 25, 3) := by decide +kernel
theorem dX11_bits_4 : decode cX11_bits 4 = .ok (.iload_n 1, 1) := by decide +kernel
theorem dX11_bits_5 : decode cX11_bits 5 = .ok (.iaload, 1) := by decide +kernel
theorem dX11_bits_6 : decode cX11_bits 6 = .ok (.iconst 3, 1) := by decide +kernel
theorem dX11_bits_7 : decode cX11_bits 7 = .ok (.iand, 1) := by decide +kernel
theorem dX11_bits_8 : decode cX11_bits 8 = .ok (.ifCond .eq 7, 3) := by decide +kernel
theorem dX11_bits_11 : decode cX11_bits 11 = .ok (.aload_n 0, 1) := by decide +kernel
theorem dX11_bits_12 : decode cX11_bits 12 = .ok (.invokevirtual 160, 3) := by decide +kernel
theorem dX11_bits_15 : decode cX11_bits 15 = .ok (.aload_n 0, 1) := by decide +kernel
theorem dX11_bits_16 : decode cX11_bits 16 = .ok (.getfield 25, 3) := by decide +kernel
theorem dX11_bits_19 : decode cX11_bits 19 = .ok (.iload_n 1, 1) := by decide +kernel
theorem dX11_bits_20 : decode cX11_bits 20 = .ok (.iaload, 1) := by decide +kernel
theorem dX11_bits_21 : decode cX11_bits 21 = .ok (.iconst 1, 1) := by decide +kernel
theorem dX11_bits_22 : decode cX11_bits 22 = .ok (.iand, 1) := by decide +kernel
theorem dX11_bits_23 : decode cX11_bits 23 = .ok (.ifCond .eq 17, 3) := by decide +kernel
theorem dX11_bits_26 : decode cX11_bits 26 = .ok (.aload_n 0, 1) := by decide +kernel
theorem dX11_bits_27 : decode cX11_bits 27 = .ok (.getfield 54, 3) := by decide +kernel
theorem dX11_bits_30 : decode cX11_bits 30 = .ok (.iconst 5, 1) := by decide +kernel
theorem dX11_bits_31 : decode cX11_bits 31 = .ok (.iaload, 1) := by decide +kernel
theorem dX11_bits_32 : decode cX11_bits 32 = .ok (.iconst 1, 1) := by decide +kernel
theorem dX11_bits_33 : decode cX11_bits 33 = .ok (.if_icmp .ne 7, 3) := by decide +kernel
theorem dX11_bits_36 : decode cX11_bits 36 = .ok (.iconst 1, 1) := by decide +kernel
theorem dX11_bits_37 : decode cX11_bits 37 = .ok (.goto 4, 3) := by decide +kernel
theorem dX11_bits_40 : decode cX11_bits 40 = .ok (.iconst 0, 1) := by decide +kernel
theorem dX11_bits_41 : decode cX11_bits 41 = .ok (.istore_n 2, 1) := by decide +kernel
theorem dX11_bits_42 : decode cX11_bits 42 = .ok (.iload_n 2, 1) := by decide +kernel
theorem dX11_bits_43 : decode cX11_bits 43 = .ok (.aload_n 0, 1) := by decide +kernel
theorem dX11_bits_44 : decode cX11_bits 44 = .ok (.getfield 25, 3) := by decide +kernel
theorem dX11_bits_47 : decode cX11_bits 47 = .ok (.iload_n 1, 1) := by decide +kernel
theorem dX11_bits_48 : decode cX11_bits 48 = .ok (.iaload, 1) := by decide +kernel
theorem dX11_bits_49 : decode cX11_bits 49 = .ok (.iconst 2, 1) := by decide +kernel
theorem dX11_bits_50 : decode cX11_bits 50 = .ok (.iand, 1) := by decide +kernel
theorem dX11_bits_51 : decode cX11_bits 51 = .ok (.ifCond .eq 18, 3) := by decide +kernel
theorem dX11_bits_54 : decode cX11_bits 54 = .ok (.aload_n 0, 1) := by decide +kernel
theorem dX11_bits_55 : decode cX11_bits 55 = .ok (.getfield 54, 3) := by decide +kernel
theorem dX11_bits_58 : decode cX11_bits 58 = .ok (.bipush 6, 2) := by decide +kernel
theorem dX11_bits_60 : decode cX11_bits 60 = .ok (.iaload, 1) := by decide +kernel
theorem dX11_bits_61 : decode cX11_bits 61 = .ok (.iconst 1, 1) := by decide +kernel
theorem dX11_bits_62 : decode cX11_bits 62 = .ok (.if_icmp .ne 7, 3) := by decide +kernel
theorem dX11_bits_65 : decode cX11_bits 65 = .ok (.iconst 2, 1) := by decide +kernel
theorem dX11_bits_66 : decode cX11_bits 66 = .ok (.goto 4, 3) := by decide +kernel
theorem dX11_bits_69 : decode cX11_bits 69 = .ok (.iconst 0, 1) := by decide +kernel
theorem dX11_bits_70 : decode cX11_bits 70 = .ok (.ior, 1) := by decide +kernel
theorem dX11_bits_71 : decode cX11_bits 71 = .ok (.istore_n 2, 1) := by decide +kernel
theorem dX11_bits_72 : decode cX11_bits 72 = .ok (.iload_n 2, 1) := by decide +kernel
theorem dX11_bits_73 : decode cX11_bits 73 = .ok (.aload_n 0, 1) := by decide +kernel
theorem dX11_bits_74 : decode cX11_bits 74 = .ok (.getfield 25, 3) := by decide +kernel
theorem dX11_bits_77 : decode cX11_bits 77 = .ok (.iload_n 1, 1) := by decide +kernel
theorem dX11_bits_78 : decode cX11_bits 78 = .ok (.iaload, 1) := by decide +kernel
theorem dX11_bits_79 : decode cX11_bits 79 = .ok (.iconst 4, 1) := by decide +kernel
theorem dX11_bits_80 : decode cX11_bits 80 = .ok (.iand, 1) := by decide +kernel
theorem dX11_bits_81 : decode cX11_bits 81 = .ok (.ifCond .eq 25, 3) := by decide +kernel
theorem dX11_bits_84 : decode cX11_bits 84 = .ok (.aload_n 0, 1) := by decide +kernel
theorem dX11_bits_85 : decode cX11_bits 85 = .ok (.getfield 139, 3) := by decide +kernel
theorem dX11_bits_88 : decode cX11_bits 88 = .ok (.ifCond .eq 18, 3) := by decide +kernel
theorem dX11_bits_91 : decode cX11_bits 91 = .ok (.aload_n 0, 1) := by decide +kernel
theorem dX11_bits_92 : decode cX11_bits 92 = .ok (.getfield 54, 3) := by decide +kernel
theorem dX11_bits_95 : decode cX11_bits 95 = .ok (.bipush 8, 2) := by decide +kernel
theorem dX11_bits_97 : decode cX11_bits 97 = .ok (.iaload, 1) := by decide +kernel
theorem dX11_bits_98 : decode cX11_bits 98 = .ok (.iconst 1, 1) := by decide +kernel
theorem dX11_bits_99 : decode cX11_bits 99 = .ok (.if_icmp .ne 7, 3) := by decide +kernel
theorem dX11_bits_102 : decode cX11_bits 102 = .ok (.iconst 4, 1) := by decide +kernel
theorem dX11_bits_103 : decode cX11_bits 103 = .ok (.goto 4, 3) := by decide +kernel
theorem dX11_bits_106 : decode cX11_bits 106 = .ok (.iconst 0, 1) := by decide +kernel
theorem dX11_bits_107 : decode cX11_bits 107 = .ok (.ior, 1) := by decide +kernel
theorem dX11_bits_108 : decode cX11_bits 108 = .ok (.ireturn, 1) := by decide +kernel
theorem dX11_leads_0 : decode cX11_leads 0 = .ok (.aload_n 0, 1) := by decide +kernel
theorem dX11_leads_1 : decode cX11_leads 1 = .ok (.getfield 34, 3) := by decide +kernel
theorem dX11_leads_4 : decode cX11_leads 4 = .ok (.iload_n 1, 1) := by decide +kernel
theorem dX11_leads_5 : decode cX11_leads 5 = .ok (.caload, 1) := by decide +kernel
theorem dX11_leads_6 : decode cX11_leads 6 = .ok (.bipush 110, 2) := by decide +kernel
theorem dX11_leads_8 : decode cX11_leads 8 = .ok (.if_icmp .ne 10, 3) := by decide +kernel
theorem dX11_leads_11 : decode cX11_leads 11 = .ok (.aload_n 0, 1) := by decide +kernel
theorem dX11_leads_12 : decode cX11_leads 12 = .ok (.getfield 22, 3) := by decide +kernel
theorem dX11_leads_15 : decode cX11_leads 15 = .ok (.iload_n 1, 1) := by decide +kernel
theorem dX11_leads_16 : decode cX11_leads 16 = .ok (.iaload, 1) := by decide +kernel
theorem dX11_leads_17 : decode cX11_leads 17 = .ok (.ireturn, 1) := by decide +kernel
theorem dX11_leads_18 : decode cX11_leads 18 = .ok (.aload_n 0, 1) := by decide +kernel
theorem dX11_leads_19 : decode cX11_leads 19 = .ok (.getfield 34, 3) := by decide +kernel
theorem dX11_leads_22 : decode cX11_leads 22 = .ok (.iload_n 1, 1) := by decide +kernel
theorem dX11_leads_23 : decode cX11_leads 23 = .ok (.caload, 1) := by decide +kernel
theorem dX11_leads_24 : decode cX11_leads 24 = .ok (.bipush 111, 2) := by decide +kernel
theorem dX11_leads_26 : decode cX11_leads 26 = .ok (.if_icmp .ne 16, 3) := by decide +kernel
theorem dX11_leads_29 : decode cX11_leads 29 = .ok (.aload_n 0, 1) := by decide +kernel
theorem dX11_leads_30 : decode cX11_leads 30 = .ok (.getfield 22, 3) := by decide +kernel
theorem dX11_leads_33 : decode cX11_leads 33 = .ok (.iload_n 1, 1) := by decide +kernel
theorem dX11_leads_34 : decode cX11_leads 34 = .ok (.iaload, 1) := by decide +kernel
theorem dX11_leads_35 : decode cX11_leads 35 = .ok (.aload_n 0, 1) := by decide +kernel
theorem dX11_leads_36 : decode cX11_leads 36 = .ok (.iload_n 1, 1) := by decide +kernel
theorem dX11_leads_37 : decode cX11_leads 37 = .ok (.invokevirtual 213, 3) := by decide +kernel
theorem dX11_leads_40 : decode cX11_leads 40 = .ok (.ior, 1) := by decide +kernel
theorem dX11_leads_41 : decode cX11_leads 41 = .ok (.ireturn, 1) := by decide +kernel
theorem dX11_leads_42 : decode cX11_leads 42 = .ok (.aload_n 0, 1) := by decide +kernel
theorem dX11_leads_43 : decode cX11_leads 43 = .ok (.getfield 34, 3) := by decide +kernel
theorem dX11_leads_46 : decode cX11_leads 46 = .ok (.iload_n 1, 1) := by decide +kernel
theorem dX11_leads_47 : decode cX11_leads 47 = .ok (.caload, 1) := by decide +kernel
theorem dX11_leads_48 : decode cX11_leads 48 = .ok (.bipush 100, 2) := by decide +kernel
theorem dX11_leads_50 : decode cX11_leads 50 = .ok (.if_icmp .ne 30, 3) := by decide +kernel
theorem dX11_leads_53 : decode cX11_leads 53 = .ok (.aload_n 0, 1) := by decide +kernel
theorem dX11_leads_54 : decode cX11_leads 54 = .ok (.getfield 51, 3) := by decide +kernel
theorem dX11_leads_57 : decode cX11_leads 57 = .ok (.bipush 16, 2) := by decide +kernel
theorem dX11_leads_59 : decode cX11_leads 59 = .ok (.aload_n 0, 1) := by decide +kernel
theorem dX11_leads_60 : decode cX11_leads 60 = .ok (.getfield 54, 3) := by decide +kernel
theorem dX11_leads_63 : decode cX11_leads 63 = .ok (.bipush 7, 2) := by decide +kernel
theorem dX11_leads_65 : decode cX11_leads 65 = .ok (.iaload, 1) := by decide +kernel
theorem dX11_leads_66 : decode cX11_leads 66 = .ok (.imul, 1) := by decide +kernel
theorem dX11_leads_67 : decode cX11_leads 67 = .ok (.aload_n 0, 1) := by decide +kernel
theorem dX11_leads_68 : decode cX11_leads 68 = .ok (.getfield 54, 3) := by decide +kernel
theorem dX11_leads_71 : decode cX11_leads 71 = .ok (.bipush 14, 2) := by decide +kernel
theorem dX11_leads_73 : decode cX11_leads 73 = .ok (.iaload, 1) := by decide +kernel
theorem dX11_leads_74 : decode cX11_leads 74 = .ok (.bipush 16, 2) := by decide +kernel
theorem dX11_leads_76 : decode cX11_leads 76 = .ok (.idiv, 1) := by decide +kernel
theorem dX11_leads_77 : decode cX11_leads 77 = .ok (.iadd, 1) := by decide +kernel
theorem dX11_leads_78 : decode cX11_leads 78 = .ok (.iaload, 1) := by decide +kernel
theorem dX11_leads_79 : decode cX11_leads 79 = .ok (.ireturn, 1) := by decide +kernel
theorem dX11_leads_80 : decode cX11_leads 80 = .ok (.aload_n 0, 1) := by decide +kernel
theorem dX11_leads_81 : decode cX11_leads 81 = .ok (.getfield 34, 3) := by decide +kernel
theorem dX11_leads_84 : decode cX11_leads 84 = .ok (.iload_n 1, 1) := by decide +kernel
theorem dX11_leads_85 : decode cX11_leads 85 = .ok (.caload, 1) := by decide +kernel
theorem dX11_leads_86 : decode cX11_leads 86 = .ok (.bipush 99, 2) := by decide +kernel
theorem dX11_leads_88 : decode cX11_leads 88 = .ok (.if_icmp .ne 72, 3) := by decide +kernel
theorem dX11_leads_91 : decode cX11_leads 91 = .ok (.aload_n 0, 1) := by decide +kernel
theorem dX11_leads_92 : decode cX11_leads 92 = .ok (.getfield 151, 3) := by decide +kernel
theorem dX11_leads_95 : decode cX11_leads 95 = .ok (.iconst 4, 1) := by decide +kernel
theorem dX11_leads_96 : decode cX11_leads 96 = .ok (.if_icmp .ne 35, 3) := by decide +kernel
theorem dX11_leads_99 : decode cX11_leads 99 = .ok (.iconst 0, 1) := by decide +kernel
theorem dX11_leads_100 : decode cX11_leads 100 = .ok (.istore_n 2, 1) := by decide +kernel
theorem dX11_leads_101 : decode cX11_leads 101 = .ok (.iload_n 2, 1) := by decide +kernel
theorem dX11_leads_102 : decode cX11_leads 102 = .ok (.iconst 3, 1) := by decide +kernel
theorem dX11_leads_103 : decode cX11_leads 103 = .ok (.if_icmp .ge 23, 3) := by decide +kernel
theorem dX11_leads_106 : decode cX11_leads 106 = .ok (.aload_n 0, 1) := by decide +kernel
theorem dX11_leads_107 : decode cX11_leads 107 = .ok (.getfield 66, 3) := by decide +kernel
theorem dX11_leads_110 : decode cX11_leads 110 = .ok (.iload_n 2, 1) := by decide +kernel
theorem dX11_leads_111 : decode cX11_leads 111 = .ok (.aload_n 0, 1) := by decide +kernel
theorem dX11_leads_112 : decode cX11_leads 112 = .ok (.getfield 66, 3) := by decide +kernel
theorem dX11_leads_115 : decode cX11_leads 115 = .ok (.iload_n 2, 1) := by decide +kernel
theorem dX11_leads_116 : decode cX11_leads 116 = .ok (.iconst 1, 1) := by decide +kernel
theorem dX11_leads_117 : decode cX11_leads 117 = .ok (.iadd, 1) := by decide +kernel
theorem dX11_leads_118 : decode cX11_leads 118 = .ok (.iaload, 1) := by decide +kernel
theorem dX11_leads_119 : decode cX11_leads 119 = .ok (.iastore, 1) := by decide +kernel
theorem dX11_leads_120 : decode cX11_leads 120 = .ok (.iinc 2 1, 3) := by decide +kernel
theorem dX11_leads_123 : decode cX11_leads 123 = .ok (.goto (-22), 3) := by decide +kernel
theorem dX11_leads_126 : decode cX11_leads 126 = .ok (.aload_n 0, 1) := by decide +kernel
theorem dX11_leads_127 : decode cX11_leads 127 = .ok (.iconst 3, 1) := by decide +kernel
theorem dX11_leads_128 : decode cX11_leads 128 = .ok (.putfield 151, 3) := by decide +kernel
theorem dX11_leads_131 : decode cX11_leads 131 = .ok (.aload_n 0, 1) := by decide +kernel
theorem dX11_leads_132 : decode cX11_leads 132 = .ok (.getfield 66, 3) := by decide +kernel
theorem dX11_leads_135 : decode cX11_leads 135 = .ok (.aload_n 0, 1) := by decide +kernel
theorem dX11_leads_136 : decode cX11_leads 136 = .ok (.getfield 151, 3) := by decide +kernel
theorem dX11_leads_139 : decode cX11_leads 139 = .ok (.iload_n 1, 1) := by decide +kernel
theorem dX11_leads_140 : decode cX11_leads 140 = .ok (.iconst 1, 1) := by decide +kernel
theorem dX11_leads_141 : decode cX11_leads 141 = .ok (.iadd, 1) := by decide +kernel
theorem dX11_leads_142 : decode cX11_leads 142 = .ok (.iastore, 1) := by decide +kernel
theorem dX11_leads_143 : decode cX11_leads 143 = .ok (.aload_n 0, 1) := by decide +kernel
theorem dX11_leads_144 : decode cX11_leads 144 = .ok (.dup, 1) := by decide +kernel
theorem dX11_leads_145 : decode cX11_leads 145 = .ok (.getfield 151, 3) := by decide +kernel
theorem dX11_leads_148 : decode cX11_leads 148 = .ok (.iconst 1, 1) := by decide +kernel
theorem dX11_leads_149 : decode cX11_leads 149 = .ok (.iadd, 1) := by decide +kernel
theorem dX11_leads_150 : decode cX11_leads 150 = .ok (.putfield 151, 3) := by decide +kernel
theorem dX11_leads_153 : decode cX11_leads 153 = .ok (.aload_n 0, 1) := by decide +kernel
theorem dX11_leads_154 : decode cX11_leads 154 = .ok (.getfield 22, 3) := by decide +kernel
theorem dX11_leads_157 : decode cX11_leads 157 = .ok (.iload_n 1, 1) := by decide +kernel
theorem dX11_leads_158 : decode cX11_leads 158 = .ok (.iaload, 1) := by decide +kernel
theorem dX11_leads_159 : decode cX11_leads 159 = .ok (.ireturn, 1) := by decide +kernel
theorem dX11_leads_160 : decode cX11_leads 160 = .ok (.aload_n 0, 1) := by decide +kernel
theorem dX11_leads_161 : decode cX11_leads 161 = .ok (.getfield 34, 3) := by decide +kernel
theorem dX11_leads_164 : decode cX11_leads 164 = .ok (.iload_n 1, 1) := by decide +kernel
theorem dX11_leads_165 : decode cX11_leads 165 = .ok (.caload, 1) := by decide +kernel
theorem dX11_leads_166 : decode cX11_leads 166 = .ok (.bipush 112, 2) := by decide +kernel
theorem dX11_leads_168 : decode cX11_leads 168 = .ok (.if_icmp .ne 21, 3) := by decide +kernel
theorem dX11_leads_171 : decode cX11_leads 171 = .ok (.aload_n 0, 1) := by decide +kernel
theorem dX11_leads_172 : decode cX11_leads 172 = .ok (.getfield 54, 3) := by decide +kernel
theorem dX11_leads_175 : decode cX11_leads 175 = .ok (.bipush 15, 2) := by decide +kernel
theorem dX11_leads_177 : decode cX11_leads 177 = .ok (.iconst 1, 1) := by decide +kernel
theorem dX11_leads_178 : decode cX11_leads 178 = .ok (.aload_n 0, 1) := by decide +kernel
theorem dX11_leads_179 : decode cX11_leads 179 = .ok (.getfield 54, 3) := by decide +kernel
theorem dX11_leads_182 : decode cX11_leads 182 = .ok (.bipush 15, 2) := by decide +kernel
theorem dX11_leads_184 : decode cX11_leads 184 = .ok (.iaload, 1) := by decide +kernel
theorem dX11_leads_185 : decode cX11_leads 185 = .ok (.isub, 1) := by decide +kernel
theorem dX11_leads_186 : decode cX11_leads 186 = .ok (.iastore, 1) := by decide +kernel
theorem dX11_leads_187 : decode cX11_leads 187 = .ok (.iconst 0, 1) := by decide +kernel
theorem dX11_leads_188 : decode cX11_leads 188 = .ok (.ireturn, 1) := by decide +kernel
theorem dX11_leads_189 : decode cX11_leads 189 = .ok (.aload_n 0, 1) := by decide +kernel
theorem dX11_leads_190 : decode cX11_leads 190 = .ok (.getfield 151, 3) := by decide +kernel
theorem dX11_leads_193 : decode cX11_leads 193 = .ok (.ifCond .ne 5, 3) := by decide +kernel
theorem dX11_leads_196 : decode cX11_leads 196 = .ok (.iconst (-1), 1) := by decide +kernel
theorem dX11_leads_197 : decode cX11_leads 197 = .ok (.ireturn, 1) := by decide +kernel
theorem dX11_leads_198 : decode cX11_leads 198 = .ok (.aload_n 0, 1) := by decide +kernel
theorem dX11_leads_199 : decode cX11_leads 199 = .ok (.dup, 1) := by decide +kernel
theorem dX11_leads_200 : decode cX11_leads 200 = .ok (.getfield 151, 3) := by decide +kernel
theorem dX11_leads_203 : decode cX11_leads 203 = .ok (.iconst 1, 1) := by decide +kernel
theorem dX11_leads_204 : decode cX11_leads 204 = .ok (.isub, 1) := by decide +kernel
theorem dX11_leads_205 : decode cX11_leads 205 = .ok (.putfield 151, 3) := by decide +kernel
theorem dX11_leads_208 : decode cX11_leads 208 = .ok (.aload_n 0, 1) := by decide +kernel
theorem dX11_leads_209 : decode cX11_leads 209 = .ok (.getfield 66, 3) := by decide +kernel
theorem dX11_leads_212 : decode cX11_leads 212 = .ok (.aload_n 0, 1) := by decide +kernel
theorem dX11_leads_213 : decode cX11_leads 213 = .ok (.getfield 151, 3) := by decide +kernel
theorem dX11_leads_216 : decode cX11_leads 216 = .ok (.iaload, 1) := by decide +kernel
theorem dX11_leads_217 : decode cX11_leads 217 = .ok (.ireturn, 1) := by decide +kernel
theorem dX11_follows_0 : decode cX11_follows 0 = .ok (.iload_n 1, 1) := by decide +kernel
theorem dX11_follows_1 : decode cX11_follows 1 = .ok (.iconst 0, 1) := by decide +kernel
theorem dX11_follows_2 : decode cX11_follows 2 = .ok (.bipush 79, 2) := by decide +kernel
theorem dX11_follows_4 : decode cX11_follows 4 = .ok (.invokestatic 96, 3) := by decide +kernel
theorem dX11_follows_7 : decode cX11_follows 7 = .ok (.ifCond .eq 22, 3) := by decide +kernel
theorem dX11_follows_10 : decode cX11_follows 10 = .ok (.aload_n 0, 1) := by decide +kernel
theorem dX11_follows_11 : decode cX11_follows 11 = .ok (.getfield 31, 3) := by decide +kernel
theorem dX11_follows_14 : decode cX11_follows 14 = .ok (.iload_n 1, 1) := by decide +kernel
theorem dX11_follows_15 : decode cX11_follows 15 = .ok (.iaload, 1) := by decide +kernel
theorem dX11_follows_16 : decode cX11_follows 16 = .ok (.iconst (-1), 1) := by decide +kernel
theorem dX11_follows_17 : decode cX11_follows 17 = .ok (.if_icmp .eq 12, 3) := by decide +kernel
theorem dX11_follows_20 : decode cX11_follows 20 = .ok (.aload_n 0, 1) := by decide +kernel
theorem dX11_follows_21 : decode cX11_follows 21 = .ok (.getfield 31, 3) := by decide +kernel
theorem dX11_follows_24 : decode cX11_follows 24 = .ok (.iload_n 1, 1) := by decide +kernel
theorem dX11_follows_25 : decode cX11_follows 25 = .ok (.iaload, 1) := by decide +kernel
theorem dX11_follows_26 : decode cX11_follows 26 = .ok (.goto 4, 3) := by decide +kernel
theorem dX11_follows_29 : decode cX11_follows 29 = .ok (.iload_n 1, 1) := by decide +kernel
theorem dX11_follows_30 : decode cX11_follows 30 = .ok (.ireturn, 1) := by decide +kernel
theorem dX11_orders_0 : decode cX11_orders 0 = .ok (.aload_n 0, 1) := by decide +kernel
theorem dX11_orders_1 : decode cX11_orders 1 = .ok (.getfield 34, 3) := by decide +kernel
theorem dX11_orders_4 : decode cX11_orders 4 = .ok (.iload_n 1, 1) := by decide +kernel
theorem dX11_orders_5 : decode cX11_orders 5 = .ok (.caload, 1) := by decide +kernel
theorem dX11_orders_6 : decode cX11_orders 6 = .ok (.istore_n 3, 1) := by decide +kernel
theorem dX11_orders_7 : decode cX11_orders 7 = .ok (.iload_n 3, 1) := by decide +kernel
theorem dX11_orders_8 : decode cX11_orders 8 = .ok (.bipush 113, 2) := by decide +kernel
theorem dX11_orders_10 : decode cX11_orders 10 = .ok (.if_icmp .ne 16, 3) := by decide +kernel
theorem dX11_orders_13 : decode cX11_orders 13 = .ok (.aload_n 0, 1) := by decide +kernel
theorem dX11_orders_14 : decode cX11_orders 14 = .ok (.invokevirtual 145, 3) := by decide +kernel
theorem dX11_orders_17 : decode cX11_orders 17 = .ok (.aload_n 0, 1) := by decide +kernel
theorem dX11_orders_18 : decode cX11_orders 18 = .ok (.invokevirtual 182, 3) := by decide +kernel
theorem dX11_orders_21 : decode cX11_orders 21 = .ok (.aload_n 0, 1) := by decide +kernel
theorem dX11_orders_22 : decode cX11_orders 22 = .ok (.invokevirtual 185, 3) := by decide +kernel
theorem dX11_orders_25 : decode cX11_orders 25 = .ok (.return_, 1) := by decide +kernel
theorem dX11_orders_26 : decode cX11_orders 26 = .ok (.iload_n 3, 1) := by decide +kernel
theorem dX11_orders_27 : decode cX11_orders 27 = .ok (.invokestatic 100, 3) := by decide +kernel
theorem dX11_orders_30 : decode cX11_orders 30 = .ok (.ifCond .ne 17, 3) := by decide +kernel
theorem dX11_orders_33 : decode cX11_orders 33 = .ok (.aload_n 0, 1) := by decide +kernel
theorem dX11_orders_34 : decode cX11_orders 34 = .ok (.aload_n 0, 1) := by decide +kernel
theorem dX11_orders_35 : decode cX11_orders 35 = .ok (.aload_n 0, 1) := by decide +kernel
theorem dX11_orders_36 : decode cX11_orders 36 = .ok (.iload_n 1, 1) := by decide +kernel
theorem dX11_orders_37 : decode cX11_orders 37 = .ok (.invokevirtual 216, 3) := by decide +kernel
theorem dX11_orders_40 : decode cX11_orders 40 = .ok (.invokevirtual 219, 3) := by decide +kernel
theorem dX11_orders_43 : decode cX11_orders 43 = .ok (.putfield 142, 3) := by decide +kernel
theorem dX11_orders_46 : decode cX11_orders 46 = .ok (.return_, 1) := by decide +kernel
theorem dX11_orders_47 : decode cX11_orders 47 = .ok (.iload_n 3, 1) := by decide +kernel
theorem dX11_orders_48 : decode cX11_orders 48 = .ok (.bipush 115, 2) := by decide +kernel
theorem dX11_orders_50 : decode cX11_orders 50 = .ok (.if_icmp .ne 19, 3) := by decide +kernel
theorem dX11_orders_53 : decode cX11_orders 53 = .ok (.aload_n 0, 1) := by decide +kernel
theorem dX11_orders_54 : decode cX11_orders 54 = .ok (.getfield 54, 3) := by decide +kernel
theorem dX11_orders_57 : decode cX11_orders 57 = .ok (.bipush 7, 2) := by decide +kernel
theorem dX11_orders_59 : decode cX11_orders 59 = .ok (.iconst 1, 1) := by decide +kernel
theorem dX11_orders_60 : decode cX11_orders 60 = .ok (.aload_n 0, 1) := by decide +kernel
theorem dX11_orders_61 : decode cX11_orders 61 = .ok (.getfield 54, 3) := by decide +kernel
theorem dX11_orders_64 : decode cX11_orders 64 = .ok (.bipush 7, 2) := by decide +kernel
theorem dX11_orders_66 : decode cX11_orders 66 = .ok (.iaload, 1) := by decide +kernel
theorem dX11_orders_67 : decode cX11_orders 67 = .ok (.isub, 1) := by decide +kernel
theorem dX11_orders_68 : decode cX11_orders 68 = .ok (.iastore, 1) := by decide +kernel
theorem dX11_orders_69 : decode cX11_orders 69 = .ok (.iload_n 3, 1) := by decide +kernel
theorem dX11_orders_70 : decode cX11_orders 70 = .ok (.bipush 107, 2) := by decide +kernel
theorem dX11_orders_72 : decode cX11_orders 72 = .ok (.if_icmp .ne 24, 3) := by decide +kernel
theorem dX11_orders_75 : decode cX11_orders 75 = .ok (.aload_n 0, 1) := by decide +kernel
theorem dX11_orders_76 : decode cX11_orders 76 = .ok (.getfield 54, 3) := by decide +kernel
theorem dX11_orders_79 : decode cX11_orders 79 = .ok (.iconst 4, 1) := by decide +kernel
theorem dX11_orders_80 : decode cX11_orders 80 = .ok (.aload_n 0, 1) := by decide +kernel
theorem dX11_orders_81 : decode cX11_orders 81 = .ok (.getfield 54, 3) := by decide +kernel
theorem dX11_orders_84 : decode cX11_orders 84 = .ok (.bipush 9, 2) := by decide +kernel
theorem dX11_orders_86 : decode cX11_orders 86 = .ok (.iaload, 1) := by decide +kernel
theorem dX11_orders_87 : decode cX11_orders 87 = .ok (.iastore, 1) := by decide +kernel
theorem dX11_orders_88 : decode cX11_orders 88 = .ok (.aload_n 0, 1) := by decide +kernel
theorem dX11_orders_89 : decode cX11_orders 89 = .ok (.getfield 54, 3) := by decide +kernel
theorem dX11_orders_92 : decode cX11_orders 92 = .ok (.bipush 8, 2) := by decide +kernel
theorem dX11_orders_94 : decode cX11_orders 94 = .ok (.iconst 1, 1) := by decide +kernel
theorem dX11_orders_95 : decode cX11_orders 95 = .ok (.iastore, 1) := by decide +kernel
theorem dX11_orders_96 : decode cX11_orders 96 = .ok (.iload_n 3, 1) := by decide +kernel
theorem dX11_orders_97 : decode cX11_orders 97 = .ok (.bipush 103, 2) := by decide +kernel
theorem dX11_orders_99 : decode cX11_orders 99 = .ok (.if_icmp .ne 13, 3) := by decide +kernel
theorem dX11_orders_102 : decode cX11_orders 102 = .ok (.aload_n 0, 1) := by decide +kernel
theorem dX11_orders_103 : decode cX11_orders 103 = .ok (.getfield 54, 3) := by decide +kernel
theorem dX11_orders_106 : decode cX11_orders 106 = .ok (.bipush 8, 2) := by decide +kernel
theorem dX11_orders_108 : decode cX11_orders 108 = .ok (.iload_n 2, 1) := by decide +kernel
theorem dX11_orders_109 : decode cX11_orders 109 = .ok (.iconst 2, 1) := by decide +kernel
theorem dX11_orders_110 : decode cX11_orders 110 = .ok (.irem, 1) := by decide +kernel
theorem dX11_orders_111 : decode cX11_orders 111 = .ok (.iastore, 1) := by decide +kernel
theorem dX11_orders_112 : decode cX11_orders 112 = .ok (.aload_n 0, 1) := by decide +kernel
theorem dX11_orders_113 : decode cX11_orders 113 = .ok (.invokevirtual 222, 3) := by decide +kernel
theorem dX11_orders_116 : decode cX11_orders 116 = .ok (.return_, 1) := by decide +kernel
theorem dX11_does_0 : decode cX11_does 0 = .ok (.aload_n 0, 1) := by decide +kernel
theorem dX11_does_1 : decode cX11_does 1 = .ok (.getfield 142, 3) := by decide +kernel
theorem dX11_does_4 : decode cX11_does 4 = .ok (.istore_n 1, 1) := by decide +kernel
theorem dX11_does_5 : decode cX11_does 5 = .ok (.aload_n 0, 1) := by decide +kernel
theorem dX11_does_6 : decode cX11_does 6 = .ok (.iconst 1, 1) := by decide +kernel
theorem dX11_does_7 : decode cX11_does 7 = .ok (.putfield 132, 3) := by decide +kernel
theorem dX11_does_10 : decode cX11_does 10 = .ok (.aload_n 0, 1) := by decide +kernel
theorem dX11_does_11 : decode cX11_does 11 = .ok (.aload_n 0, 1) := by decide +kernel
theorem dX11_does_12 : decode cX11_does 12 = .ok (.iload_n 1, 1) := by decide +kernel
theorem dX11_does_13 : decode cX11_does 13 = .ok (.invokevirtual 225, 3) := by decide +kernel
theorem dX11_does_16 : decode cX11_does 16 = .ok (.putfield 228, 3) := by decide +kernel
theorem dX11_does_19 : decode cX11_does 19 = .ok (.aload_n 0, 1) := by decide +kernel
theorem dX11_does_20 : decode cX11_does 20 = .ok (.aload_n 0, 1) := by decide +kernel
theorem dX11_does_21 : decode cX11_does 21 = .ok (.getfield 7, 3) := by decide +kernel
theorem dX11_does_24 : decode cX11_does 24 = .ok (.iload_n 1, 1) := by decide +kernel
theorem dX11_does_25 : decode cX11_does 25 = .ok (.iaload, 1) := by decide +kernel
theorem dX11_does_26 : decode cX11_does 26 = .ok (.putfield 231, 3) := by decide +kernel
theorem dX11_does_29 : decode cX11_does 29 = .ok (.aload_n 0, 1) := by decide +kernel
theorem dX11_does_30 : decode cX11_does 30 = .ok (.getfield 13, 3) := by decide +kernel
theorem dX11_does_33 : decode cX11_does 33 = .ok (.iload_n 1, 1) := by decide +kernel
theorem dX11_does_34 : decode cX11_does 34 = .ok (.iaload, 1) := by decide +kernel
theorem dX11_does_35 : decode cX11_does 35 = .ok (.aload_n 0, 1) := by decide +kernel
theorem dX11_does_36 : decode cX11_does 36 = .ok (.getfield 54, 3) := by decide +kernel
theorem dX11_does_39 : decode cX11_does 39 = .ok (.bipush 10, 2) := by decide +kernel
theorem dX11_does_41 : decode cX11_does 41 = .ok (.iaload, 1) := by decide +kernel
theorem dX11_does_42 : decode cX11_does 42 = .ok (.aload_n 0, 1) := by decide +kernel
theorem dX11_does_43 : decode cX11_does 43 = .ok (.getfield 228, 3) := by decide +kernel
theorem dX11_does_46 : decode cX11_does 46 = .ok (.invokestatic 197, 3) := by decide +kernel
theorem dX11_does_49 : decode cX11_does 49 = .ok (.istore_n 2, 1) := by decide +kernel
theorem dX11_does_50 : decode cX11_does 50 = .ok (.aload_n 0, 1) := by decide +kernel
theorem dX11_does_51 : decode cX11_does 51 = .ok (.getfield 42, 3) := by decide +kernel
theorem dX11_does_54 : decode cX11_does 54 = .ok (.iload_n 1, 1) := by decide +kernel
theorem dX11_does_55 : decode cX11_does 55 = .ok (.baload, 1) := by decide +kernel
theorem dX11_does_56 : decode cX11_does 56 = .ok (.ifCond .eq 37, 3) := by decide +kernel
theorem dX11_does_59 : decode cX11_does 59 = .ok (.aload_n 0, 1) := by decide +kernel
theorem dX11_does_60 : decode cX11_does 60 = .ok (.iconst 1, 1) := by decide +kernel
theorem dX11_does_61 : decode cX11_does 61 = .ok (.putfield 154, 3) := by decide +kernel
theorem dX11_does_64 : decode cX11_does 64 = .ok (.aload_n 0, 1) := by decide +kernel
theorem dX11_does_65 : decode cX11_does 65 = .ok (.aload_n 0, 1) := by decide +kernel
theorem dX11_does_66 : decode cX11_does 66 = .ok (.getfield 13, 3) := by decide +kernel
theorem dX11_does_69 : decode cX11_does 69 = .ok (.iload_n 1, 1) := by decide +kernel
theorem dX11_does_70 : decode cX11_does 70 = .ok (.iaload, 1) := by decide +kernel
theorem dX11_does_71 : decode cX11_does 71 = .ok (.putfield 188, 3) := by decide +kernel
theorem dX11_does_74 : decode cX11_does 74 = .ok (.aload_n 0, 1) := by decide +kernel
theorem dX11_does_75 : decode cX11_does 75 = .ok (.aload_n 0, 1) := by decide +kernel
theorem dX11_does_76 : decode cX11_does 76 = .ok (.getfield 54, 3) := by decide +kernel
theorem dX11_does_79 : decode cX11_does 79 = .ok (.bipush 10, 2) := by decide +kernel
theorem dX11_does_81 : decode cX11_does 81 = .ok (.iaload, 1) := by decide +kernel
theorem dX11_does_82 : decode cX11_does 82 = .ok (.putfield 191, 3) := by decide +kernel
theorem dX11_does_85 : decode cX11_does 85 = .ok (.aload_n 0, 1) := by decide +kernel
theorem dX11_does_86 : decode cX11_does 86 = .ok (.aload_n 0, 1) := by decide +kernel
theorem dX11_does_87 : decode cX11_does 87 = .ok (.getfield 228, 3) := by decide +kernel
theorem dX11_does_90 : decode cX11_does 90 = .ok (.putfield 194, 3) := by decide +kernel
theorem dX11_does_93 : decode cX11_does 93 = .ok (.aload_n 0, 1) := by decide +kernel
theorem dX11_does_94 : decode cX11_does 94 = .ok (.iload_n 1, 1) := by decide +kernel
theorem dX11_does_95 : decode cX11_does 95 = .ok (.iload_n 2, 1) := by decide +kernel
theorem dX11_does_96 : decode cX11_does 96 = .ok (.invokevirtual 234, 3) := by decide +kernel
theorem dX11_does_99 : decode cX11_does 99 = .ok (.iconst 1, 1) := by decide +kernel
theorem dX11_does_100 : decode cX11_does 100 = .ok (.aload_n 0, 1) := by decide +kernel
theorem dX11_does_101 : decode cX11_does 101 = .ok (.getfield 19, 3) := by decide +kernel
theorem dX11_does_104 : decode cX11_does 104 = .ok (.iload_n 1, 1) := by decide +kernel
theorem dX11_does_105 : decode cX11_does 105 = .ok (.iaload, 1) := by decide +kernel
theorem dX11_does_106 : decode cX11_does 106 = .ok (.ifCond .ne 7, 3) := by decide +kernel
theorem dX11_does_109 : decode cX11_does 109 = .ok (.iconst 0, 1) := by decide +kernel
theorem dX11_does_110 : decode cX11_does 110 = .ok (.goto 7, 3) := by decide +kernel
theorem dX11_does_113 : decode cX11_does 113 = .ok (.aload_n 0, 1) := by decide +kernel
theorem dX11_does_114 : decode cX11_does 114 = .ok (.getfield 136, 3) := by decide +kernel
theorem dX11_does_117 : decode cX11_does 117 = .ok (.iadd, 1) := by decide +kernel
theorem dX11_does_118 : decode cX11_does 118 = .ok (.istore_n 3, 1) := by decide +kernel
theorem dX11_does_119 : decode cX11_does 119 = .ok (.aload_n 0, 1) := by decide +kernel
theorem dX11_does_120 : decode cX11_does 120 = .ok (.dup, 1) := by decide +kernel
theorem dX11_does_121 : decode cX11_does 121 = .ok (.getfield 238, 3) := by decide +kernel
theorem dX11_does_124 : decode cX11_does 124 = .ok (.iload_n 3, 1) := by decide +kernel
theorem dX11_does_125 : decode cX11_does 125 = .ok (.i2l, 1) := by decide +kernel
theorem dX11_does_126 : decode cX11_does 126 = .ok (.ladd, 1) := by decide +kernel
theorem dX11_does_127 : decode cX11_does 127 = .ok (.putfield 238, 3) := by decide +kernel
theorem dX11_does_130 : decode cX11_does 130 = .ok (.aload_n 0, 1) := by decide +kernel
theorem dX11_does_131 : decode cX11_does 131 = .ok (.dup, 1) := by decide +kernel
theorem dX11_does_132 : decode cX11_does 132 = .ok (.getfield 175, 3) := by decide +kernel
theorem dX11_does_135 : decode cX11_does 135 = .ok (.iload_n 3, 1) := by decide +kernel
theorem dX11_does_136 : decode cX11_does 136 = .ok (.iadd, 1) := by decide +kernel
theorem dX11_does_137 : decode cX11_does 137 = .ok (.putfield 175, 3) := by decide +kernel
theorem dX11_does_140 : decode cX11_does 140 = .ok (.aload_n 0, 1) := by decide +kernel
theorem dX11_does_141 : decode cX11_does 141 = .ok (.getfield 19, 3) := by decide +kernel
theorem dX11_does_144 : decode cX11_does 144 = .ok (.iload_n 1, 1) := by decide +kernel
theorem dX11_does_145 : decode cX11_does 145 = .ok (.iaload, 1) := by decide +kernel
theorem dX11_does_146 : decode cX11_does 146 = .ok (.ifCond .eq 56, 3) := by decide +kernel
theorem dX11_does_149 : decode cX11_does 149 = .ok (.aload_n 0, 1) := by decide +kernel
theorem dX11_does_150 : decode cX11_does 150 = .ok (.getfield 48, 3) := by decide +kernel
theorem dX11_does_153 : decode cX11_does 153 = .ok (.aload_n 0, 1) := by decide +kernel
theorem dX11_does_154 : decode cX11_does 154 = .ok (.getfield 54, 3) := by decide +kernel
theorem dX11_does_157 : decode cX11_does 157 = .ok (.bipush 12, 2) := by decide +kernel
theorem dX11_does_159 : decode cX11_does 159 = .ok (.iaload, 1) := by decide +kernel
theorem dX11_does_160 : decode cX11_does 160 = .ok (.bipush 16, 2) := by decide +kernel
theorem dX11_does_162 : decode cX11_does 162 = .ok (.idiv, 1) := by decide +kernel
theorem dX11_does_163 : decode cX11_does 163 = .ok (.baload, 1) := by decide +kernel
theorem dX11_does_164 : decode cX11_does 164 = .ok (.ifCond .eq 38, 3) := by decide +kernel
theorem dX11_does_167 : decode cX11_does 167 = .ok (.aload_n 0, 1) := by decide +kernel
theorem dX11_does_168 : decode cX11_does 168 = .ok (.dup, 1) := by decide +kernel
theorem dX11_does_169 : decode cX11_does 169 = .ok (.getfield 241, 3) := by decide +kernel
theorem dX11_does_172 : decode cX11_does 172 = .ok (.iconst 1, 1) := by decide +kernel
theorem dX11_does_173 : decode cX11_does 173 = .ok (.iadd, 1) := by decide +kernel
theorem dX11_does_174 : decode cX11_does 174 = .ok (.putfield 241, 3) := by decide +kernel
theorem dX11_does_177 : decode cX11_does 177 = .ok (.aload_n 0, 1) := by decide +kernel
theorem dX11_does_178 : decode cX11_does 178 = .ok (.bipush 119, 2) := by decide +kernel
theorem dX11_does_180 : decode cX11_does 180 = .ok (.putfield 89, 3) := by decide +kernel
theorem dX11_does_183 : decode cX11_does 183 = .ok (.aload_n 0, 1) := by decide +kernel
theorem dX11_does_184 : decode cX11_does 184 = .ok (.aload_n 0, 1) := by decide +kernel
theorem dX11_does_185 : decode cX11_does 185 = .ok (.getfield 54, 3) := by decide +kernel
theorem dX11_does_188 : decode cX11_does 188 = .ok (.bipush 12, 2) := by decide +kernel
theorem dX11_does_190 : decode cX11_does 190 = .ok (.iaload, 1) := by decide +kernel
theorem dX11_does_191 : decode cX11_does 191 = .ok (.bipush 16, 2) := by decide +kernel
theorem dX11_does_193 : decode cX11_does 193 = .ok (.idiv, 1) := by decide +kernel
theorem dX11_does_194 : decode cX11_does 194 = .ok (.putfield 83, 3) := by decide +kernel
theorem dX11_does_197 : decode cX11_does 197 = .ok (.aload_n 0, 1) := by decide +kernel
theorem dX11_does_198 : decode cX11_does 198 = .ok (.invokevirtual 145, 3) := by decide +kernel
theorem dX11_does_201 : decode cX11_does 201 = .ok (.return_, 1) := by decide +kernel
theorem dX11_does_202 : decode cX11_does 202 = .ok (.aload_n 0, 1) := by decide +kernel
theorem dX11_does_203 : decode cX11_does 203 = .ok (.getfield 19, 3) := by decide +kernel
theorem dX11_does_206 : decode cX11_does 206 = .ok (.iload_n 1, 1) := by decide +kernel
theorem dX11_does_207 : decode cX11_does 207 = .ok (.iaload, 1) := by decide +kernel
theorem dX11_does_208 : decode cX11_does 208 = .ok (.iconst 1, 1) := by decide +kernel
theorem dX11_does_209 : decode cX11_does 209 = .ok (.if_icmp .ne 22, 3) := by decide +kernel
theorem dX11_does_212 : decode cX11_does 212 = .ok (.aload_n 0, 1) := by decide +kernel
theorem dX11_does_213 : decode cX11_does 213 = .ok (.getfield 54, 3) := by decide +kernel
theorem dX11_does_216 : decode cX11_does 216 = .ok (.bipush 13, 2) := by decide +kernel
theorem dX11_does_218 : decode cX11_does 218 = .ok (.aload_n 0, 1) := by decide +kernel
theorem dX11_does_219 : decode cX11_does 219 = .ok (.getfield 60, 3) := by decide +kernel
theorem dX11_does_222 : decode cX11_does 222 = .ok (.aload_n 0, 1) := by decide +kernel
theorem dX11_does_223 : decode cX11_does 223 = .ok (.getfield 54, 3) := by decide +kernel
theorem dX11_does_226 : decode cX11_does 226 = .ok (.bipush 12, 2) := by decide +kernel
theorem dX11_does_228 : decode cX11_does 228 = .ok (.iaload, 1) := by decide +kernel
theorem dX11_does_229 : decode cX11_does 229 = .ok (.iaload, 1) := by decide +kernel
theorem dX11_does_230 : decode cX11_does 230 = .ok (.iastore, 1) := by decide +kernel
theorem dX11_does_231 : decode cX11_does 231 = .ok (.aload_n 0, 1) := by decide +kernel
theorem dX11_does_232 : decode cX11_does 232 = .ok (.getfield 19, 3) := by decide +kernel
theorem dX11_does_235 : decode cX11_does 235 = .ok (.iload_n 1, 1) := by decide +kernel
theorem dX11_does_236 : decode cX11_does 236 = .ok (.iaload, 1) := by decide +kernel
theorem dX11_does_237 : decode cX11_does 237 = .ok (.iconst 2, 1) := by decide +kernel
theorem dX11_does_238 : decode cX11_does 238 = .ok (.if_icmp .ne 22, 3) := by decide +kernel
theorem dX11_does_241 : decode cX11_does 241 = .ok (.aload_n 0, 1) := by decide +kernel
theorem dX11_does_242 : decode cX11_does 242 = .ok (.getfield 60, 3) := by decide +kernel
theorem dX11_does_245 : decode cX11_does 245 = .ok (.aload_n 0, 1) := by decide +kernel
theorem dX11_does_246 : decode cX11_does 246 = .ok (.getfield 54, 3) := by decide +kernel
theorem dX11_does_249 : decode cX11_does 249 = .ok (.bipush 12, 2) := by decide +kernel
theorem dX11_does_251 : decode cX11_does 251 = .ok (.iaload, 1) := by decide +kernel
theorem dX11_does_252 : decode cX11_does 252 = .ok (.aload_n 0, 1) := by decide +kernel
theorem dX11_does_253 : decode cX11_does 253 = .ok (.getfield 54, 3) := by decide +kernel
theorem dX11_does_256 : decode cX11_does 256 = .ok (.bipush 13, 2) := by decide +kernel
theorem dX11_does_258 : decode cX11_does 258 = .ok (.iaload, 1) := by decide +kernel
theorem dX11_does_259 : decode cX11_does 259 = .ok (.iastore, 1) := by decide +kernel
theorem dX11_does_260 : decode cX11_does 260 = .ok (.aload_n 0, 1) := by decide +kernel
theorem dX11_does_261 : decode cX11_does 261 = .ok (.iload_n 1, 1) := by decide +kernel
theorem dX11_does_262 : decode cX11_does 262 = .ok (.iload_n 2, 1) := by decide +kernel
theorem dX11_does_263 : decode cX11_does 263 = .ok (.invokevirtual 244, 3) := by decide +kernel
theorem dX11_does_266 : decode cX11_does 266 = .ok (.return_, 1) := by decide +kernel
theorem dX11_goes_0 : decode cX11_goes 0 = .ok (.aload_n 0, 1) := by decide +kernel
theorem dX11_goes_1 : decode cX11_goes 1 = .ok (.getfield 89, 3) := by decide +kernel
theorem dX11_goes_4 : decode cX11_goes 4 = .ok (.bipush 114, 2) := by decide +kernel
theorem dX11_goes_6 : decode cX11_goes 6 = .ok (.if_icmp .eq 5, 3) := by decide +kernel
theorem dX11_goes_9 : decode cX11_goes 9 = .ok (.iconst 0, 1) := by decide +kernel
theorem dX11_goes_10 : decode cX11_goes 10 = .ok (.ireturn, 1) := by decide +kernel
theorem dX11_goes_11 : decode cX11_goes 11 = .ok (.aload_n 0, 1) := by decide +kernel
theorem dX11_goes_12 : decode cX11_goes 12 = .ok (.getfield 142, 3) := by decide +kernel
theorem dX11_goes_15 : decode cX11_goes 15 = .ok (.iconst 0, 1) := by decide +kernel
theorem dX11_goes_16 : decode cX11_goes 16 = .ok (.bipush 79, 2) := by decide +kernel
theorem dX11_goes_18 : decode cX11_goes 18 = .ok (.invokestatic 96, 3) := by decide +kernel
theorem dX11_goes_21 : decode cX11_goes 21 = .ok (.ifCond .eq 15, 3) := by decide +kernel
theorem dX11_goes_24 : decode cX11_goes 24 = .ok (.aload_n 0, 1) := by decide +kernel
theorem dX11_goes_25 : decode cX11_goes 25 = .ok (.getfield 38, 3) := by decide +kernel
theorem dX11_goes_28 : decode cX11_goes 28 = .ok (.aload_n 0, 1) := by decide +kernel
theorem dX11_goes_29 : decode cX11_goes 29 = .ok (.getfield 142, 3) := by decide +kernel
theorem dX11_goes_32 : decode cX11_goes 32 = .ok (.baload, 1) := by decide +kernel
theorem dX11_goes_33 : decode cX11_goes 33 = .ok (.ifCond .ne 15, 3) := by decide +kernel
theorem dX11_goes_36 : decode cX11_goes 36 = .ok (.aload_n 0, 1) := by decide +kernel
theorem dX11_goes_37 : decode cX11_goes 37 = .ok (.invokevirtual 145, 3) := by decide +kernel
theorem dX11_goes_40 : decode cX11_goes 40 = .ok (.aload_n 0, 1) := by decide +kernel
theorem dX11_goes_41 : decode cX11_goes 41 = .ok (.bipush 108, 2) := by decide +kernel
theorem dX11_goes_43 : decode cX11_goes 43 = .ok (.putfield 89, 3) := by decide +kernel
theorem dX11_goes_46 : decode cX11_goes 46 = .ok (.iconst 0, 1) := by decide +kernel
theorem dX11_goes_47 : decode cX11_goes 47 = .ok (.ireturn, 1) := by decide +kernel
theorem dX11_goes_48 : decode cX11_goes 48 = .ok (.aload_n 0, 1) := by decide +kernel
theorem dX11_goes_49 : decode cX11_goes 49 = .ok (.invokevirtual 247, 3) := by decide +kernel
theorem dX11_goes_52 : decode cX11_goes 52 = .ok (.iconst 1, 1) := by decide +kernel
theorem dX11_goes_53 : decode cX11_goes 53 = .ok (.ireturn, 1) := by decide +kernel
theorem dX11_step_0 : decode cX11_step 0 = .ok (.iload_n 1, 1) := by decide +kernel
theorem dX11_step_1 : decode cX11_step 1 = .ok (.iconst 1, 1) := by decide +kernel
theorem dX11_step_2 : decode cX11_step 2 = .ok (.bipush 100, 2) := by decide +kernel
theorem dX11_step_4 : decode cX11_step 4 = .ok (.invokestatic 96, 3) := by decide +kernel
theorem dX11_step_7 : decode cX11_step 7 = .ok (.ifCond .ne 9, 3) := by decide +kernel
theorem dX11_step_10 : decode cX11_step 10 = .ok (.aload_n 0, 1) := by decide +kernel
theorem dX11_step_11 : decode cX11_step 11 = .ok (.iconst 1, 1) := by decide +kernel
theorem dX11_step_12 : decode cX11_step 12 = .ok (.invokevirtual 111, 3) := by decide +kernel
theorem dX11_step_15 : decode cX11_step 15 = .ok (.ireturn, 1) := by decide +kernel
theorem dX11_step_16 : decode cX11_step 16 = .ok (.aload_n 0, 1) := by decide +kernel
theorem dX11_step_17 : decode cX11_step 17 = .ok (.iconst 0, 1) := by decide +kernel
theorem dX11_step_18 : decode cX11_step 18 = .ok (.putfield 93, 3) := by decide +kernel
theorem dX11_step_21 : decode cX11_step 21 = .ok (.iconst 0, 1) := by decide +kernel
theorem dX11_step_22 : decode cX11_step 22 = .ok (.istore_n 2, 1) := by decide +kernel
theorem dX11_step_23 : decode cX11_step 23 = .ok (.iload_n 2, 1) := by decide +kernel
theorem dX11_step_24 : decode cX11_step 24 = .ok (.iload_n 1, 1) := by decide +kernel
theorem dX11_step_25 : decode cX11_step 25 = .ok (.if_icmp .ge 16, 3) := by decide +kernel
theorem dX11_step_28 : decode cX11_step 28 = .ok (.aload_n 0, 1) := by decide +kernel
theorem dX11_step_29 : decode cX11_step 29 = .ok (.invokevirtual 250, 3) := by decide +kernel
theorem dX11_step_32 : decode cX11_step 32 = .ok (.ifCond .eq 9, 3) := by decide +kernel
theorem dX11_step_35 : decode cX11_step 35 = .ok (.iinc 2 1, 3) := by decide +kernel
theorem dX11_step_38 : decode cX11_step 38 = .ok (.goto (-15), 3) := by decide +kernel
theorem dX11_step_41 : decode cX11_step 41 = .ok (.iload_n 2, 1) := by decide +kernel
theorem dX11_step_42 : decode cX11_step 42 = .ok (.ireturn, 1) := by decide +kernel
theorem dX11_run_0 : decode cX11_run 0 = .ok (.iload_n 1, 1) := by decide +kernel
theorem dX11_run_1 : decode cX11_run 1 = .ok (.iconst 1, 1) := by decide +kernel
theorem dX11_run_2 : decode cX11_run 2 = .ok (.bipush 20, 2) := by decide +kernel
theorem dX11_run_4 : decode cX11_run 4 = .ok (.invokestatic 96, 3) := by decide +kernel
theorem dX11_run_7 : decode cX11_run 7 = .ok (.ifCond .ne 9, 3) := by decide +kernel
theorem dX11_run_10 : decode cX11_run 10 = .ok (.aload_n 0, 1) := by decide +kernel
theorem dX11_run_11 : decode cX11_run 11 = .ok (.iconst 1, 1) := by decide +kernel
theorem dX11_run_12 : decode cX11_run 12 = .ok (.invokevirtual 111, 3) := by decide +kernel
theorem dX11_run_15 : decode cX11_run 15 = .ok (.ireturn, 1) := by decide +kernel
theorem dX11_run_16 : decode cX11_run 16 = .ok (.aload_n 0, 1) := by decide +kernel
theorem dX11_run_17 : decode cX11_run 17 = .ok (.iconst 0, 1) := by decide +kernel
theorem dX11_run_18 : decode cX11_run 18 = .ok (.putfield 93, 3) := by decide +kernel
theorem dX11_run_21 : decode cX11_run 21 = .ok (.aload_n 0, 1) := by decide +kernel
theorem dX11_run_22 : decode cX11_run 22 = .ok (.getfield 172, 3) := by decide +kernel
theorem dX11_run_25 : decode cX11_run 25 = .ok (.istore_n 2, 1) := by decide +kernel
theorem dX11_run_26 : decode cX11_run 26 = .ok (.iconst 0, 1) := by decide +kernel
theorem dX11_run_27 : decode cX11_run 27 = .ok (.istore_n 3, 1) := by decide +kernel
theorem dX11_run_28 : decode cX11_run 28 = .ok (.aload_n 0, 1) := by decide +kernel
theorem dX11_run_29 : decode cX11_run 29 = .ok (.getfield 172, 3) := by decide +kernel
theorem dX11_run_32 : decode cX11_run 32 = .ok (.iload_n 2, 1) := by decide +kernel
theorem dX11_run_33 : decode cX11_run 33 = .ok (.isub, 1) := by decide +kernel
theorem dX11_run_34 : decode cX11_run 34 = .ok (.iload_n 1, 1) := by decide +kernel
theorem dX11_run_35 : decode cX11_run 35 = .ok (.if_icmp .ge 23, 3) := by decide +kernel
theorem dX11_run_38 : decode cX11_run 38 = .ok (.iload_n 3, 1) := by decide +kernel
theorem dX11_run_39 : decode cX11_run 39 = .ok (.sipush 200, 3) := by decide +kernel
theorem dX11_run_42 : decode cX11_run 42 = .ok (.if_icmp .ge 16, 3) := by decide +kernel
theorem dX11_run_45 : decode cX11_run 45 = .ok (.aload_n 0, 1) := by decide +kernel
theorem dX11_run_46 : decode cX11_run 46 = .ok (.invokevirtual 250, 3) := by decide +kernel
theorem dX11_run_49 : decode cX11_run 49 = .ok (.ifCond .eq 9, 3) := by decide +kernel
theorem dX11_run_52 : decode cX11_run 52 = .ok (.iinc 3 1, 3) := by decide +kernel
theorem dX11_run_55 : decode cX11_run 55 = .ok (.goto (-27), 3) := by decide +kernel
theorem dX11_run_58 : decode cX11_run 58 = .ok (.aload_n 0, 1) := by decide +kernel
theorem dX11_run_59 : decode cX11_run 59 = .ok (.getfield 172, 3) := by decide +kernel
theorem dX11_run_62 : decode cX11_run 62 = .ok (.iload_n 2, 1) := by decide +kernel
theorem dX11_run_63 : decode cX11_run 63 = .ok (.isub, 1) := by decide +kernel
theorem dX11_run_64 : decode cX11_run 64 = .ok (.ireturn, 1) := by decide +kernel
theorem dX11_state_0 : decode cX11_state 0 = .ok (.aload_n 0, 1) := by decide +kernel
theorem dX11_state_1 : decode cX11_state 1 = .ok (.getfield 89, 3) := by decide +kernel
theorem dX11_state_4 : decode cX11_state 4 = .ok (.ireturn, 1) := by decide +kernel
theorem dX11_cell_0 : decode cX11_cell 0 = .ok (.aload_n 0, 1) := by decide +kernel
theorem dX11_cell_1 : decode cX11_cell 1 = .ok (.iload_n 1, 1) := by decide +kernel
theorem dX11_cell_2 : decode cX11_cell 2 = .ok (.bipush 64, 2) := by decide +kernel
theorem dX11_cell_4 : decode cX11_cell 4 = .ok (.invokevirtual 104, 3) := by decide +kernel
theorem dX11_cell_7 : decode cX11_cell 7 = .ok (.ifCond .eq 7, 3) := by decide +kernel
theorem dX11_cell_10 : decode cX11_cell 10 = .ok (.iconst 0, 1) := by decide +kernel
theorem dX11_cell_11 : decode cX11_cell 11 = .ok (.goto 9, 3) := by decide +kernel
theorem dX11_cell_14 : decode cX11_cell 14 = .ok (.aload_n 0, 1) := by decide +kernel
theorem dX11_cell_15 : decode cX11_cell 15 = .ok (.getfield 60, 3) := by decide +kernel
theorem dX11_cell_18 : decode cX11_cell 18 = .ok (.iload_n 1, 1) := by decide +kernel
theorem dX11_cell_19 : decode cX11_cell 19 = .ok (.iaload, 1) := by decide +kernel
theorem dX11_cell_20 : decode cX11_cell 20 = .ok (.ireturn, 1) := by decide +kernel
theorem dX11_register_0 : decode cX11_register 0 = .ok (.aload_n 0, 1) := by decide +kernel
theorem dX11_register_1 : decode cX11_register 1 = .ok (.iload_n 1, 1) := by decide +kernel
theorem dX11_register_2 : decode cX11_register 2 = .ok (.iconst 4, 1) := by decide +kernel
theorem dX11_register_3 : decode cX11_register 3 = .ok (.invokevirtual 104, 3) := by decide +kernel
theorem dX11_register_6 : decode cX11_register 6 = .ok (.ifCond .eq 7, 3) := by decide +kernel
theorem dX11_register_9 : decode cX11_register 9 = .ok (.iconst 0, 1) := by decide +kernel
theorem dX11_register_10 : decode cX11_register 10 = .ok (.goto 9, 3) := by decide +kernel
theorem dX11_register_13 : decode cX11_register 13 = .ok (.aload_n 0, 1) := by decide +kernel
theorem dX11_register_14 : decode cX11_register 14 = .ok (.getfield 54, 3) := by decide +kernel
theorem dX11_register_17 : decode cX11_register 17 = .ok (.iload_n 1, 1) := by decide +kernel
theorem dX11_register_18 : decode cX11_register 18 = .ok (.iaload, 1) := by decide +kernel
theorem dX11_register_19 : decode cX11_register 19 = .ok (.ireturn, 1) := by decide +kernel
theorem dX11_place_0 : decode cX11_place 0 = .ok (.iload_n 0, 1) := by decide +kernel
theorem dX11_place_1 : decode cX11_place 1 = .ok (.bipush 80, 2) := by decide +kernel
theorem dX11_place_3 : decode cX11_place 3 = .ok (.if_icmp .ne 7, 3) := by decide +kernel
theorem dX11_place_6 : decode cX11_place 6 = .ok (.iconst 4, 1) := by decide +kernel
theorem dX11_place_7 : decode cX11_place 7 = .ok (.goto 124, 3) := by decide +kernel
theorem dX11_place_10 : decode cX11_place 10 = .ok (.iload_n 0, 1) := by decide +kernel
theorem dX11_place_11 : decode cX11_place 11 = .ok (.bipush 90, 2) := by decide +kernel
theorem dX11_place_13 : decode cX11_place 13 = .ok (.if_icmp .ne 7, 3) := by decide +kernel
theorem dX11_place_16 : decode cX11_place 16 = .ok (.iconst 5, 1) := by decide +kernel
theorem dX11_place_17 : decode cX11_place 17 = .ok (.goto 114, 3) := by decide +kernel
theorem dX11_place_20 : decode cX11_place 20 = .ok (.iload_n 0, 1) := by decide +kernel
theorem dX11_place_21 : decode cX11_place 21 = .ok (.bipush 67, 2) := by decide +kernel
theorem dX11_place_23 : decode cX11_place 23 = .ok (.if_icmp .ne 8, 3) := by decide +kernel
theorem dX11_place_26 : decode cX11_place 26 = .ok (.bipush 6, 2) := by decide +kernel
theorem dX11_place_28 : decode cX11_place 28 = .ok (.goto 103, 3) := by decide +kernel
theorem dX11_place_31 : decode cX11_place 31 = .ok (.iload_n 0, 1) := by decide +kernel
theorem dX11_place_32 : decode cX11_place 32 = .ok (.bipush 83, 2) := by decide +kernel
theorem dX11_place_34 : decode cX11_place 34 = .ok (.if_icmp .ne 8, 3) := by decide +kernel
theorem dX11_place_37 : decode cX11_place 37 = .ok (.bipush 7, 2) := by decide +kernel
theorem dX11_place_39 : decode cX11_place 39 = .ok (.goto 92, 3) := by decide +kernel
theorem dX11_place_42 : decode cX11_place 42 = .ok (.iload_n 0, 1) := by decide +kernel
theorem dX11_place_43 : decode cX11_place 43 = .ok (.bipush 73, 2) := by decide +kernel
theorem dX11_place_45 : decode cX11_place 45 = .ok (.if_icmp .ne 8, 3) := by decide +kernel
theorem dX11_place_48 : decode cX11_place 48 = .ok (.bipush 8, 2) := by decide +kernel
theorem dX11_place_50 : decode cX11_place 50 = .ok (.goto 81, 3) := by decide +kernel
theorem dX11_place_53 : decode cX11_place 53 = .ok (.iload_n 0, 1) := by decide +kernel
theorem dX11_place_54 : decode cX11_place 54 = .ok (.bipush 75, 2) := by decide +kernel
theorem dX11_place_56 : decode cX11_place 56 = .ok (.if_icmp .ne 8, 3) := by decide +kernel
theorem dX11_place_59 : decode cX11_place 59 = .ok (.bipush 9, 2) := by decide +kernel
theorem dX11_place_61 : decode cX11_place 61 = .ok (.goto 70, 3) := by decide +kernel
theorem dX11_place_64 : decode cX11_place 64 = .ok (.iload_n 0, 1) := by decide +kernel
theorem dX11_place_65 : decode cX11_place 65 = .ok (.bipush 84, 2) := by decide +kernel
theorem dX11_place_67 : decode cX11_place 67 = .ok (.if_icmp .ne 8, 3) := by decide +kernel
theorem dX11_place_70 : decode cX11_place 70 = .ok (.bipush 10, 2) := by decide +kernel
theorem dX11_place_72 : decode cX11_place 72 = .ok (.goto 59, 3) := by decide +kernel
theorem dX11_place_75 : decode cX11_place 75 = .ok (.iload_n 0, 1) := by decide +kernel
theorem dX11_place_76 : decode cX11_place 76 = .ok (.bipush 85, 2) := by decide +kernel
theorem dX11_place_78 : decode cX11_place 78 = .ok (.if_icmp .ne 8, 3) := by decide +kernel
theorem dX11_place_81 : decode cX11_place 81 = .ok (.bipush 11, 2) := by decide +kernel
theorem dX11_place_83 : decode cX11_place 83 = .ok (.goto 48, 3) := by decide +kernel
theorem dX11_place_86 : decode cX11_place 86 = .ok (.iload_n 0, 1) := by decide +kernel
theorem dX11_place_87 : decode cX11_place 87 = .ok (.bipush 65, 2) := by decide +kernel
theorem dX11_place_89 : decode cX11_place 89 = .ok (.if_icmp .ne 8, 3) := by decide +kernel
theorem dX11_place_92 : decode cX11_place 92 = .ok (.bipush 12, 2) := by decide +kernel
theorem dX11_place_94 : decode cX11_place 94 = .ok (.goto 37, 3) := by decide +kernel
theorem dX11_place_97 : decode cX11_place 97 = .ok (.iload_n 0, 1) := by decide +kernel
theorem dX11_place_98 : decode cX11_place 98 = .ok (.bipush 68, 2) := by decide +kernel
theorem dX11_place_100 : decode cX11_place 100 = .ok (.if_icmp .ne 8, 3) := by decide +kernel
theorem dX11_place_103 : decode cX11_place 103 = .ok (.bipush 13, 2) := by decide +kernel
theorem dX11_place_105 : decode cX11_place 105 = .ok (.goto 26, 3) := by decide +kernel
theorem dX11_place_108 : decode cX11_place 108 = .ok (.iload_n 0, 1) := by decide +kernel
theorem dX11_place_109 : decode cX11_place 109 = .ok (.bipush 88, 2) := by decide +kernel
theorem dX11_place_111 : decode cX11_place 111 = .ok (.if_icmp .ne 8, 3) := by decide +kernel
theorem dX11_place_114 : decode cX11_place 114 = .ok (.bipush 14, 2) := by decide +kernel
theorem dX11_place_116 : decode cX11_place 116 = .ok (.goto 15, 3) := by decide +kernel
theorem dX11_place_119 : decode cX11_place 119 = .ok (.iload_n 0, 1) := by decide +kernel
theorem dX11_place_120 : decode cX11_place 120 = .ok (.bipush 69, 2) := by decide +kernel
theorem dX11_place_122 : decode cX11_place 122 = .ok (.if_icmp .ne 8, 3) := by decide +kernel
theorem dX11_place_125 : decode cX11_place 125 = .ok (.bipush 15, 2) := by decide +kernel
theorem dX11_place_127 : decode cX11_place 127 = .ok (.goto 4, 3) := by decide +kernel
theorem dX11_place_130 : decode cX11_place 130 = .ok (.iconst (-1), 1) := by decide +kernel
theorem dX11_place_131 : decode cX11_place 131 = .ok (.ireturn, 1) := by decide +kernel
theorem dX11_part_0 : decode cX11_part 0 = .ok (.iload_n 1, 1) := by decide +kernel
theorem dX11_part_1 : decode cX11_part 1 = .ok (.invokestatic 254, 3) := by decide +kernel
theorem dX11_part_4 : decode cX11_part 4 = .ok (.istore_n 2, 1) := by decide +kernel
theorem dX11_part_5 : decode cX11_part 5 = .ok (.iload_n 2, 1) := by decide +kernel
theorem dX11_part_6 : decode cX11_part 6 = .ok (.ifCond .ge 9, 3) := by decide +kernel
theorem dX11_part_9 : decode cX11_part 9 = .ok (.aload_n 0, 1) := by decide +kernel
theorem dX11_part_10 : decode cX11_part 10 = .ok (.iconst 1, 1) := by decide +kernel
theorem dX11_part_11 : decode cX11_part 11 = .ok (.invokevirtual 111, 3) := by decide +kernel
theorem dX11_part_14 : decode cX11_part 14 = .ok (.ireturn, 1) := by decide +kernel
theorem dX11_part_15 : decode cX11_part 15 = .ok (.aload_n 0, 1) := by decide +kernel
theorem dX11_part_16 : decode cX11_part 16 = .ok (.iconst 0, 1) := by decide +kernel
theorem dX11_part_17 : decode cX11_part 17 = .ok (.putfield 93, 3) := by decide +kernel
theorem dX11_part_20 : decode cX11_part 20 = .ok (.iload_n 2, 1) := by decide +kernel
theorem dX11_part_21 : decode cX11_part 21 = .ok (.iconst 5, 1) := by decide +kernel
theorem dX11_part_22 : decode cX11_part 22 = .ok (.if_icmp .eq 9, 3) := by decide +kernel
theorem dX11_part_25 : decode cX11_part 25 = .ok (.iload_n 2, 1) := by decide +kernel
theorem dX11_part_26 : decode cX11_part 26 = .ok (.bipush 6, 2) := by decide +kernel
theorem dX11_part_28 : decode cX11_part 28 = .ok (.if_icmp .ne 7, 3) := by decide +kernel
theorem dX11_part_31 : decode cX11_part 31 = .ok (.aload_n 0, 1) := by decide +kernel
theorem dX11_part_32 : decode cX11_part 32 = .ok (.invokevirtual 160, 3) := by decide +kernel
theorem dX11_part_35 : decode cX11_part 35 = .ok (.aload_n 0, 1) := by decide +kernel
theorem dX11_part_36 : decode cX11_part 36 = .ok (.getfield 54, 3) := by decide +kernel
theorem dX11_part_39 : decode cX11_part 39 = .ok (.iload_n 2, 1) := by decide +kernel
theorem dX11_part_40 : decode cX11_part 40 = .ok (.iaload, 1) := by decide +kernel
theorem dX11_part_41 : decode cX11_part 41 = .ok (.ireturn, 1) := by decide +kernel
theorem dX11_next_0 : decode cX11_next 0 = .ok (.aload_n 0, 1) := by decide +kernel
theorem dX11_next_1 : decode cX11_next 1 = .ok (.getfield 142, 3) := by decide +kernel
theorem dX11_next_4 : decode cX11_next 4 = .ok (.ireturn, 1) := by decide +kernel
theorem dX11_returns_0 : decode cX11_returns 0 = .ok (.aload_n 0, 1) := by decide +kernel
theorem dX11_returns_1 : decode cX11_returns 1 = .ok (.getfield 151, 3) := by decide +kernel
theorem dX11_returns_4 : decode cX11_returns 4 = .ok (.ireturn, 1) := by decide +kernel
theorem dX11_bus_0 : decode cX11_bus 0 = .ok (.aload_n 0, 1) := by decide +kernel
theorem dX11_bus_1 : decode cX11_bus 1 = .ok (.getfield 228, 3) := by decide +kernel
theorem dX11_bus_4 : decode cX11_bus 4 = .ok (.ireturn, 1) := by decide +kernel
theorem dX11_drivers_0 : decode cX11_drivers 0 = .ok (.aload_n 0, 1) := by decide +kernel
theorem dX11_drivers_1 : decode cX11_drivers 1 = .ok (.getfield 231, 3) := by decide +kernel
theorem dX11_drivers_4 : decode cX11_drivers 4 = .ok (.ireturn, 1) := by decide +kernel
theorem dX11_walks_0 : decode cX11_walks 0 = .ok (.sipush 1300, 3) := by decide +kernel
theorem dX11_walks_3 : decode cX11_walks 3 = .ok (.newarray .int, 2) := by decide +kernel
theorem dX11_walks_5 : decode cX11_walks 5 = .ok (.astore_n 3, 1) := by decide +kernel
theorem dX11_walks_6 : decode cX11_walks 6 = .ok (.sipush 1296, 3) := by decide +kernel
theorem dX11_walks_9 : decode cX11_walks 9 = .ok (.newarray .boolean, 2) := by decide +kernel
theorem dX11_walks_11 : decode cX11_walks 11 = .ok (.astore 4, 2) := by decide +kernel
theorem dX11_walks_13 : decode cX11_walks 13 = .ok (.iconst 1, 1) := by decide +kernel
theorem dX11_walks_14 : decode cX11_walks 14 = .ok (.istore 5, 2) := by decide +kernel
theorem dX11_walks_16 : decode cX11_walks 16 = .ok (.iconst 0, 1) := by decide +kernel
theorem dX11_walks_17 : decode cX11_walks 17 = .ok (.istore 6, 2) := by decide +kernel
theorem dX11_walks_19 : decode cX11_walks 19 = .ok (.iconst 0, 1) := by decide +kernel
theorem dX11_walks_20 : decode cX11_walks 20 = .ok (.istore 7, 2) := by decide +kernel
theorem dX11_walks_22 : decode cX11_walks 22 = .ok (.aload_n 3, 1) := by decide +kernel
theorem dX11_walks_23 : decode cX11_walks 23 = .ok (.iconst 0, 1) := by decide +kernel
theorem dX11_walks_24 : decode cX11_walks 24 = .ok (.bipush 16, 2) := by decide +kernel
theorem dX11_walks_26 : decode cX11_walks 26 = .ok (.iload_n 1, 1) := by decide +kernel
theorem dX11_walks_27 : decode cX11_walks 27 = .ok (.imul, 1) := by decide +kernel
theorem dX11_walks_28 : decode cX11_walks 28 = .ok (.iastore, 1) := by decide +kernel
theorem dX11_walks_29 : decode cX11_walks 29 = .ok (.aload 4, 2) := by decide +kernel
theorem dX11_walks_31 : decode cX11_walks 31 = .ok (.bipush 16, 2) := by decide +kernel
theorem dX11_walks_33 : decode cX11_walks 33 = .ok (.iload_n 1, 1) := by decide +kernel
theorem dX11_walks_34 : decode cX11_walks 34 = .ok (.imul, 1) := by decide +kernel
theorem dX11_walks_35 : decode cX11_walks 35 = .ok (.iconst 1, 1) := by decide +kernel
theorem dX11_walks_36 : decode cX11_walks 36 = .ok (.bastore, 1) := by decide +kernel
theorem dX11_walks_37 : decode cX11_walks 37 = .ok (.iload 5, 2) := by decide +kernel
theorem dX11_walks_39 : decode cX11_walks 39 = .ok (.ifCond .le 205, 3) := by decide +kernel
theorem dX11_walks_42 : decode cX11_walks 42 = .ok (.iinc 5 (-1), 3) := by decide +kernel
theorem dX11_walks_45 : decode cX11_walks 45 = .ok (.aload_n 3, 1) := by decide +kernel
theorem dX11_walks_46 : decode cX11_walks 46 = .ok (.iload 5, 2) := by decide +kernel
theorem dX11_walks_48 : decode cX11_walks 48 = .ok (.iaload, 1) := by decide +kernel
theorem dX11_walks_49 : decode cX11_walks 49 = .ok (.bipush 16, 2) := by decide +kernel
theorem dX11_walks_51 : decode cX11_walks 51 = .ok (.idiv, 1) := by decide +kernel
theorem dX11_walks_52 : decode cX11_walks 52 = .ok (.istore 8, 2) := by decide +kernel
theorem dX11_walks_54 : decode cX11_walks 54 = .ok (.aload_n 3, 1) := by decide +kernel
theorem dX11_walks_55 : decode cX11_walks 55 = .ok (.iload 5, 2) := by decide +kernel
theorem dX11_walks_57 : decode cX11_walks 57 = .ok (.iaload, 1) := by decide +kernel
theorem dX11_walks_58 : decode cX11_walks 58 = .ok (.bipush 16, 2) := by decide +kernel
theorem dX11_walks_60 : decode cX11_walks 60 = .ok (.irem, 1) := by decide +kernel
theorem dX11_walks_61 : decode cX11_walks 61 = .ok (.istore 9, 2) := by decide +kernel
theorem dX11_walks_63 : decode cX11_walks 63 = .ok (.iload 8, 2) := by decide +kernel
theorem dX11_walks_65 : decode cX11_walks 65 = .ok (.bipush 80, 2) := by decide +kernel
theorem dX11_walks_67 : decode cX11_walks 67 = .ok (.if_icmp .ge (-30), 3) := by decide +kernel
theorem dX11_walks_70 : decode cX11_walks 70 = .ok (.aload_n 0, 1) := by decide +kernel
theorem dX11_walks_71 : decode cX11_walks 71 = .ok (.getfield 38, 3) := by decide +kernel
theorem dX11_walks_74 : decode cX11_walks 74 = .ok (.iload 8, 2) := by decide +kernel
theorem dX11_walks_76 : decode cX11_walks 76 = .ok (.baload, 1) := by decide +kernel
theorem dX11_walks_77 : decode cX11_walks 77 = .ok (.ifCond .ne 6, 3) := by decide +kernel
theorem dX11_walks_80 : decode cX11_walks 80 = .ok (.goto (-43), 3) := by decide +kernel
theorem dX11_walks_83 : decode cX11_walks 83 = .ok (.iload 6, 2) := by decide +kernel
theorem dX11_walks_85 : decode cX11_walks 85 = .ok (.aload_n 0, 1) := by decide +kernel
theorem dX11_walks_86 : decode cX11_walks 86 = .ok (.iload 8, 2) := by decide +kernel
theorem dX11_walks_88 : decode cX11_walks 88 = .ok (.invokevirtual 258, 3) := by decide +kernel
theorem dX11_walks_91 : decode cX11_walks 91 = .ok (.iload 9, 2) := by decide +kernel
theorem dX11_walks_93 : decode cX11_walks 93 = .ok (.iconst (-1), 1) := by decide +kernel
theorem dX11_walks_94 : decode cX11_walks 94 = .ok (.ixor, 1) := by decide +kernel
theorem dX11_walks_95 : decode cX11_walks 95 = .ok (.iand, 1) := by decide +kernel
theorem dX11_walks_96 : decode cX11_walks 96 = .ok (.ior, 1) := by decide +kernel
theorem dX11_walks_97 : decode cX11_walks 97 = .ok (.istore 6, 2) := by decide +kernel
theorem dX11_walks_99 : decode cX11_walks 99 = .ok (.iload 9, 2) := by decide +kernel
theorem dX11_walks_101 : decode cX11_walks 101 = .ok (.aload_n 0, 1) := by decide +kernel
theorem dX11_walks_102 : decode cX11_walks 102 = .ok (.getfield 16, 3) := by decide +kernel
theorem dX11_walks_105 : decode cX11_walks 105 = .ok (.iload 8, 2) := by decide +kernel
theorem dX11_walks_107 : decode cX11_walks 107 = .ok (.iaload, 1) := by decide +kernel
theorem dX11_walks_108 : decode cX11_walks 108 = .ok (.bipush 15, 2) := by decide +kernel
theorem dX11_walks_110 : decode cX11_walks 110 = .ok (.iand, 1) := by decide +kernel
theorem dX11_walks_111 : decode cX11_walks 111 = .ok (.aload_n 0, 1) := by decide +kernel
theorem dX11_walks_112 : decode cX11_walks 112 = .ok (.getfield 19, 3) := by decide +kernel
theorem dX11_walks_115 : decode cX11_walks 115 = .ok (.iload 8, 2) := by decide +kernel
theorem dX11_walks_117 : decode cX11_walks 117 = .ok (.iaload, 1) := by decide +kernel
theorem dX11_walks_118 : decode cX11_walks 118 = .ok (.iconst 1, 1) := by decide +kernel
theorem dX11_walks_119 : decode cX11_walks 119 = .ok (.if_icmp .ne 8, 3) := by decide +kernel
theorem dX11_walks_122 : decode cX11_walks 122 = .ok (.bipush 8, 2) := by decide +kernel
theorem dX11_walks_124 : decode cX11_walks 124 = .ok (.goto 4, 3) := by decide +kernel
theorem dX11_walks_127 : decode cX11_walks 127 = .ok (.iconst 0, 1) := by decide +kernel
theorem dX11_walks_128 : decode cX11_walks 128 = .ok (.ior, 1) := by decide +kernel
theorem dX11_walks_129 : decode cX11_walks 129 = .ok (.ior, 1) := by decide +kernel
theorem dX11_walks_130 : decode cX11_walks 130 = .ok (.istore 9, 2) := by decide +kernel
theorem dX11_walks_132 : decode cX11_walks 132 = .ok (.iconst 0, 1) := by decide +kernel
theorem dX11_walks_133 : decode cX11_walks 133 = .ok (.istore 10, 2) := by decide +kernel
theorem dX11_walks_135 : decode cX11_walks 135 = .ok (.iload 10, 2) := by decide +kernel
theorem dX11_walks_137 : decode cX11_walks 137 = .ok (.bipush 9, 2) := by decide +kernel
theorem dX11_walks_139 : decode cX11_walks 139 = .ok (.if_icmp .ge 102, 3) := by decide +kernel
theorem dX11_walks_142 : decode cX11_walks 142 = .ok (.iload 10, 2) := by decide +kernel
theorem dX11_walks_144 : decode cX11_walks 144 = .ok (.bipush 8, 2) := by decide +kernel
theorem dX11_walks_146 : decode cX11_walks 146 = .ok (.if_icmp .ne 30, 3) := by decide +kernel
theorem dX11_walks_149 : decode cX11_walks 149 = .ok (.aload_n 0, 1) := by decide +kernel
theorem dX11_walks_150 : decode cX11_walks 150 = .ok (.getfield 34, 3) := by decide +kernel
theorem dX11_walks_153 : decode cX11_walks 153 = .ok (.iload 8, 2) := by decide +kernel
theorem dX11_walks_155 : decode cX11_walks 155 = .ok (.caload, 1) := by decide +kernel
theorem dX11_walks_156 : decode cX11_walks 156 = .ok (.bipush 99, 2) := by decide +kernel
theorem dX11_walks_158 : decode cX11_walks 158 = .ok (.if_icmp .ne 14, 3) := by decide +kernel
theorem dX11_walks_161 : decode cX11_walks 161 = .ok (.aload_n 0, 1) := by decide +kernel
theorem dX11_walks_162 : decode cX11_walks 162 = .ok (.iload 8, 2) := by decide +kernel
theorem dX11_walks_164 : decode cX11_walks 164 = .ok (.iconst 1, 1) := by decide +kernel
theorem dX11_walks_165 : decode cX11_walks 165 = .ok (.iadd, 1) := by decide +kernel
theorem dX11_walks_166 : decode cX11_walks 166 = .ok (.invokevirtual 219, 3) := by decide +kernel
theorem dX11_walks_169 : decode cX11_walks 169 = .ok (.goto 15, 3) := by decide +kernel
theorem dX11_walks_172 : decode cX11_walks 172 = .ok (.iconst (-1), 1) := by decide +kernel
theorem dX11_walks_173 : decode cX11_walks 173 = .ok (.goto 11, 3) := by decide +kernel
theorem dX11_walks_176 : decode cX11_walks 176 = .ok (.aload_n 0, 1) := by decide +kernel
theorem dX11_walks_177 : decode cX11_walks 177 = .ok (.iload 8, 2) := by decide +kernel
theorem dX11_walks_179 : decode cX11_walks 179 = .ok (.iload 10, 2) := by decide +kernel
theorem dX11_walks_181 : decode cX11_walks 181 = .ok (.invokevirtual 261, 3) := by decide +kernel
theorem dX11_walks_184 : decode cX11_walks 184 = .ok (.istore 11, 2) := by decide +kernel
theorem dX11_walks_186 : decode cX11_walks 186 = .ok (.iload 11, 2) := by decide +kernel
theorem dX11_walks_188 : decode cX11_walks 188 = .ok (.ifCond .lt 47, 3) := by decide +kernel
theorem dX11_walks_191 : decode cX11_walks 191 = .ok (.aload 4, 2) := by decide +kernel
theorem dX11_walks_193 : decode cX11_walks 193 = .ok (.bipush 16, 2) := by decide +kernel
theorem dX11_walks_195 : decode cX11_walks 195 = .ok (.iload 11, 2) := by decide +kernel
theorem dX11_walks_197 : decode cX11_walks 197 = .ok (.imul, 1) := by decide +kernel
theorem dX11_walks_198 : decode cX11_walks 198 = .ok (.iload 9, 2) := by decide +kernel
theorem dX11_walks_200 : decode cX11_walks 200 = .ok (.iadd, 1) := by decide +kernel
theorem dX11_walks_201 : decode cX11_walks 201 = .ok (.baload, 1) := by decide +kernel
theorem dX11_walks_202 : decode cX11_walks 202 = .ok (.ifCond .eq 6, 3) := by decide +kernel
theorem dX11_walks_205 : decode cX11_walks 205 = .ok (.goto 30, 3) := by decide +kernel
theorem dX11_walks_208 : decode cX11_walks 208 = .ok (.aload 4, 2) := by decide +kernel
theorem dX11_walks_210 : decode cX11_walks 210 = .ok (.bipush 16, 2) := by decide +kernel
theorem dX11_walks_212 : decode cX11_walks 212 = .ok (.iload 11, 2) := by decide +kernel
theorem dX11_walks_214 : decode cX11_walks 214 = .ok (.imul, 1) := by decide +kernel
theorem dX11_walks_215 : decode cX11_walks 215 = .ok (.iload 9, 2) := by decide +kernel
theorem dX11_walks_217 : decode cX11_walks 217 = .ok (.iadd, 1) := by decide +kernel
theorem dX11_walks_218 : decode cX11_walks 218 = .ok (.iconst 1, 1) := by decide +kernel
theorem dX11_walks_219 : decode cX11_walks 219 = .ok (.bastore, 1) := by decide +kernel
theorem dX11_walks_220 : decode cX11_walks 220 = .ok (.aload_n 3, 1) := by decide +kernel
theorem dX11_walks_221 : decode cX11_walks 221 = .ok (.iload 5, 2) := by decide +kernel
theorem dX11_walks_223 : decode cX11_walks 223 = .ok (.bipush 16, 2) := by decide +kernel
theorem dX11_walks_225 : decode cX11_walks 225 = .ok (.iload 11, 2) := by decide +kernel
theorem dX11_walks_227 : decode cX11_walks 227 = .ok (.imul, 1) := by decide +kernel
theorem dX11_walks_228 : decode cX11_walks 228 = .ok (.iload 9, 2) := by decide +kernel
theorem dX11_walks_230 : decode cX11_walks 230 = .ok (.iadd, 1) := by decide +kernel
theorem dX11_walks_231 : decode cX11_walks 231 = .ok (.iastore, 1) := by decide +kernel
theorem dX11_walks_232 : decode cX11_walks 232 = .ok (.iinc 5 1, 3) := by decide +kernel
theorem dX11_walks_235 : decode cX11_walks 235 = .ok (.iinc 10 1, 3) := by decide +kernel
theorem dX11_walks_238 : decode cX11_walks 238 = .ok (.goto (-103), 3) := by decide +kernel
theorem dX11_walks_241 : decode cX11_walks 241 = .ok (.goto (-204), 3) := by decide +kernel
theorem dX11_walks_244 : decode cX11_walks 244 = .ok (.iconst 0, 1) := by decide +kernel
theorem dX11_walks_245 : decode cX11_walks 245 = .ok (.istore 8, 2) := by decide +kernel
theorem dX11_walks_247 : decode cX11_walks 247 = .ok (.iload 8, 2) := by decide +kernel
theorem dX11_walks_249 : decode cX11_walks 249 = .ok (.bipush 80, 2) := by decide +kernel
theorem dX11_walks_251 : decode cX11_walks 251 = .ok (.if_icmp .ge 69, 3) := by decide +kernel
theorem dX11_walks_254 : decode cX11_walks 254 = .ok (.iconst 0, 1) := by decide +kernel
theorem dX11_walks_255 : decode cX11_walks 255 = .ok (.istore 9, 2) := by decide +kernel
theorem dX11_walks_257 : decode cX11_walks 257 = .ok (.iconst 0, 1) := by decide +kernel
theorem dX11_walks_258 : decode cX11_walks 258 = .ok (.istore 10, 2) := by decide +kernel
theorem dX11_walks_260 : decode cX11_walks 260 = .ok (.iload 10, 2) := by decide +kernel
theorem dX11_walks_262 : decode cX11_walks 262 = .ok (.bipush 16, 2) := by decide +kernel
theorem dX11_walks_264 : decode cX11_walks 264 = .ok (.if_icmp .ge 25, 3) := by decide +kernel
theorem dX11_walks_267 : decode cX11_walks 267 = .ok (.iload 9, 2) := by decide +kernel
theorem dX11_walks_269 : decode cX11_walks 269 = .ok (.aload 4, 2) := by decide +kernel
theorem dX11_walks_271 : decode cX11_walks 271 = .ok (.bipush 16, 2) := by decide +kernel
theorem dX11_walks_273 : decode cX11_walks 273 = .ok (.iload 8, 2) := by decide +kernel
theorem dX11_walks_275 : decode cX11_walks 275 = .ok (.imul, 1) := by decide +kernel
theorem dX11_walks_276 : decode cX11_walks 276 = .ok (.iload 10, 2) := by decide +kernel
theorem dX11_walks_278 : decode cX11_walks 278 = .ok (.iadd, 1) := by decide +kernel
theorem dX11_walks_279 : decode cX11_walks 279 = .ok (.baload, 1) := by decide +kernel
theorem dX11_walks_280 : decode cX11_walks 280 = .ok (.ior, 1) := by decide +kernel
theorem dX11_walks_281 : decode cX11_walks 281 = .ok (.istore 9, 2) := by decide +kernel
theorem dX11_walks_283 : decode cX11_walks 283 = .ok (.iinc 10 1, 3) := by decide +kernel
theorem dX11_walks_286 : decode cX11_walks 286 = .ok (.goto (-26), 3) := by decide +kernel
theorem dX11_walks_289 : decode cX11_walks 289 = .ok (.iload 7, 2) := by decide +kernel
theorem dX11_walks_291 : decode cX11_walks 291 = .ok (.iload 9, 2) := by decide +kernel
theorem dX11_walks_293 : decode cX11_walks 293 = .ok (.ifCond .eq 17, 3) := by decide +kernel
theorem dX11_walks_296 : decode cX11_walks 296 = .ok (.aload_n 0, 1) := by decide +kernel
theorem dX11_walks_297 : decode cX11_walks 297 = .ok (.getfield 38, 3) := by decide +kernel
theorem dX11_walks_300 : decode cX11_walks 300 = .ok (.iload 8, 2) := by decide +kernel
theorem dX11_walks_302 : decode cX11_walks 302 = .ok (.baload, 1) := by decide +kernel
theorem dX11_walks_303 : decode cX11_walks 303 = .ok (.ifCond .eq 7, 3) := by decide +kernel
theorem dX11_walks_306 : decode cX11_walks 306 = .ok (.iconst 1, 1) := by decide +kernel
theorem dX11_walks_307 : decode cX11_walks 307 = .ok (.goto 4, 3) := by decide +kernel
theorem dX11_walks_310 : decode cX11_walks 310 = .ok (.iconst 0, 1) := by decide +kernel
theorem dX11_walks_311 : decode cX11_walks 311 = .ok (.iadd, 1) := by decide +kernel
theorem dX11_walks_312 : decode cX11_walks 312 = .ok (.istore 7, 2) := by decide +kernel
theorem dX11_walks_314 : decode cX11_walks 314 = .ok (.iinc 8 1, 3) := by decide +kernel
theorem dX11_walks_317 : decode cX11_walks 317 = .ok (.goto (-70), 3) := by decide +kernel
theorem dX11_walks_320 : decode cX11_walks 320 = .ok (.iload_n 2, 1) := by decide +kernel
theorem dX11_walks_321 : decode cX11_walks 321 = .ok (.ifCond .eq 8, 3) := by decide +kernel
theorem dX11_walks_324 : decode cX11_walks 324 = .ok (.iload 6, 2) := by decide +kernel
theorem dX11_walks_326 : decode cX11_walks 326 = .ok (.goto 5, 3) := by decide +kernel
theorem dX11_walks_329 : decode cX11_walks 329 = .ok (.iload 7, 2) := by decide +kernel
theorem dX11_walks_331 : decode cX11_walks 331 = .ok (.ireturn, 1) := by decide +kernel
theorem dX11_reads_0 : decode cX11_reads 0 = .ok (.aload_n 0, 1) := by decide +kernel
theorem dX11_reads_1 : decode cX11_reads 1 = .ok (.getfield 7, 3) := by decide +kernel
theorem dX11_reads_4 : decode cX11_reads 4 = .ok (.iload_n 1, 1) := by decide +kernel
theorem dX11_reads_5 : decode cX11_reads 5 = .ok (.iaload, 1) := by decide +kernel
theorem dX11_reads_6 : decode cX11_reads 6 = .ok (.iconst 1, 1) := by decide +kernel
theorem dX11_reads_7 : decode cX11_reads 7 = .ok (.iand, 1) := by decide +kernel
theorem dX11_reads_8 : decode cX11_reads 8 = .ok (.aload_n 0, 1) := by decide +kernel
theorem dX11_reads_9 : decode cX11_reads 9 = .ok (.getfield 7, 3) := by decide +kernel
theorem dX11_reads_12 : decode cX11_reads 12 = .ok (.iload_n 1, 1) := by decide +kernel
theorem dX11_reads_13 : decode cX11_reads 13 = .ok (.iaload, 1) := by decide +kernel
theorem dX11_reads_14 : decode cX11_reads 14 = .ok (.iconst 2, 1) := by decide +kernel
theorem dX11_reads_15 : decode cX11_reads 15 = .ok (.iand, 1) := by decide +kernel
theorem dX11_reads_16 : decode cX11_reads 16 = .ok (.ior, 1) := by decide +kernel
theorem dX11_reads_17 : decode cX11_reads 17 = .ok (.aload_n 0, 1) := by decide +kernel
theorem dX11_reads_18 : decode cX11_reads 18 = .ok (.getfield 7, 3) := by decide +kernel
theorem dX11_reads_21 : decode cX11_reads 21 = .ok (.iload_n 1, 1) := by decide +kernel
theorem dX11_reads_22 : decode cX11_reads 22 = .ok (.iaload, 1) := by decide +kernel
theorem dX11_reads_23 : decode cX11_reads 23 = .ok (.iconst 4, 1) := by decide +kernel
theorem dX11_reads_24 : decode cX11_reads 24 = .ok (.iand, 1) := by decide +kernel
theorem dX11_reads_25 : decode cX11_reads 25 = .ok (.iconst 2, 1) := by decide +kernel
theorem dX11_reads_26 : decode cX11_reads 26 = .ok (.imul, 1) := by decide +kernel
theorem dX11_reads_27 : decode cX11_reads 27 = .ok (.ior, 1) := by decide +kernel
theorem dX11_reads_28 : decode cX11_reads 28 = .ok (.aload_n 0, 1) := by decide +kernel
theorem dX11_reads_29 : decode cX11_reads 29 = .ok (.getfield 13, 3) := by decide +kernel
theorem dX11_reads_32 : decode cX11_reads 32 = .ok (.iload_n 1, 1) := by decide +kernel
theorem dX11_reads_33 : decode cX11_reads 33 = .ok (.iaload, 1) := by decide +kernel
theorem dX11_reads_34 : decode cX11_reads 34 = .ok (.iconst 1, 1) := by decide +kernel
theorem dX11_reads_35 : decode cX11_reads 35 = .ok (.iconst 4, 1) := by decide +kernel
theorem dX11_reads_36 : decode cX11_reads 36 = .ok (.invokestatic 96, 3) := by decide +kernel
theorem dX11_reads_39 : decode cX11_reads 39 = .ok (.ifCond .eq 7, 3) := by decide +kernel
theorem dX11_reads_42 : decode cX11_reads 42 = .ok (.iconst 1, 1) := by decide +kernel
theorem dX11_reads_43 : decode cX11_reads 43 = .ok (.goto 4, 3) := by decide +kernel
theorem dX11_reads_46 : decode cX11_reads 46 = .ok (.iconst 0, 1) := by decide +kernel
theorem dX11_reads_47 : decode cX11_reads 47 = .ok (.ior, 1) := by decide +kernel
theorem dX11_reads_48 : decode cX11_reads 48 = .ok (.istore_n 2, 1) := by decide +kernel
theorem dX11_reads_49 : decode cX11_reads 49 = .ok (.aload_n 0, 1) := by decide +kernel
theorem dX11_reads_50 : decode cX11_reads 50 = .ok (.getfield 19, 3) := by decide +kernel
theorem dX11_reads_53 : decode cX11_reads 53 = .ok (.iload_n 1, 1) := by decide +kernel
theorem dX11_reads_54 : decode cX11_reads 54 = .ok (.iaload, 1) := by decide +kernel
theorem dX11_reads_55 : decode cX11_reads 55 = .ok (.ifCond .eq 18, 3) := by decide +kernel
theorem dX11_reads_58 : decode cX11_reads 58 = .ok (.aload_n 0, 1) := by decide +kernel
theorem dX11_reads_59 : decode cX11_reads 59 = .ok (.getfield 16, 3) := by decide +kernel
theorem dX11_reads_62 : decode cX11_reads 62 = .ok (.iload_n 1, 1) := by decide +kernel
theorem dX11_reads_63 : decode cX11_reads 63 = .ok (.iaload, 1) := by decide +kernel
theorem dX11_reads_64 : decode cX11_reads 64 = .ok (.iconst 4, 1) := by decide +kernel
theorem dX11_reads_65 : decode cX11_reads 65 = .ok (.iand, 1) := by decide +kernel
theorem dX11_reads_66 : decode cX11_reads 66 = .ok (.ifCond .ne 7, 3) := by decide +kernel
theorem dX11_reads_69 : decode cX11_reads 69 = .ok (.iload_n 2, 1) := by decide +kernel
theorem dX11_reads_70 : decode cX11_reads 70 = .ok (.iconst 4, 1) := by decide +kernel
theorem dX11_reads_71 : decode cX11_reads 71 = .ok (.ior, 1) := by decide +kernel
theorem dX11_reads_72 : decode cX11_reads 72 = .ok (.istore_n 2, 1) := by decide +kernel
theorem dX11_reads_73 : decode cX11_reads 73 = .ok (.aload_n 0, 1) := by decide +kernel
theorem dX11_reads_74 : decode cX11_reads 74 = .ok (.getfield 19, 3) := by decide +kernel
theorem dX11_reads_77 : decode cX11_reads 77 = .ok (.iload_n 1, 1) := by decide +kernel
theorem dX11_reads_78 : decode cX11_reads 78 = .ok (.iaload, 1) := by decide +kernel
theorem dX11_reads_79 : decode cX11_reads 79 = .ok (.iconst 2, 1) := by decide +kernel
theorem dX11_reads_80 : decode cX11_reads 80 = .ok (.if_icmp .ne 22, 3) := by decide +kernel
theorem dX11_reads_83 : decode cX11_reads 83 = .ok (.aload_n 0, 1) := by decide +kernel
theorem dX11_reads_84 : decode cX11_reads 84 = .ok (.getfield 16, 3) := by decide +kernel
theorem dX11_reads_87 : decode cX11_reads 87 = .ok (.iload_n 1, 1) := by decide +kernel
theorem dX11_reads_88 : decode cX11_reads 88 = .ok (.iaload, 1) := by decide +kernel
theorem dX11_reads_89 : decode cX11_reads 89 = .ok (.bipush 8, 2) := by decide +kernel
theorem dX11_reads_91 : decode cX11_reads 91 = .ok (.iand, 1) := by decide +kernel
theorem dX11_reads_92 : decode cX11_reads 92 = .ok (.ifCond .ne 10, 3) := by decide +kernel
theorem dX11_reads_95 : decode cX11_reads 95 = .ok (.iload_n 2, 1) := by decide +kernel
theorem dX11_reads_96 : decode cX11_reads 96 = .ok (.bipush 8, 2) := by decide +kernel
theorem dX11_reads_98 : decode cX11_reads 98 = .ok (.ior, 1) := by decide +kernel
theorem dX11_reads_99 : decode cX11_reads 99 = .ok (.goto 4, 3) := by decide +kernel
theorem dX11_reads_102 : decode cX11_reads 102 = .ok (.iload_n 2, 1) := by decide +kernel
theorem dX11_reads_103 : decode cX11_reads 103 = .ok (.ireturn, 1) := by decide +kernel
theorem dX11_way_0 : decode cX11_way 0 = .ok (.aload_n 0, 1) := by decide +kernel
theorem dX11_way_1 : decode cX11_way 1 = .ok (.getfield 34, 3) := by decide +kernel
theorem dX11_way_4 : decode cX11_way 4 = .ok (.iload_n 1, 1) := by decide +kernel
theorem dX11_way_5 : decode cX11_way 5 = .ok (.caload, 1) := by decide +kernel
theorem dX11_way_6 : decode cX11_way 6 = .ok (.bipush 110, 2) := by decide +kernel
theorem dX11_way_8 : decode cX11_way 8 = .ok (.if_icmp .eq 14, 3) := by decide +kernel
theorem dX11_way_11 : decode cX11_way 11 = .ok (.aload_n 0, 1) := by decide +kernel
theorem dX11_way_12 : decode cX11_way 12 = .ok (.getfield 34, 3) := by decide +kernel
theorem dX11_way_15 : decode cX11_way 15 = .ok (.iload_n 1, 1) := by decide +kernel
theorem dX11_way_16 : decode cX11_way 16 = .ok (.caload, 1) := by decide +kernel
theorem dX11_way_17 : decode cX11_way 17 = .ok (.bipush 99, 2) := by decide +kernel
theorem dX11_way_19 : decode cX11_way 19 = .ok (.if_icmp .ne 22, 3) := by decide +kernel
theorem dX11_way_22 : decode cX11_way 22 = .ok (.iload_n 2, 1) := by decide +kernel
theorem dX11_way_23 : decode cX11_way 23 = .ok (.ifCond .ne 16, 3) := by decide +kernel
theorem dX11_way_26 : decode cX11_way 26 = .ok (.aload_n 0, 1) := by decide +kernel
theorem dX11_way_27 : decode cX11_way 27 = .ok (.aload_n 0, 1) := by decide +kernel
theorem dX11_way_28 : decode cX11_way 28 = .ok (.getfield 22, 3) := by decide +kernel
theorem dX11_way_31 : decode cX11_way 31 = .ok (.iload_n 1, 1) := by decide +kernel
theorem dX11_way_32 : decode cX11_way 32 = .ok (.iaload, 1) := by decide +kernel
theorem dX11_way_33 : decode cX11_way 33 = .ok (.invokevirtual 219, 3) := by decide +kernel
theorem dX11_way_36 : decode cX11_way 36 = .ok (.goto 4, 3) := by decide +kernel
theorem dX11_way_39 : decode cX11_way 39 = .ok (.iconst (-1), 1) := by decide +kernel
theorem dX11_way_40 : decode cX11_way 40 = .ok (.ireturn, 1) := by decide +kernel
theorem dX11_way_41 : decode cX11_way 41 = .ok (.aload_n 0, 1) := by decide +kernel
theorem dX11_way_42 : decode cX11_way 42 = .ok (.getfield 34, 3) := by decide +kernel
theorem dX11_way_45 : decode cX11_way 45 = .ok (.iload_n 1, 1) := by decide +kernel
theorem dX11_way_46 : decode cX11_way 46 = .ok (.caload, 1) := by decide +kernel
theorem dX11_way_47 : decode cX11_way 47 = .ok (.bipush 111, 2) := by decide +kernel
theorem dX11_way_49 : decode cX11_way 49 = .ok (.if_icmp .ne 31, 3) := by decide +kernel
theorem dX11_way_52 : decode cX11_way 52 = .ok (.iload_n 2, 1) := by decide +kernel
theorem dX11_way_53 : decode cX11_way 53 = .ok (.aload_n 0, 1) := by decide +kernel
theorem dX11_way_54 : decode cX11_way 54 = .ok (.getfield 25, 3) := by decide +kernel
theorem dX11_way_57 : decode cX11_way 57 = .ok (.iload_n 1, 1) := by decide +kernel
theorem dX11_way_58 : decode cX11_way 58 = .ok (.iaload, 1) := by decide +kernel
theorem dX11_way_59 : decode cX11_way 59 = .ok (.iconst (-1), 1) := by decide +kernel
theorem dX11_way_60 : decode cX11_way 60 = .ok (.ixor, 1) := by decide +kernel
theorem dX11_way_61 : decode cX11_way 61 = .ok (.iand, 1) := by decide +kernel
theorem dX11_way_62 : decode cX11_way 62 = .ok (.ifCond .ne 18, 3) := by decide +kernel
theorem dX11_way_65 : decode cX11_way 65 = .ok (.aload_n 0, 1) := by decide +kernel
theorem dX11_way_66 : decode cX11_way 66 = .ok (.aload_n 0, 1) := by decide +kernel
theorem dX11_way_67 : decode cX11_way 67 = .ok (.getfield 22, 3) := by decide +kernel
theorem dX11_way_70 : decode cX11_way 70 = .ok (.iload_n 1, 1) := by decide +kernel
theorem dX11_way_71 : decode cX11_way 71 = .ok (.iaload, 1) := by decide +kernel
theorem dX11_way_72 : decode cX11_way 72 = .ok (.iload_n 2, 1) := by decide +kernel
theorem dX11_way_73 : decode cX11_way 73 = .ok (.ior, 1) := by decide +kernel
theorem dX11_way_74 : decode cX11_way 74 = .ok (.invokevirtual 219, 3) := by decide +kernel
theorem dX11_way_77 : decode cX11_way 77 = .ok (.goto 4, 3) := by decide +kernel
theorem dX11_way_80 : decode cX11_way 80 = .ok (.iconst (-1), 1) := by decide +kernel
theorem dX11_way_81 : decode cX11_way 81 = .ok (.ireturn, 1) := by decide +kernel
theorem dX11_unset_0 : decode cX11_unset 0 = .ok (.aload_n 0, 1) := by decide +kernel
theorem dX11_unset_1 : decode cX11_unset 1 = .ok (.iload_n 1, 1) := by decide +kernel
theorem dX11_unset_2 : decode cX11_unset 2 = .ok (.bipush 80, 2) := by decide +kernel
theorem dX11_unset_4 : decode cX11_unset 4 = .ok (.invokevirtual 104, 3) := by decide +kernel
theorem dX11_unset_7 : decode cX11_unset 7 = .ok (.ifCond .eq 7, 3) := by decide +kernel
theorem dX11_unset_10 : decode cX11_unset 10 = .ok (.iconst 0, 1) := by decide +kernel
theorem dX11_unset_11 : decode cX11_unset 11 = .ok (.goto 9, 3) := by decide +kernel
theorem dX11_unset_14 : decode cX11_unset 14 = .ok (.aload_n 0, 1) := by decide +kernel
theorem dX11_unset_15 : decode cX11_unset 15 = .ok (.iload_n 1, 1) := by decide +kernel
theorem dX11_unset_16 : decode cX11_unset 16 = .ok (.iconst 1, 1) := by decide +kernel
theorem dX11_unset_17 : decode cX11_unset 17 = .ok (.invokevirtual 265, 3) := by decide +kernel
theorem dX11_unset_20 : decode cX11_unset 20 = .ok (.ireturn, 1) := by decide +kernel
theorem dX11_reached_0 : decode cX11_reached 0 = .ok (.aload_n 0, 1) := by decide +kernel
theorem dX11_reached_1 : decode cX11_reached 1 = .ok (.iload_n 1, 1) := by decide +kernel
theorem dX11_reached_2 : decode cX11_reached 2 = .ok (.bipush 80, 2) := by decide +kernel
theorem dX11_reached_4 : decode cX11_reached 4 = .ok (.invokevirtual 104, 3) := by decide +kernel
theorem dX11_reached_7 : decode cX11_reached 7 = .ok (.ifCond .eq 7, 3) := by decide +kernel
theorem dX11_reached_10 : decode cX11_reached 10 = .ok (.iconst 0, 1) := by decide +kernel
theorem dX11_reached_11 : decode cX11_reached 11 = .ok (.goto 9, 3) := by decide +kernel
theorem dX11_reached_14 : decode cX11_reached 14 = .ok (.aload_n 0, 1) := by decide +kernel
theorem dX11_reached_15 : decode cX11_reached 15 = .ok (.iload_n 1, 1) := by decide +kernel
theorem dX11_reached_16 : decode cX11_reached 16 = .ok (.iconst 0, 1) := by decide +kernel
theorem dX11_reached_17 : decode cX11_reached 17 = .ok (.invokevirtual 265, 3) := by decide +kernel
theorem dX11_reached_20 : decode cX11_reached 20 = .ok (.ireturn, 1) := by decide +kernel
theorem dX11_takes_0 : decode cX11_takes 0 = .ok (.aload_n 0, 1) := by decide +kernel
theorem dX11_takes_1 : decode cX11_takes 1 = .ok (.getfield 72, 3) := by decide +kernel
theorem dX11_takes_4 : decode cX11_takes 4 = .ok (.aload_n 0, 1) := by decide +kernel
theorem dX11_takes_5 : decode cX11_takes 5 = .ok (.getfield 69, 3) := by decide +kernel
theorem dX11_takes_8 : decode cX11_takes 8 = .ok (.iconst 4, 1) := by decide +kernel
theorem dX11_takes_9 : decode cX11_takes 9 = .ok (.iaload, 1) := by decide +kernel
theorem dX11_takes_10 : decode cX11_takes 10 = .ok (.iaload, 1) := by decide +kernel
theorem dX11_takes_11 : decode cX11_takes 11 = .ok (.istore_n 1, 1) := by decide +kernel
theorem dX11_takes_12 : decode cX11_takes 12 = .ok (.aload_n 0, 1) := by decide +kernel
theorem dX11_takes_13 : decode cX11_takes 13 = .ok (.getfield 69, 3) := by decide +kernel
theorem dX11_takes_16 : decode cX11_takes 16 = .ok (.iconst 4, 1) := by decide +kernel
theorem dX11_takes_17 : decode cX11_takes 17 = .ok (.aload_n 0, 1) := by decide +kernel
theorem dX11_takes_18 : decode cX11_takes 18 = .ok (.getfield 69, 3) := by decide +kernel
theorem dX11_takes_21 : decode cX11_takes 21 = .ok (.iconst 4, 1) := by decide +kernel
theorem dX11_takes_22 : decode cX11_takes 22 = .ok (.iaload, 1) := by decide +kernel
theorem dX11_takes_23 : decode cX11_takes 23 = .ok (.iconst 1, 1) := by decide +kernel
theorem dX11_takes_24 : decode cX11_takes 24 = .ok (.iadd, 1) := by decide +kernel
theorem dX11_takes_25 : decode cX11_takes 25 = .ok (.bipush 64, 2) := by decide +kernel
theorem dX11_takes_27 : decode cX11_takes 27 = .ok (.irem, 1) := by decide +kernel
theorem dX11_takes_28 : decode cX11_takes 28 = .ok (.iastore, 1) := by decide +kernel
theorem dX11_takes_29 : decode cX11_takes 29 = .ok (.iload_n 1, 1) := by decide +kernel
theorem dX11_takes_30 : decode cX11_takes 30 = .ok (.ireturn, 1) := by decide +kernel
theorem dX11_flags_0 : decode cX11_flags 0 = .ok (.aload_n 0, 1) := by decide +kernel
theorem dX11_flags_1 : decode cX11_flags 1 = .ok (.getfield 69, 3) := by decide +kernel
theorem dX11_flags_4 : decode cX11_flags 4 = .ok (.iconst 5, 1) := by decide +kernel
theorem dX11_flags_5 : decode cX11_flags 5 = .ok (.iload_n 1, 1) := by decide +kernel
theorem dX11_flags_6 : decode cX11_flags 6 = .ok (.iload_n 2, 1) := by decide +kernel
theorem dX11_flags_7 : decode cX11_flags 7 = .ok (.iload_n 3, 1) := by decide +kernel
theorem dX11_flags_8 : decode cX11_flags 8 = .ok (.invokestatic 197, 3) := by decide +kernel
theorem dX11_flags_11 : decode cX11_flags 11 = .ok (.ifCond .ne 7, 3) := by decide +kernel
theorem dX11_flags_14 : decode cX11_flags 14 = .ok (.iconst 1, 1) := by decide +kernel
theorem dX11_flags_15 : decode cX11_flags 15 = .ok (.goto 4, 3) := by decide +kernel
theorem dX11_flags_18 : decode cX11_flags 18 = .ok (.iconst 0, 1) := by decide +kernel
theorem dX11_flags_19 : decode cX11_flags 19 = .ok (.iastore, 1) := by decide +kernel
theorem dX11_flags_20 : decode cX11_flags 20 = .ok (.aload_n 0, 1) := by decide +kernel
theorem dX11_flags_21 : decode cX11_flags 21 = .ok (.getfield 69, 3) := by decide +kernel
theorem dX11_flags_24 : decode cX11_flags 24 = .ok (.bipush 6, 2) := by decide +kernel
theorem dX11_flags_26 : decode cX11_flags 26 = .ok (.iload_n 1, 1) := by decide +kernel
theorem dX11_flags_27 : decode cX11_flags 27 = .ok (.iload_n 2, 1) := by decide +kernel
theorem dX11_flags_28 : decode cX11_flags 28 = .ok (.iload_n 3, 1) := by decide +kernel
theorem dX11_flags_29 : decode cX11_flags 29 = .ok (.invokestatic 201, 3) := by decide +kernel
theorem dX11_flags_32 : decode cX11_flags 32 = .ok (.iastore, 1) := by decide +kernel
theorem dX11_flags_33 : decode cX11_flags 33 = .ok (.return_, 1) := by decide +kernel
theorem dX11_defines_0 : decode cX11_defines 0 = .ok (.iconst 0, 1) := by decide +kernel
theorem dX11_defines_1 : decode cX11_defines 1 = .ok (.istore_n 1, 1) := by decide +kernel
theorem dX11_defines_2 : decode cX11_defines 2 = .ok (.iload_n 1, 1) := by decide +kernel
theorem dX11_defines_3 : decode cX11_defines 3 = .ok (.bipush 10, 2) := by decide +kernel
theorem dX11_defines_5 : decode cX11_defines 5 = .ok (.if_icmp .ge 21, 3) := by decide +kernel
theorem dX11_defines_8 : decode cX11_defines 8 = .ok (.aload_n 0, 1) := by decide +kernel
theorem dX11_defines_9 : decode cX11_defines 9 = .ok (.getfield 69, 3) := by decide +kernel
theorem dX11_defines_12 : decode cX11_defines 12 = .ok (.iload_n 1, 1) := by decide +kernel
theorem dX11_defines_13 : decode cX11_defines 13 = .ok (.aload_n 0, 1) := by decide +kernel
theorem dX11_defines_14 : decode cX11_defines 14 = .ok (.getfield 57, 3) := by decide +kernel
theorem dX11_defines_17 : decode cX11_defines 17 = .ok (.iload_n 1, 1) := by decide +kernel
theorem dX11_defines_18 : decode cX11_defines 18 = .ok (.iaload, 1) := by decide +kernel
theorem dX11_defines_19 : decode cX11_defines 19 = .ok (.iastore, 1) := by decide +kernel
theorem dX11_defines_20 : decode cX11_defines 20 = .ok (.iinc 1 1, 3) := by decide +kernel
theorem dX11_defines_23 : decode cX11_defines 23 = .ok (.goto (-21), 3) := by decide +kernel
theorem dX11_defines_26 : decode cX11_defines 26 = .ok (.iconst 0, 1) := by decide +kernel
theorem dX11_defines_27 : decode cX11_defines 27 = .ok (.istore_n 1, 1) := by decide +kernel
theorem dX11_defines_28 : decode cX11_defines 28 = .ok (.iload_n 1, 1) := by decide +kernel
theorem dX11_defines_29 : decode cX11_defines 29 = .ok (.bipush 64, 2) := by decide +kernel
theorem dX11_defines_31 : decode cX11_defines 31 = .ok (.if_icmp .ge 21, 3) := by decide +kernel
theorem dX11_defines_34 : decode cX11_defines 34 = .ok (.aload_n 0, 1) := by decide +kernel
theorem dX11_defines_35 : decode cX11_defines 35 = .ok (.getfield 72, 3) := by decide +kernel
theorem dX11_defines_38 : decode cX11_defines 38 = .ok (.iload_n 1, 1) := by decide +kernel
theorem dX11_defines_39 : decode cX11_defines 39 = .ok (.aload_n 0, 1) := by decide +kernel
theorem dX11_defines_40 : decode cX11_defines 40 = .ok (.getfield 63, 3) := by decide +kernel
theorem dX11_defines_43 : decode cX11_defines 43 = .ok (.iload_n 1, 1) := by decide +kernel
theorem dX11_defines_44 : decode cX11_defines 44 = .ok (.iaload, 1) := by decide +kernel
theorem dX11_defines_45 : decode cX11_defines 45 = .ok (.iastore, 1) := by decide +kernel
theorem dX11_defines_46 : decode cX11_defines 46 = .ok (.iinc 1 1, 3) := by decide +kernel
theorem dX11_defines_49 : decode cX11_defines 49 = .ok (.goto (-21), 3) := by decide +kernel
theorem dX11_defines_52 : decode cX11_defines 52 = .ok (.aload_n 0, 1) := by decide +kernel
theorem dX11_defines_53 : decode cX11_defines 53 = .ok (.invokevirtual 269, 3) := by decide +kernel
theorem dX11_defines_56 : decode cX11_defines 56 = .ok (.istore_n 1, 1) := by decide +kernel
theorem dX11_defines_57 : decode cX11_defines 57 = .ok (.iconst 0, 1) := by decide +kernel
theorem dX11_defines_58 : decode cX11_defines 58 = .ok (.istore_n 2, 1) := by decide +kernel
theorem dX11_defines_59 : decode cX11_defines 59 = .ok (.aload_n 0, 1) := by decide +kernel
theorem dX11_defines_60 : decode cX11_defines 60 = .ok (.getfield 57, 3) := by decide +kernel
theorem dX11_defines_63 : decode cX11_defines 63 = .ok (.bipush 7, 2) := by decide +kernel
theorem dX11_defines_65 : decode cX11_defines 65 = .ok (.iaload, 1) := by decide +kernel
theorem dX11_defines_66 : decode cX11_defines 66 = .ok (.iconst 1, 1) := by decide +kernel
theorem dX11_defines_67 : decode cX11_defines 67 = .ok (.if_icmp .ne 35, 3) := by decide +kernel
theorem dX11_defines_70 : decode cX11_defines 70 = .ok (.iload_n 1, 1) := by decide +kernel
theorem dX11_defines_71 : decode cX11_defines 71 = .ok (.bipush 16, 2) := by decide +kernel
theorem dX11_defines_73 : decode cX11_defines 73 = .ok (.idiv, 1) := by decide +kernel
theorem dX11_defines_74 : decode cX11_defines 74 = .ok (.bipush 15, 2) := by decide +kernel
theorem dX11_defines_76 : decode cX11_defines 76 = .ok (.if_icmp .ne 26, 3) := by decide +kernel
theorem dX11_defines_79 : decode cX11_defines 79 = .ok (.iload_n 2, 1) := by decide +kernel
theorem dX11_defines_80 : decode cX11_defines 80 = .ok (.bipush 64, 2) := by decide +kernel
theorem dX11_defines_82 : decode cX11_defines 82 = .ok (.if_icmp .ge 20, 3) := by decide +kernel
theorem dX11_defines_85 : decode cX11_defines 85 = .ok (.iinc 2 1, 3) := by decide +kernel
theorem dX11_defines_88 : decode cX11_defines 88 = .ok (.iload_n 2, 1) := by decide +kernel
theorem dX11_defines_89 : decode cX11_defines 89 = .ok (.bipush 64, 2) := by decide +kernel
theorem dX11_defines_91 : decode cX11_defines 91 = .ok (.if_icmp .ge (-32), 3) := by decide +kernel
theorem dX11_defines_94 : decode cX11_defines 94 = .ok (.aload_n 0, 1) := by decide +kernel
theorem dX11_defines_95 : decode cX11_defines 95 = .ok (.invokevirtual 269, 3) := by decide +kernel
theorem dX11_defines_98 : decode cX11_defines 98 = .ok (.istore_n 1, 1) := by decide +kernel
theorem dX11_defines_99 : decode cX11_defines 99 = .ok (.goto (-40), 3) := by decide +kernel
theorem dX11_defines_102 : decode cX11_defines 102 = .ok (.aload_n 0, 1) := by decide +kernel
theorem dX11_defines_103 : decode cX11_defines 103 = .ok (.iload_n 2, 1) := by decide +kernel
theorem dX11_defines_104 : decode cX11_defines 104 = .ok (.bipush 64, 2) := by decide +kernel
theorem dX11_defines_106 : decode cX11_defines 106 = .ok (.if_icmp .ge 7, 3) := by decide +kernel
theorem dX11_defines_109 : decode cX11_defines 109 = .ok (.iconst 1, 1) := by decide +kernel
theorem dX11_defines_110 : decode cX11_defines 110 = .ok (.goto 4, 3) := by decide +kernel
theorem dX11_defines_113 : decode cX11_defines 113 = .ok (.iconst 0, 1) := by decide +kernel
theorem dX11_defines_114 : decode cX11_defines 114 = .ok (.putfield 166, 3) := by decide +kernel
theorem dX11_defines_117 : decode cX11_defines 117 = .ok (.aload_n 0, 1) := by decide +kernel
theorem dX11_defines_118 : decode cX11_defines 118 = .ok (.getfield 166, 3) := by decide +kernel
theorem dX11_defines_121 : decode cX11_defines 121 = .ok (.ifCond .ne 4, 3) := by decide +kernel
theorem dX11_defines_124 : decode cX11_defines 124 = .ok (.return_, 1) := by decide +kernel
theorem dX11_defines_125 : decode cX11_defines 125 = .ok (.iload_n 2, 1) := by decide +kernel
theorem dX11_defines_126 : decode cX11_defines 126 = .ok (.iconst 2, 1) := by decide +kernel
theorem dX11_defines_127 : decode cX11_defines 127 = .ok (.irem, 1) := by decide +kernel
theorem dX11_defines_128 : decode cX11_defines 128 = .ok (.iconst 1, 1) := by decide +kernel
theorem dX11_defines_129 : decode cX11_defines 129 = .ok (.if_icmp .ne 7, 3) := by decide +kernel
theorem dX11_defines_132 : decode cX11_defines 132 = .ok (.iconst 1, 1) := by decide +kernel
theorem dX11_defines_133 : decode cX11_defines 133 = .ok (.goto 4, 3) := by decide +kernel
theorem dX11_defines_136 : decode cX11_defines 136 = .ok (.iconst 0, 1) := by decide +kernel
theorem dX11_defines_137 : decode cX11_defines 137 = .ok (.istore_n 3, 1) := by decide +kernel
theorem dX11_defines_138 : decode cX11_defines 138 = .ok (.iload_n 3, 1) := by decide +kernel
theorem dX11_defines_139 : decode cX11_defines 139 = .ok (.ifCond .eq 11, 3) := by decide +kernel
theorem dX11_defines_142 : decode cX11_defines 142 = .ok (.iload_n 1, 1) := by decide +kernel
theorem dX11_defines_143 : decode cX11_defines 143 = .ok (.iconst 4, 1) := by decide +kernel
theorem dX11_defines_144 : decode cX11_defines 144 = .ok (.idiv, 1) := by decide +kernel
theorem dX11_defines_145 : decode cX11_defines 145 = .ok (.iconst 4, 1) := by decide +kernel
theorem dX11_defines_146 : decode cX11_defines 146 = .ok (.irem, 1) := by decide +kernel
theorem dX11_defines_147 : decode cX11_defines 147 = .ok (.goto 6, 3) := by decide +kernel
theorem dX11_defines_150 : decode cX11_defines 150 = .ok (.iload_n 1, 1) := by decide +kernel
theorem dX11_defines_151 : decode cX11_defines 151 = .ok (.iconst 4, 1) := by decide +kernel
theorem dX11_defines_152 : decode cX11_defines 152 = .ok (.irem, 1) := by decide +kernel
theorem dX11_defines_153 : decode cX11_defines 153 = .ok (.istore 4, 2) := by decide +kernel
theorem dX11_defines_155 : decode cX11_defines 155 = .ok (.iload_n 3, 1) := by decide +kernel
theorem dX11_defines_156 : decode cX11_defines 156 = .ok (.ifCond .eq 9, 3) := by decide +kernel
theorem dX11_defines_159 : decode cX11_defines 159 = .ok (.iload_n 1, 1) := by decide +kernel
theorem dX11_defines_160 : decode cX11_defines 160 = .ok (.iconst 4, 1) := by decide +kernel
theorem dX11_defines_161 : decode cX11_defines 161 = .ok (.irem, 1) := by decide +kernel
theorem dX11_defines_162 : decode cX11_defines 162 = .ok (.goto 8, 3) := by decide +kernel
theorem dX11_defines_165 : decode cX11_defines 165 = .ok (.iload_n 1, 1) := by decide +kernel
theorem dX11_defines_166 : decode cX11_defines 166 = .ok (.iconst 4, 1) := by decide +kernel
theorem dX11_defines_167 : decode cX11_defines 167 = .ok (.idiv, 1) := by decide +kernel
theorem dX11_defines_168 : decode cX11_defines 168 = .ok (.iconst 4, 1) := by decide +kernel
theorem dX11_defines_169 : decode cX11_defines 169 = .ok (.irem, 1) := by decide +kernel
theorem dX11_defines_170 : decode cX11_defines 170 = .ok (.istore 5, 2) := by decide +kernel
theorem dX11_defines_172 : decode cX11_defines 172 = .ok (.aload_n 0, 1) := by decide +kernel
theorem dX11_defines_173 : decode cX11_defines 173 = .ok (.aload_n 0, 1) := by decide +kernel
theorem dX11_defines_174 : decode cX11_defines 174 = .ok (.getfield 57, 3) := by decide +kernel
theorem dX11_defines_177 : decode cX11_defines 177 = .ok (.bipush 7, 2) := by decide +kernel
theorem dX11_defines_179 : decode cX11_defines 179 = .ok (.iaload, 1) := by decide +kernel
theorem dX11_defines_180 : decode cX11_defines 180 = .ok (.ifCond .ne 10, 3) := by decide +kernel
theorem dX11_defines_183 : decode cX11_defines 183 = .ok (.iload_n 1, 1) := by decide +kernel
theorem dX11_defines_184 : decode cX11_defines 184 = .ok (.bipush 16, 2) := by decide +kernel
theorem dX11_defines_186 : decode cX11_defines 186 = .ok (.idiv, 1) := by decide +kernel
theorem dX11_defines_187 : decode cX11_defines 187 = .ok (.goto 10, 3) := by decide +kernel
theorem dX11_defines_190 : decode cX11_defines 190 = .ok (.bipush 14, 2) := by decide +kernel
theorem dX11_defines_192 : decode cX11_defines 192 = .ok (.iload_n 1, 1) := by decide +kernel
theorem dX11_defines_193 : decode cX11_defines 193 = .ok (.bipush 16, 2) := by decide +kernel
theorem dX11_defines_195 : decode cX11_defines 195 = .ok (.idiv, 1) := by decide +kernel
theorem dX11_defines_196 : decode cX11_defines 196 = .ok (.isub, 1) := by decide +kernel
theorem dX11_defines_197 : decode cX11_defines 197 = .ok (.iload 4, 2) := by decide +kernel
theorem dX11_defines_199 : decode cX11_defines 199 = .ok (.iload 5, 2) := by decide +kernel
theorem dX11_defines_201 : decode cX11_defines 201 = .ok (.invokevirtual 273, 3) := by decide +kernel
theorem dX11_defines_204 : decode cX11_defines 204 = .ok (.return_, 1) := by decide +kernel
theorem dX11_defines__0 : decode cX11_defines_ 0 = .ok (.aload_n 0, 1) := by decide +kernel
theorem dX11_defines__1 : decode cX11_defines_ 1 = .ok (.getfield 69, 3) := by decide +kernel
theorem dX11_defines__4 : decode cX11_defines_ 4 = .ok (.iload_n 2, 1) := by decide +kernel
theorem dX11_defines__5 : decode cX11_defines_ 5 = .ok (.iaload, 1) := by decide +kernel
theorem dX11_defines__6 : decode cX11_defines_ 6 = .ok (.istore 4, 2) := by decide +kernel
theorem dX11_defines__8 : decode cX11_defines_ 8 = .ok (.aload_n 0, 1) := by decide +kernel
theorem dX11_defines__9 : decode cX11_defines_ 9 = .ok (.getfield 69, 3) := by decide +kernel
theorem dX11_defines__12 : decode cX11_defines_ 12 = .ok (.iload_n 3, 1) := by decide +kernel
theorem dX11_defines__13 : decode cX11_defines_ 13 = .ok (.iaload, 1) := by decide +kernel
theorem dX11_defines__14 : decode cX11_defines_ 14 = .ok (.istore 5, 2) := by decide +kernel
theorem dX11_defines__16 : decode cX11_defines_ 16 = .ok (.iload_n 1, 1) := by decide +kernel
theorem dX11_defines__17 : decode cX11_defines_ 17 = .ok (.iconst 1, 1) := by decide +kernel
theorem dX11_defines__18 : decode cX11_defines_ 18 = .ok (.if_icmp .ne 11, 3) := by decide +kernel
theorem dX11_defines__21 : decode cX11_defines_ 21 = .ok (.aload_n 0, 1) := by decide +kernel
theorem dX11_defines__22 : decode cX11_defines_ 22 = .ok (.getfield 69, 3) := by decide +kernel
theorem dX11_defines__25 : decode cX11_defines_ 25 = .ok (.iload_n 2, 1) := by decide +kernel
theorem dX11_defines__26 : decode cX11_defines_ 26 = .ok (.iload 5, 2) := by decide +kernel
theorem dX11_defines__28 : decode cX11_defines_ 28 = .ok (.iastore, 1) := by decide +kernel
theorem dX11_defines__29 : decode cX11_defines_ 29 = .ok (.iload_n 1, 1) := by decide +kernel
theorem dX11_defines__30 : decode cX11_defines_ 30 = .ok (.iconst 2, 1) := by decide +kernel
theorem dX11_defines__31 : decode cX11_defines_ 31 = .ok (.if_icmp .lt 35, 3) := by decide +kernel
theorem dX11_defines__34 : decode cX11_defines_ 34 = .ok (.iload_n 1, 1) := by decide +kernel
theorem dX11_defines__35 : decode cX11_defines_ 35 = .ok (.iconst 4, 1) := by decide +kernel
theorem dX11_defines__36 : decode cX11_defines_ 36 = .ok (.if_icmp .gt 30, 3) := by decide +kernel
theorem dX11_defines__39 : decode cX11_defines_ 39 = .ok (.aload_n 0, 1) := by decide +kernel
theorem dX11_defines__40 : decode cX11_defines_ 40 = .ok (.iload_n 1, 1) := by decide +kernel
theorem dX11_defines__41 : decode cX11_defines_ 41 = .ok (.iconst 1, 1) := by decide +kernel
theorem dX11_defines__42 : decode cX11_defines_ 42 = .ok (.isub, 1) := by decide +kernel
theorem dX11_defines__43 : decode cX11_defines_ 43 = .ok (.iload 4, 2) := by decide +kernel
theorem dX11_defines__45 : decode cX11_defines_ 45 = .ok (.iload 5, 2) := by decide +kernel
theorem dX11_defines__47 : decode cX11_defines_ 47 = .ok (.invokevirtual 276, 3) := by decide +kernel
theorem dX11_defines__50 : decode cX11_defines_ 50 = .ok (.aload_n 0, 1) := by decide +kernel
theorem dX11_defines__51 : decode cX11_defines_ 51 = .ok (.getfield 69, 3) := by decide +kernel
theorem dX11_defines__54 : decode cX11_defines_ 54 = .ok (.iload_n 2, 1) := by decide +kernel
theorem dX11_defines__55 : decode cX11_defines_ 55 = .ok (.iload_n 1, 1) := by decide +kernel
theorem dX11_defines__56 : decode cX11_defines_ 56 = .ok (.iconst 1, 1) := by decide +kernel
theorem dX11_defines__57 : decode cX11_defines_ 57 = .ok (.isub, 1) := by decide +kernel
theorem dX11_defines__58 : decode cX11_defines_ 58 = .ok (.iload 4, 2) := by decide +kernel
theorem dX11_defines__60 : decode cX11_defines_ 60 = .ok (.iload 5, 2) := by decide +kernel
theorem dX11_defines__62 : decode cX11_defines_ 62 = .ok (.invokestatic 197, 3) := by decide +kernel
theorem dX11_defines__65 : decode cX11_defines_ 65 = .ok (.iastore, 1) := by decide +kernel
theorem dX11_defines__66 : decode cX11_defines_ 66 = .ok (.iload_n 1, 1) := by decide +kernel
theorem dX11_defines__67 : decode cX11_defines_ 67 = .ok (.iconst 5, 1) := by decide +kernel
theorem dX11_defines__68 : decode cX11_defines_ 68 = .ok (.if_icmp .ne 24, 3) := by decide +kernel
theorem dX11_defines__71 : decode cX11_defines_ 71 = .ok (.aload_n 0, 1) := by decide +kernel
theorem dX11_defines__72 : decode cX11_defines_ 72 = .ok (.iconst 5, 1) := by decide +kernel
theorem dX11_defines__73 : decode cX11_defines_ 73 = .ok (.iconst 0, 1) := by decide +kernel
theorem dX11_defines__74 : decode cX11_defines_ 74 = .ok (.iload 4, 2) := by decide +kernel
theorem dX11_defines__76 : decode cX11_defines_ 76 = .ok (.invokevirtual 276, 3) := by decide +kernel
theorem dX11_defines__79 : decode cX11_defines_ 79 = .ok (.aload_n 0, 1) := by decide +kernel
theorem dX11_defines__80 : decode cX11_defines_ 80 = .ok (.getfield 69, 3) := by decide +kernel
theorem dX11_defines__83 : decode cX11_defines_ 83 = .ok (.iload_n 2, 1) := by decide +kernel
theorem dX11_defines__84 : decode cX11_defines_ 84 = .ok (.iconst 5, 1) := by decide +kernel
theorem dX11_defines__85 : decode cX11_defines_ 85 = .ok (.iconst 0, 1) := by decide +kernel
theorem dX11_defines__86 : decode cX11_defines_ 86 = .ok (.iload 4, 2) := by decide +kernel
theorem dX11_defines__88 : decode cX11_defines_ 88 = .ok (.invokestatic 197, 3) := by decide +kernel
theorem dX11_defines__91 : decode cX11_defines_ 91 = .ok (.iastore, 1) := by decide +kernel
theorem dX11_defines__92 : decode cX11_defines_ 92 = .ok (.iload_n 1, 1) := by decide +kernel
theorem dX11_defines__93 : decode cX11_defines_ 93 = .ok (.bipush 6, 2) := by decide +kernel
theorem dX11_defines__95 : decode cX11_defines_ 95 = .ok (.if_icmp .ne 13, 3) := by decide +kernel
theorem dX11_defines__98 : decode cX11_defines_ 98 = .ok (.aload_n 0, 1) := by decide +kernel
theorem dX11_defines__99 : decode cX11_defines_ 99 = .ok (.getfield 69, 3) := by decide +kernel
theorem dX11_defines__102 : decode cX11_defines_ 102 = .ok (.iload_n 2, 1) := by decide +kernel
theorem dX11_defines__103 : decode cX11_defines_ 103 = .ok (.aload_n 0, 1) := by decide +kernel
theorem dX11_defines__104 : decode cX11_defines_ 104 = .ok (.invokevirtual 269, 3) := by decide +kernel
theorem dX11_defines__107 : decode cX11_defines_ 107 = .ok (.iastore, 1) := by decide +kernel
theorem dX11_defines__108 : decode cX11_defines_ 108 = .ok (.iload_n 1, 1) := by decide +kernel
theorem dX11_defines__109 : decode cX11_defines_ 109 = .ok (.bipush 7, 2) := by decide +kernel
theorem dX11_defines__111 : decode cX11_defines_ 111 = .ok (.if_icmp .ne 19, 3) := by decide +kernel
theorem dX11_defines__114 : decode cX11_defines_ 114 = .ok (.aload_n 0, 1) := by decide +kernel
theorem dX11_defines__115 : decode cX11_defines_ 115 = .ok (.getfield 69, 3) := by decide +kernel
theorem dX11_defines__118 : decode cX11_defines_ 118 = .ok (.iload_n 2, 1) := by decide +kernel
theorem dX11_defines__119 : decode cX11_defines_ 119 = .ok (.aload_n 0, 1) := by decide +kernel
theorem dX11_defines__120 : decode cX11_defines_ 120 = .ok (.getfield 72, 3) := by decide +kernel
theorem dX11_defines__123 : decode cX11_defines_ 123 = .ok (.iload 5, 2) := by decide +kernel
theorem dX11_defines__125 : decode cX11_defines_ 125 = .ok (.bipush 64, 2) := by decide +kernel
theorem dX11_defines__127 : decode cX11_defines_ 127 = .ok (.irem, 1) := by decide +kernel
theorem dX11_defines__128 : decode cX11_defines_ 128 = .ok (.iaload, 1) := by decide +kernel
theorem dX11_defines__129 : decode cX11_defines_ 129 = .ok (.iastore, 1) := by decide +kernel
theorem dX11_defines__130 : decode cX11_defines_ 130 = .ok (.iload_n 1, 1) := by decide +kernel
theorem dX11_defines__131 : decode cX11_defines_ 131 = .ok (.bipush 8, 2) := by decide +kernel
theorem dX11_defines__133 : decode cX11_defines_ 133 = .ok (.if_icmp .ne 15, 3) := by decide +kernel
theorem dX11_defines__136 : decode cX11_defines_ 136 = .ok (.aload_n 0, 1) := by decide +kernel
theorem dX11_defines__137 : decode cX11_defines_ 137 = .ok (.getfield 72, 3) := by decide +kernel
theorem dX11_defines__140 : decode cX11_defines_ 140 = .ok (.iload 5, 2) := by decide +kernel
theorem dX11_defines__142 : decode cX11_defines_ 142 = .ok (.bipush 64, 2) := by decide +kernel
theorem dX11_defines__144 : decode cX11_defines_ 144 = .ok (.irem, 1) := by decide +kernel
theorem dX11_defines__145 : decode cX11_defines_ 145 = .ok (.iload 4, 2) := by decide +kernel
theorem dX11_defines__147 : decode cX11_defines_ 147 = .ok (.iastore, 1) := by decide +kernel
theorem dX11_defines__148 : decode cX11_defines_ 148 = .ok (.iload_n 1, 1) := by decide +kernel
theorem dX11_defines__149 : decode cX11_defines_ 149 = .ok (.bipush 9, 2) := by decide +kernel
theorem dX11_defines__151 : decode cX11_defines_ 151 = .ok (.if_icmp .lt 53, 3) := by decide +kernel
theorem dX11_defines__154 : decode cX11_defines_ 154 = .ok (.iload_n 1, 1) := by decide +kernel
theorem dX11_defines__155 : decode cX11_defines_ 155 = .ok (.bipush 11, 2) := by decide +kernel
theorem dX11_defines__157 : decode cX11_defines_ 157 = .ok (.if_icmp .gt 47, 3) := by decide +kernel
theorem dX11_defines__160 : decode cX11_defines_ 160 = .ok (.aload_n 0, 1) := by decide +kernel
theorem dX11_defines__161 : decode cX11_defines_ 161 = .ok (.invokevirtual 269, 3) := by decide +kernel
theorem dX11_defines__164 : decode cX11_defines_ 164 = .ok (.istore 6, 2) := by decide +kernel
theorem dX11_defines__166 : decode cX11_defines_ 166 = .ok (.iload_n 1, 1) := by decide +kernel
theorem dX11_defines__167 : decode cX11_defines_ 167 = .ok (.bipush 11, 2) := by decide +kernel
theorem dX11_defines__169 : decode cX11_defines_ 169 = .ok (.if_icmp .eq 24, 3) := by decide +kernel
theorem dX11_defines__172 : decode cX11_defines_ 172 = .ok (.aload_n 0, 1) := by decide +kernel
theorem dX11_defines__173 : decode cX11_defines_ 173 = .ok (.getfield 69, 3) := by decide +kernel
theorem dX11_defines__176 : decode cX11_defines_ 176 = .ok (.iload_n 1, 1) := by decide +kernel
theorem dX11_defines__177 : decode cX11_defines_ 177 = .ok (.bipush 9, 2) := by decide +kernel
theorem dX11_defines__179 : decode cX11_defines_ 179 = .ok (.if_icmp .ne 7, 3) := by decide +kernel
theorem dX11_defines__182 : decode cX11_defines_ 182 = .ok (.iconst 5, 1) := by decide +kernel
theorem dX11_defines__183 : decode cX11_defines_ 183 = .ok (.goto 5, 3) := by decide +kernel
theorem dX11_defines__186 : decode cX11_defines_ 186 = .ok (.bipush 6, 2) := by decide +kernel
theorem dX11_defines__188 : decode cX11_defines_ 188 = .ok (.iaload, 1) := by decide +kernel
theorem dX11_defines__189 : decode cX11_defines_ 189 = .ok (.iconst 1, 1) := by decide +kernel
theorem dX11_defines__190 : decode cX11_defines_ 190 = .ok (.if_icmp .ne 14, 3) := by decide +kernel
theorem dX11_defines__193 : decode cX11_defines_ 193 = .ok (.aload_n 0, 1) := by decide +kernel
theorem dX11_defines__194 : decode cX11_defines_ 194 = .ok (.getfield 69, 3) := by decide +kernel
theorem dX11_defines__197 : decode cX11_defines_ 197 = .ok (.iconst 4, 1) := by decide +kernel
theorem dX11_defines__198 : decode cX11_defines_ 198 = .ok (.iload 6, 2) := by decide +kernel
theorem dX11_defines__200 : decode cX11_defines_ 200 = .ok (.bipush 64, 2) := by decide +kernel
theorem dX11_defines__202 : decode cX11_defines_ 202 = .ok (.irem, 1) := by decide +kernel
theorem dX11_defines__203 : decode cX11_defines_ 203 = .ok (.iastore, 1) := by decide +kernel
theorem dX11_defines__204 : decode cX11_defines_ 204 = .ok (.iload_n 1, 1) := by decide +kernel
theorem dX11_defines__205 : decode cX11_defines_ 205 = .ok (.bipush 12, 2) := by decide +kernel
theorem dX11_defines__207 : decode cX11_defines_ 207 = .ok (.if_icmp .ne 37, 3) := by decide +kernel
theorem dX11_defines__210 : decode cX11_defines_ 210 = .ok (.aload_n 0, 1) := by decide +kernel
theorem dX11_defines__211 : decode cX11_defines_ 211 = .ok (.getfield 69, 3) := by decide +kernel
theorem dX11_defines__214 : decode cX11_defines_ 214 = .ok (.iload_n 2, 1) := by decide +kernel
theorem dX11_defines__215 : decode cX11_defines_ 215 = .ok (.aload_n 0, 1) := by decide +kernel
theorem dX11_defines__216 : decode cX11_defines_ 216 = .ok (.getfield 72, 3) := by decide +kernel
theorem dX11_defines__219 : decode cX11_defines_ 219 = .ok (.iload 5, 2) := by decide +kernel
theorem dX11_defines__221 : decode cX11_defines_ 221 = .ok (.bipush 64, 2) := by decide +kernel
theorem dX11_defines__223 : decode cX11_defines_ 223 = .ok (.irem, 1) := by decide +kernel
theorem dX11_defines__224 : decode cX11_defines_ 224 = .ok (.iaload, 1) := by decide +kernel
theorem dX11_defines__225 : decode cX11_defines_ 225 = .ok (.iastore, 1) := by decide +kernel
theorem dX11_defines__226 : decode cX11_defines_ 226 = .ok (.aload_n 0, 1) := by decide +kernel
theorem dX11_defines__227 : decode cX11_defines_ 227 = .ok (.getfield 69, 3) := by decide +kernel
theorem dX11_defines__230 : decode cX11_defines_ 230 = .ok (.iload_n 3, 1) := by decide +kernel
theorem dX11_defines__231 : decode cX11_defines_ 231 = .ok (.aload_n 0, 1) := by decide +kernel
theorem dX11_defines__232 : decode cX11_defines_ 232 = .ok (.getfield 69, 3) := by decide +kernel
theorem dX11_defines__235 : decode cX11_defines_ 235 = .ok (.iload_n 3, 1) := by decide +kernel
theorem dX11_defines__236 : decode cX11_defines_ 236 = .ok (.iaload, 1) := by decide +kernel
theorem dX11_defines__237 : decode cX11_defines_ 237 = .ok (.iconst 1, 1) := by decide +kernel
theorem dX11_defines__238 : decode cX11_defines_ 238 = .ok (.iadd, 1) := by decide +kernel
theorem dX11_defines__239 : decode cX11_defines_ 239 = .ok (.sipush 256, 3) := by decide +kernel
theorem dX11_defines__242 : decode cX11_defines_ 242 = .ok (.irem, 1) := by decide +kernel
theorem dX11_defines__243 : decode cX11_defines_ 243 = .ok (.iastore, 1) := by decide +kernel
theorem dX11_defines__244 : decode cX11_defines_ 244 = .ok (.iload_n 1, 1) := by decide +kernel
theorem dX11_defines__245 : decode cX11_defines_ 245 = .ok (.bipush 13, 2) := by decide +kernel
theorem dX11_defines__247 : decode cX11_defines_ 247 = .ok (.if_icmp .ne 19, 3) := by decide +kernel
theorem dX11_defines__250 : decode cX11_defines_ 250 = .ok (.aload_n 0, 1) := by decide +kernel
theorem dX11_defines__251 : decode cX11_defines_ 251 = .ok (.getfield 69, 3) := by decide +kernel
theorem dX11_defines__254 : decode cX11_defines_ 254 = .ok (.bipush 7, 2) := by decide +kernel
theorem dX11_defines__256 : decode cX11_defines_ 256 = .ok (.iconst 1, 1) := by decide +kernel
theorem dX11_defines__257 : decode cX11_defines_ 257 = .ok (.aload_n 0, 1) := by decide +kernel
theorem dX11_defines__258 : decode cX11_defines_ 258 = .ok (.getfield 69, 3) := by decide +kernel
theorem dX11_defines__261 : decode cX11_defines_ 261 = .ok (.bipush 7, 2) := by decide +kernel
theorem dX11_defines__263 : decode cX11_defines_ 263 = .ok (.iaload, 1) := by decide +kernel
theorem dX11_defines__264 : decode cX11_defines_ 264 = .ok (.isub, 1) := by decide +kernel
theorem dX11_defines__265 : decode cX11_defines_ 265 = .ok (.iastore, 1) := by decide +kernel
theorem dX11_defines__266 : decode cX11_defines_ 266 = .ok (.iload_n 1, 1) := by decide +kernel
theorem dX11_defines__267 : decode cX11_defines_ 267 = .ok (.bipush 14, 2) := by decide +kernel
theorem dX11_defines__269 : decode cX11_defines_ 269 = .ok (.if_icmp .ne 24, 3) := by decide +kernel
theorem dX11_defines__272 : decode cX11_defines_ 272 = .ok (.aload_n 0, 1) := by decide +kernel
theorem dX11_defines__273 : decode cX11_defines_ 273 = .ok (.getfield 69, 3) := by decide +kernel
theorem dX11_defines__276 : decode cX11_defines_ 276 = .ok (.iconst 4, 1) := by decide +kernel
theorem dX11_defines__277 : decode cX11_defines_ 277 = .ok (.aload_n 0, 1) := by decide +kernel
theorem dX11_defines__278 : decode cX11_defines_ 278 = .ok (.getfield 69, 3) := by decide +kernel
theorem dX11_defines__281 : decode cX11_defines_ 281 = .ok (.bipush 9, 2) := by decide +kernel
theorem dX11_defines__283 : decode cX11_defines_ 283 = .ok (.iaload, 1) := by decide +kernel
theorem dX11_defines__284 : decode cX11_defines_ 284 = .ok (.iastore, 1) := by decide +kernel
theorem dX11_defines__285 : decode cX11_defines_ 285 = .ok (.aload_n 0, 1) := by decide +kernel
theorem dX11_defines__286 : decode cX11_defines_ 286 = .ok (.getfield 69, 3) := by decide +kernel
theorem dX11_defines__289 : decode cX11_defines_ 289 = .ok (.bipush 8, 2) := by decide +kernel
theorem dX11_defines__291 : decode cX11_defines_ 291 = .ok (.iconst 1, 1) := by decide +kernel
theorem dX11_defines__292 : decode cX11_defines_ 292 = .ok (.iastore, 1) := by decide +kernel
theorem dX11_defines__293 : decode cX11_defines_ 293 = .ok (.iload_n 1, 1) := by decide +kernel
theorem dX11_defines__294 : decode cX11_defines_ 294 = .ok (.bipush 15, 2) := by decide +kernel
theorem dX11_defines__296 : decode cX11_defines_ 296 = .ok (.if_icmp .ne 14, 3) := by decide +kernel
theorem dX11_defines__299 : decode cX11_defines_ 299 = .ok (.aload_n 0, 1) := by decide +kernel
theorem dX11_defines__300 : decode cX11_defines_ 300 = .ok (.getfield 69, 3) := by decide +kernel
theorem dX11_defines__303 : decode cX11_defines_ 303 = .ok (.bipush 8, 2) := by decide +kernel
theorem dX11_defines__305 : decode cX11_defines_ 305 = .ok (.iload 4, 2) := by decide +kernel
theorem dX11_defines__307 : decode cX11_defines_ 307 = .ok (.iconst 2, 1) := by decide +kernel
theorem dX11_defines__308 : decode cX11_defines_ 308 = .ok (.irem, 1) := by decide +kernel
theorem dX11_defines__309 : decode cX11_defines_ 309 = .ok (.iastore, 1) := by decide +kernel
theorem dX11_defines__310 : decode cX11_defines_ 310 = .ok (.return_, 1) := by decide +kernel
theorem dX11_defined_0 : decode cX11_defined 0 = .ok (.iload_n 1, 1) := by decide +kernel
theorem dX11_defined_1 : decode cX11_defined 1 = .ok (.bipush 48, 2) := by decide +kernel
theorem dX11_defined_3 : decode cX11_defined 3 = .ok (.bipush 51, 2) := by decide +kernel
theorem dX11_defined_5 : decode cX11_defined 5 = .ok (.invokestatic 96, 3) := by decide +kernel
theorem dX11_defined_8 : decode cX11_defined 8 = .ok (.ifCond .eq 10, 3) := by decide +kernel
theorem dX11_defined_11 : decode cX11_defined 11 = .ok (.iload_n 1, 1) := by decide +kernel
theorem dX11_defined_12 : decode cX11_defined 12 = .ok (.bipush 48, 2) := by decide +kernel
theorem dX11_defined_14 : decode cX11_defined 14 = .ok (.isub, 1) := by decide +kernel
theorem dX11_defined_15 : decode cX11_defined 15 = .ok (.goto 7, 3) := by decide +kernel
theorem dX11_defined_18 : decode cX11_defined 18 = .ok (.iload_n 1, 1) := by decide +kernel
theorem dX11_defined_19 : decode cX11_defined 19 = .ok (.invokestatic 254, 3) := by decide +kernel
theorem dX11_defined_22 : decode cX11_defined 22 = .ok (.istore_n 2, 1) := by decide +kernel
theorem dX11_defined_23 : decode cX11_defined 23 = .ok (.iload_n 2, 1) := by decide +kernel
theorem dX11_defined_24 : decode cX11_defined 24 = .ok (.ifCond .lt 9, 3) := by decide +kernel
theorem dX11_defined_27 : decode cX11_defined 27 = .ok (.iload_n 2, 1) := by decide +kernel
theorem dX11_defined_28 : decode cX11_defined 28 = .ok (.bipush 10, 2) := by decide +kernel
theorem dX11_defined_30 : decode cX11_defined 30 = .ok (.if_icmp .lt 9, 3) := by decide +kernel
theorem dX11_defined_33 : decode cX11_defined 33 = .ok (.aload_n 0, 1) := by decide +kernel
theorem dX11_defined_34 : decode cX11_defined 34 = .ok (.iconst 1, 1) := by decide +kernel
theorem dX11_defined_35 : decode cX11_defined 35 = .ok (.invokevirtual 111, 3) := by decide +kernel
theorem dX11_defined_38 : decode cX11_defined 38 = .ok (.ireturn, 1) := by decide +kernel
theorem dX11_defined_39 : decode cX11_defined 39 = .ok (.aload_n 0, 1) := by decide +kernel
theorem dX11_defined_40 : decode cX11_defined 40 = .ok (.invokevirtual 163, 3) := by decide +kernel
theorem dX11_defined_43 : decode cX11_defined 43 = .ok (.aload_n 0, 1) := by decide +kernel
theorem dX11_defined_44 : decode cX11_defined 44 = .ok (.getfield 166, 3) := by decide +kernel
theorem dX11_defined_47 : decode cX11_defined 47 = .ok (.ifCond .ne 9, 3) := by decide +kernel
theorem dX11_defined_50 : decode cX11_defined 50 = .ok (.aload_n 0, 1) := by decide +kernel
theorem dX11_defined_51 : decode cX11_defined 51 = .ok (.iconst 2, 1) := by decide +kernel
theorem dX11_defined_52 : decode cX11_defined 52 = .ok (.invokevirtual 111, 3) := by decide +kernel
theorem dX11_defined_55 : decode cX11_defined 55 = .ok (.ireturn, 1) := by decide +kernel
theorem dX11_defined_56 : decode cX11_defined 56 = .ok (.aload_n 0, 1) := by decide +kernel
theorem dX11_defined_57 : decode cX11_defined 57 = .ok (.iconst 0, 1) := by decide +kernel
theorem dX11_defined_58 : decode cX11_defined 58 = .ok (.putfield 93, 3) := by decide +kernel
theorem dX11_defined_61 : decode cX11_defined 61 = .ok (.aload_n 0, 1) := by decide +kernel
theorem dX11_defined_62 : decode cX11_defined 62 = .ok (.getfield 69, 3) := by decide +kernel
theorem dX11_defined_65 : decode cX11_defined 65 = .ok (.iload_n 2, 1) := by decide +kernel
theorem dX11_defined_66 : decode cX11_defined 66 = .ok (.iaload, 1) := by decide +kernel
theorem dX11_defined_67 : decode cX11_defined 67 = .ok (.ireturn, 1) := by decide +kernel
theorem dX11_ended_0 : decode cX11_ended 0 = .ok (.aload_n 0, 1) := by decide +kernel
theorem dX11_ended_1 : decode cX11_ended 1 = .ok (.getfield 172, 3) := by decide +kernel
theorem dX11_ended_4 : decode cX11_ended 4 = .ok (.ireturn, 1) := by decide +kernel
theorem dX11_wrong_0 : decode cX11_wrong 0 = .ok (.aload_n 0, 1) := by decide +kernel
theorem dX11_wrong_1 : decode cX11_wrong 1 = .ok (.getfield 169, 3) := by decide +kernel
theorem dX11_wrong_4 : decode cX11_wrong 4 = .ok (.ireturn, 1) := by decide +kernel
theorem dX11_firstWrong_0 : decode cX11_firstWrong 0 = .ok (.aload_n 0, 1) := by decide +kernel
theorem dX11_firstWrong_1 : decode cX11_firstWrong 1 = .ok (.getfield 169, 3) := by decide +kernel
theorem dX11_firstWrong_4 : decode cX11_firstWrong 4 = .ok (.ifCond .ne 9, 3) := by decide +kernel
theorem dX11_firstWrong_7 : decode cX11_firstWrong 7 = .ok (.aload_n 0, 1) := by decide +kernel
theorem dX11_firstWrong_8 : decode cX11_firstWrong 8 = .ok (.iconst 1, 1) := by decide +kernel
theorem dX11_firstWrong_9 : decode cX11_firstWrong 9 = .ok (.invokevirtual 111, 3) := by decide +kernel
theorem dX11_firstWrong_12 : decode cX11_firstWrong 12 = .ok (.ireturn, 1) := by decide +kernel
theorem dX11_firstWrong_13 : decode cX11_firstWrong 13 = .ok (.aload_n 0, 1) := by decide +kernel
theorem dX11_firstWrong_14 : decode cX11_firstWrong 14 = .ok (.iconst 0, 1) := by decide +kernel
theorem dX11_firstWrong_15 : decode cX11_firstWrong 15 = .ok (.putfield 93, 3) := by decide +kernel
theorem dX11_firstWrong_18 : decode cX11_firstWrong 18 = .ok (.aload_n 0, 1) := by decide +kernel
theorem dX11_firstWrong_19 : decode cX11_firstWrong 19 = .ok (.getfield 86, 3) := by decide +kernel
theorem dX11_firstWrong_22 : decode cX11_firstWrong 22 = .ok (.ireturn, 1) := by decide +kernel
theorem dX11_fights_0 : decode cX11_fights 0 = .ok (.aload_n 0, 1) := by decide +kernel
theorem dX11_fights_1 : decode cX11_fights 1 = .ok (.getfield 210, 3) := by decide +kernel
theorem dX11_fights_4 : decode cX11_fights 4 = .ok (.ireturn, 1) := by decide +kernel
theorem dX11_faults_0 : decode cX11_faults 0 = .ok (.aload_n 0, 1) := by decide +kernel
theorem dX11_faults_1 : decode cX11_faults 1 = .ok (.getfield 241, 3) := by decide +kernel
theorem dX11_faults_4 : decode cX11_faults 4 = .ok (.ireturn, 1) := by decide +kernel
theorem dX11_taken_0 : decode cX11_taken 0 = .ok (.aload_n 0, 1) := by decide +kernel
theorem dX11_taken_1 : decode cX11_taken 1 = .ok (.getfield 157, 3) := by decide +kernel
theorem dX11_taken_4 : decode cX11_taken 4 = .ok (.ireturn, 1) := by decide +kernel
theorem dX11_found_0 : decode cX11_found 0 = .ok (.aload_n 0, 1) := by decide +kernel
theorem dX11_found_1 : decode cX11_found 1 = .ok (.getfield 204, 3) := by decide +kernel
theorem dX11_found_4 : decode cX11_found 4 = .ok (.ireturn, 1) := by decide +kernel
theorem dX11_cycles_0 : decode cX11_cycles 0 = .ok (.aload_n 0, 1) := by decide +kernel
theorem dX11_cycles_1 : decode cX11_cycles 1 = .ok (.getfield 238, 3) := by decide +kernel
theorem dX11_cycles_4 : decode cX11_cycles 4 = .ok (.lreturn, 1) := by decide +kernel
theorem dX11_cyclesOf_0 : decode cX11_cyclesOf 0 = .ok (.aload_n 0, 1) := by decide +kernel
theorem dX11_cyclesOf_1 : decode cX11_cyclesOf 1 = .ok (.iload_n 1, 1) := by decide +kernel
theorem dX11_cyclesOf_2 : decode cX11_cyclesOf 2 = .ok (.iconst 0, 1) := by decide +kernel
theorem dX11_cyclesOf_3 : decode cX11_cyclesOf 3 = .ok (.iconst 1, 1) := by decide +kernel
theorem dX11_cyclesOf_4 : decode cX11_cyclesOf 4 = .ok (.invokestatic 96, 3) := by decide +kernel
theorem dX11_cyclesOf_7 : decode cX11_cyclesOf 7 = .ok (.ifCond .eq 17, 3) := by decide +kernel
theorem dX11_cyclesOf_10 : decode cX11_cyclesOf 10 = .ok (.iload_n 2, 1) := by decide +kernel
theorem dX11_cyclesOf_11 : decode cX11_cyclesOf 11 = .ok (.iconst 0, 1) := by decide +kernel
theorem dX11_cyclesOf_12 : decode cX11_cyclesOf 12 = .ok (.bipush 15, 2) := by decide +kernel
theorem dX11_cyclesOf_14 : decode cX11_cyclesOf 14 = .ok (.invokestatic 96, 3) := by decide +kernel
theorem dX11_cyclesOf_17 : decode cX11_cyclesOf 17 = .ok (.ifCond .eq 7, 3) := by decide +kernel
theorem dX11_cyclesOf_20 : decode cX11_cyclesOf 20 = .ok (.iconst 0, 1) := by decide +kernel
theorem dX11_cyclesOf_21 : decode cX11_cyclesOf 21 = .ok (.goto 4, 3) := by decide +kernel
theorem dX11_cyclesOf_24 : decode cX11_cyclesOf 24 = .ok (.iconst 1, 1) := by decide +kernel
theorem dX11_cyclesOf_25 : decode cX11_cyclesOf 25 = .ok (.putfield 93, 3) := by decide +kernel
theorem dX11_cyclesOf_28 : decode cX11_cyclesOf 28 = .ok (.aload_n 0, 1) := by decide +kernel
theorem dX11_cyclesOf_29 : decode cX11_cyclesOf 29 = .ok (.getfield 93, 3) := by decide +kernel
theorem dX11_cyclesOf_32 : decode cX11_cyclesOf 32 = .ok (.ifCond .ne 17, 3) := by decide +kernel
theorem dX11_cyclesOf_35 : decode cX11_cyclesOf 35 = .ok (.aload_n 0, 1) := by decide +kernel
theorem dX11_cyclesOf_36 : decode cX11_cyclesOf 36 = .ok (.getfield 75, 3) := by decide +kernel
theorem dX11_cyclesOf_39 : decode cX11_cyclesOf 39 = .ok (.bipush 16, 2) := by decide +kernel
theorem dX11_cyclesOf_41 : decode cX11_cyclesOf 41 = .ok (.iload_n 1, 1) := by decide +kernel
theorem dX11_cyclesOf_42 : decode cX11_cyclesOf 42 = .ok (.imul, 1) := by decide +kernel
theorem dX11_cyclesOf_43 : decode cX11_cyclesOf 43 = .ok (.iload_n 2, 1) := by decide +kernel
theorem dX11_cyclesOf_44 : decode cX11_cyclesOf 44 = .ok (.iadd, 1) := by decide +kernel
theorem dX11_cyclesOf_45 : decode cX11_cyclesOf 45 = .ok (.laload, 1) := by decide +kernel
theorem dX11_cyclesOf_46 : decode cX11_cyclesOf 46 = .ok (.goto 4, 3) := by decide +kernel
theorem dX11_cyclesOf_49 : decode cX11_cyclesOf 49 = .ok (.lconst 0, 1) := by decide +kernel
theorem dX11_cyclesOf_50 : decode cX11_cyclesOf 50 = .ok (.lreturn, 1) := by decide +kernel
theorem dX11_usedShare_0 : decode cX11_usedShare 0 = .ok (.aload_n 0, 1) := by decide +kernel
theorem dX11_usedShare_1 : decode cX11_usedShare 1 = .ok (.aload_n 0, 1) := by decide +kernel
theorem dX11_usedShare_2 : decode cX11_usedShare 2 = .ok (.getfield 238, 3) := by decide +kernel
theorem dX11_usedShare_5 : decode cX11_usedShare 5 = .ok (.lconst 0, 1) := by decide +kernel
theorem dX11_usedShare_6 : decode cX11_usedShare 6 = .ok (.lcmp, 1) := by decide +kernel
theorem dX11_usedShare_7 : decode cX11_usedShare 7 = .ok (.ifCond .ne 7, 3) := by decide +kernel
theorem dX11_usedShare_10 : decode cX11_usedShare 10 = .ok (.iconst 1, 1) := by decide +kernel
theorem dX11_usedShare_11 : decode cX11_usedShare 11 = .ok (.goto 4, 3) := by decide +kernel
theorem dX11_usedShare_14 : decode cX11_usedShare 14 = .ok (.iconst 0, 1) := by decide +kernel
theorem dX11_usedShare_15 : decode cX11_usedShare 15 = .ok (.putfield 93, 3) := by decide +kernel
theorem dX11_usedShare_18 : decode cX11_usedShare 18 = .ok (.aload_n 0, 1) := by decide +kernel
theorem dX11_usedShare_19 : decode cX11_usedShare 19 = .ok (.getfield 93, 3) := by decide +kernel
theorem dX11_usedShare_22 : decode cX11_usedShare 22 = .ok (.ifCond .ne 17, 3) := by decide +kernel
theorem dX11_usedShare_25 : decode cX11_usedShare 25 = .ok (.aload_n 0, 1) := by decide +kernel
theorem dX11_usedShare_26 : decode cX11_usedShare 26 = .ok (.getfield 178, 3) := by decide +kernel
theorem dX11_usedShare_29 : decode cX11_usedShare 29 = .ok (.l2f, 1) := by decide +kernel
theorem dX11_usedShare_30 : decode cX11_usedShare 30 = .ok (.aload_n 0, 1) := by decide +kernel
theorem dX11_usedShare_31 : decode cX11_usedShare 31 = .ok (.getfield 238, 3) := by decide +kernel
theorem dX11_usedShare_34 : decode cX11_usedShare 34 = .ok (.l2f, 1) := by decide +kernel
theorem dX11_usedShare_35 : decode cX11_usedShare 35 = .ok (.fdiv, 1) := by decide +kernel
theorem dX11_usedShare_36 : decode cX11_usedShare 36 = .ok (.goto 4, 3) := by decide +kernel
theorem dX11_usedShare_39 : decode cX11_usedShare 39 = .ok (.fconst 0, 1) := by decide +kernel
theorem dX11_usedShare_40 : decode cX11_usedShare 40 = .ok (.freturn, 1) := by decide +kernel
theorem dX11_meanCycles_0 : decode cX11_meanCycles 0 = .ok (.aload_n 0, 1) := by decide +kernel
theorem dX11_meanCycles_1 : decode cX11_meanCycles 1 = .ok (.aload_n 0, 1) := by decide +kernel
theorem dX11_meanCycles_2 : decode cX11_meanCycles 2 = .ok (.getfield 172, 3) := by decide +kernel
theorem dX11_meanCycles_5 : decode cX11_meanCycles 5 = .ok (.ifCond .ne 7, 3) := by decide +kernel
theorem dX11_meanCycles_8 : decode cX11_meanCycles 8 = .ok (.iconst 1, 1) := by decide +kernel
theorem dX11_meanCycles_9 : decode cX11_meanCycles 9 = .ok (.goto 4, 3) := by decide +kernel
theorem dX11_meanCycles_12 : decode cX11_meanCycles 12 = .ok (.iconst 0, 1) := by decide +kernel
theorem dX11_meanCycles_13 : decode cX11_meanCycles 13 = .ok (.putfield 93, 3) := by decide +kernel
theorem dX11_meanCycles_16 : decode cX11_meanCycles 16 = .ok (.aload_n 0, 1) := by decide +kernel
theorem dX11_meanCycles_17 : decode cX11_meanCycles 17 = .ok (.getfield 93, 3) := by decide +kernel
theorem dX11_meanCycles_20 : decode cX11_meanCycles 20 = .ok (.ifCond .ne 17, 3) := by decide +kernel
theorem dX11_meanCycles_23 : decode cX11_meanCycles 23 = .ok (.aload_n 0, 1) := by decide +kernel
theorem dX11_meanCycles_24 : decode cX11_meanCycles 24 = .ok (.getfield 178, 3) := by decide +kernel
theorem dX11_meanCycles_27 : decode cX11_meanCycles 27 = .ok (.l2d, 1) := by decide +kernel
theorem dX11_meanCycles_28 : decode cX11_meanCycles 28 = .ok (.aload_n 0, 1) := by decide +kernel
theorem dX11_meanCycles_29 : decode cX11_meanCycles 29 = .ok (.getfield 172, 3) := by decide +kernel
theorem dX11_meanCycles_32 : decode cX11_meanCycles 32 = .ok (.i2d, 1) := by decide +kernel
theorem dX11_meanCycles_33 : decode cX11_meanCycles 33 = .ok (.ddiv, 1) := by decide +kernel
theorem dX11_meanCycles_34 : decode cX11_meanCycles 34 = .ok (.goto 4, 3) := by decide +kernel
theorem dX11_meanCycles_37 : decode cX11_meanCycles 37 = .ok (.dconst 0, 1) := by decide +kernel
theorem dX11_meanCycles_38 : decode cX11_meanCycles 38 = .ok (.dreturn, 1) := by decide +kernel
theorem dX11_isSound_0 : decode cX11_isSound 0 = .ok (.iconst 1, 1) := by decide +kernel
theorem dX11_isSound_1 : decode cX11_isSound 1 = .ok (.ireturn, 1) := by decide +kernel
