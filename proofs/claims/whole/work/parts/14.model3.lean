theorem dX12_isRound_0 : q_at cX12_isRound 0 (.aload_n 0) 1 1 := ⟨by decide +kernel, rfl⟩
theorem dX12_isRound_1 : q_at cX12_isRound 1 (.getfield 7) 3 4 := ⟨by decide +kernel, rfl⟩
theorem dX12_isRound_4 : q_at cX12_isRound 4 (.sipush 3250) 3 7 := ⟨by decide +kernel, rfl⟩
theorem dX12_isRound_7 : q_at cX12_isRound 7 (.iload_n 1) 1 8 := ⟨by decide +kernel, rfl⟩
theorem dX12_isRound_8 : q_at cX12_isRound 8 (.iadd) 1 9 := ⟨by decide +kernel, rfl⟩
theorem dX12_isRound_9 : q_at cX12_isRound 9 (.iaload) 1 10 := ⟨by decide +kernel, rfl⟩
theorem dX12_isRound_10 : q_at cX12_isRound 10 (.iconst 1) 1 11 := ⟨by decide +kernel, rfl⟩
theorem dX12_isRound_11 : q_at cX12_isRound 11 (.if_icmp .ne 21) 3 14 := ⟨by decide +kernel, rfl⟩
theorem dX12_isRound_14 : q_at cX12_isRound 14 (.aload_n 0) 1 15 := ⟨by decide +kernel, rfl⟩
theorem dX12_isRound_15 : q_at cX12_isRound 15 (.aload_n 0) 1 16 := ⟨by decide +kernel, rfl⟩
theorem dX12_isRound_16 : q_at cX12_isRound 16 (.bipush 6) 2 18 := ⟨by decide +kernel, rfl⟩
theorem dX12_isRound_18 : q_at cX12_isRound 18 (.invokevirtual 313) 3 21 := ⟨by decide +kernel, rfl⟩
theorem dX12_isRound_21 : q_at cX12_isRound 21 (.iload_n 1) 1 22 := ⟨by decide +kernel, rfl⟩
theorem dX12_isRound_22 : q_at cX12_isRound 22 (.invokevirtual 386) 3 25 := ⟨by decide +kernel, rfl⟩
theorem dX12_isRound_25 : q_at cX12_isRound 25 (.ifCond .ne 7) 3 28 := ⟨by decide +kernel, rfl⟩
theorem dX12_isRound_28 : q_at cX12_isRound 28 (.iconst 1) 1 29 := ⟨by decide +kernel, rfl⟩
theorem dX12_isRound_29 : q_at cX12_isRound 29 (.goto 4) 3 32 := ⟨by decide +kernel, rfl⟩
theorem dX12_isRound_32 : q_at cX12_isRound 32 (.iconst 0) 1 33 := ⟨by decide +kernel, rfl⟩
theorem dX12_isRound_33 : q_at cX12_isRound 33 (.ireturn) 1 34 := ⟨by decide +kernel, rfl⟩
theorem dX12_pays_0 : q_at cX12_pays 0 (.aload_n 0) 1 1 := ⟨by decide +kernel, rfl⟩
theorem dX12_pays_1 : q_at cX12_pays 1 (.aload_n 0) 1 2 := ⟨by decide +kernel, rfl⟩
theorem dX12_pays_2 : q_at cX12_pays 2 (.iload_n 1) 1 3 := ⟨by decide +kernel, rfl⟩
theorem dX12_pays_3 : q_at cX12_pays 3 (.invokevirtual 115) 3 6 := ⟨by decide +kernel, rfl⟩
theorem dX12_pays_6 : q_at cX12_pays 6 (.putfield 156) 3 9 := ⟨by decide +kernel, rfl⟩
theorem dX12_pays_9 : q_at cX12_pays 9 (.aload_n 0) 1 10 := ⟨by decide +kernel, rfl⟩
theorem dX12_pays_10 : q_at cX12_pays 10 (.aload_n 0) 1 11 := ⟨by decide +kernel, rfl⟩
theorem dX12_pays_11 : q_at cX12_pays 11 (.getfield 156) 3 14 := ⟨by decide +kernel, rfl⟩
theorem dX12_pays_14 : q_at cX12_pays 14 (.invokevirtual 160) 3 17 := ⟨by decide +kernel, rfl⟩
theorem dX12_pays_17 : q_at cX12_pays 17 (.istore_n 3) 1 18 := ⟨by decide +kernel, rfl⟩
theorem dX12_pays_18 : q_at cX12_pays 18 (.aload_n 0) 1 19 := ⟨by decide +kernel, rfl⟩
theorem dX12_pays_19 : q_at cX12_pays 19 (.iconst 0) 1 20 := ⟨by decide +kernel, rfl⟩
theorem dX12_pays_20 : q_at cX12_pays 20 (.putfield 163) 3 23 := ⟨by decide +kernel, rfl⟩
theorem dX12_pays_23 : q_at cX12_pays 23 (.aload_n 0) 1 24 := ⟨by decide +kernel, rfl⟩
theorem dX12_pays_24 : q_at cX12_pays 24 (.iconst 0) 1 25 := ⟨by decide +kernel, rfl⟩
theorem dX12_pays_25 : q_at cX12_pays 25 (.putfield 166) 3 28 := ⟨by decide +kernel, rfl⟩
theorem dX12_pays_28 : q_at cX12_pays 28 (.aload_n 0) 1 29 := ⟨by decide +kernel, rfl⟩
theorem dX12_pays_29 : q_at cX12_pays 29 (.iconst 0) 1 30 := ⟨by decide +kernel, rfl⟩
theorem dX12_pays_30 : q_at cX12_pays 30 (.putfield 169) 3 33 := ⟨by decide +kernel, rfl⟩
theorem dX12_pays_33 : q_at cX12_pays 33 (.iconst 0) 1 34 := ⟨by decide +kernel, rfl⟩
theorem dX12_pays_34 : q_at cX12_pays 34 (.istore 4) 2 36 := ⟨by decide +kernel, rfl⟩
theorem dX12_pays_36 : q_at cX12_pays 36 (.iload 4) 2 38 := ⟨by decide +kernel, rfl⟩
theorem dX12_pays_38 : q_at cX12_pays 38 (.aload_n 0) 1 39 := ⟨by decide +kernel, rfl⟩
theorem dX12_pays_39 : q_at cX12_pays 39 (.getfield 7) 3 42 := ⟨by decide +kernel, rfl⟩
theorem dX12_pays_42 : q_at cX12_pays 42 (.iconst 3) 1 43 := ⟨by decide +kernel, rfl⟩
theorem dX12_pays_43 : q_at cX12_pays 43 (.iaload) 1 44 := ⟨by decide +kernel, rfl⟩
theorem dX12_pays_44 : q_at cX12_pays 44 (.if_icmp .ge 122) 3 47 := ⟨by decide +kernel, rfl⟩
theorem dX12_pays_47 : q_at cX12_pays 47 (.aload_n 0) 1 48 := ⟨by decide +kernel, rfl⟩
theorem dX12_pays_48 : q_at cX12_pays 48 (.iload 4) 2 50 := ⟨by decide +kernel, rfl⟩
theorem dX12_pays_50 : q_at cX12_pays 50 (.invokevirtual 75) 3 53 := ⟨by decide +kernel, rfl⟩
theorem dX12_pays_53 : q_at cX12_pays 53 (.istore 5) 2 55 := ⟨by decide +kernel, rfl⟩
theorem dX12_pays_55 : q_at cX12_pays 55 (.aload_n 0) 1 56 := ⟨by decide +kernel, rfl⟩
theorem dX12_pays_56 : q_at cX12_pays 56 (.getfield 7) 3 59 := ⟨by decide +kernel, rfl⟩
theorem dX12_pays_59 : q_at cX12_pays 59 (.iload 5) 2 61 := ⟨by decide +kernel, rfl⟩
theorem dX12_pays_61 : q_at cX12_pays 61 (.iconst 1) 1 62 := ⟨by decide +kernel, rfl⟩
theorem dX12_pays_62 : q_at cX12_pays 62 (.iadd) 1 63 := ⟨by decide +kernel, rfl⟩
theorem dX12_pays_63 : q_at cX12_pays 63 (.iaload) 1 64 := ⟨by decide +kernel, rfl⟩
theorem dX12_pays_64 : q_at cX12_pays 64 (.iload_n 1) 1 65 := ⟨by decide +kernel, rfl⟩
theorem dX12_pays_65 : q_at cX12_pays 65 (.if_icmp .ne 95) 3 68 := ⟨by decide +kernel, rfl⟩
theorem dX12_pays_68 : q_at cX12_pays 68 (.aload_n 0) 1 69 := ⟨by decide +kernel, rfl⟩
theorem dX12_pays_69 : q_at cX12_pays 69 (.getfield 7) 3 72 := ⟨by decide +kernel, rfl⟩
theorem dX12_pays_72 : q_at cX12_pays 72 (.iload 5) 2 74 := ⟨by decide +kernel, rfl⟩
theorem dX12_pays_74 : q_at cX12_pays 74 (.iconst 5) 1 75 := ⟨by decide +kernel, rfl⟩
theorem dX12_pays_75 : q_at cX12_pays 75 (.iadd) 1 76 := ⟨by decide +kernel, rfl⟩
theorem dX12_pays_76 : q_at cX12_pays 76 (.iaload) 1 77 := ⟨by decide +kernel, rfl⟩
theorem dX12_pays_77 : q_at cX12_pays 77 (.ifCond .ne 83) 3 80 := ⟨by decide +kernel, rfl⟩
theorem dX12_pays_80 : q_at cX12_pays 80 (.aload_n 0) 1 81 := ⟨by decide +kernel, rfl⟩
theorem dX12_pays_81 : q_at cX12_pays 81 (.getfield 7) 3 84 := ⟨by decide +kernel, rfl⟩
theorem dX12_pays_84 : q_at cX12_pays 84 (.iload 5) 2 86 := ⟨by decide +kernel, rfl⟩
theorem dX12_pays_86 : q_at cX12_pays 86 (.iaload) 1 87 := ⟨by decide +kernel, rfl⟩
theorem dX12_pays_87 : q_at cX12_pays 87 (.iconst 2) 1 88 := ⟨by decide +kernel, rfl⟩
theorem dX12_pays_88 : q_at cX12_pays 88 (.if_icmp .eq 14) 3 91 := ⟨by decide +kernel, rfl⟩
theorem dX12_pays_91 : q_at cX12_pays 91 (.aload_n 0) 1 92 := ⟨by decide +kernel, rfl⟩
theorem dX12_pays_92 : q_at cX12_pays 92 (.getfield 7) 3 95 := ⟨by decide +kernel, rfl⟩
theorem dX12_pays_95 : q_at cX12_pays 95 (.iload 5) 2 97 := ⟨by decide +kernel, rfl⟩
theorem dX12_pays_97 : q_at cX12_pays 97 (.iaload) 1 98 := ⟨by decide +kernel, rfl⟩
theorem dX12_pays_98 : q_at cX12_pays 98 (.iconst 3) 1 99 := ⟨by decide +kernel, rfl⟩
theorem dX12_pays_99 : q_at cX12_pays 99 (.if_icmp .ne 61) 3 102 := ⟨by decide +kernel, rfl⟩
theorem dX12_pays_102 : q_at cX12_pays 102 (.aload_n 0) 1 103 := ⟨by decide +kernel, rfl⟩
theorem dX12_pays_103 : q_at cX12_pays 103 (.getfield 156) 3 106 := ⟨by decide +kernel, rfl⟩
theorem dX12_pays_106 : q_at cX12_pays 106 (.aload_n 0) 1 107 := ⟨by decide +kernel, rfl⟩
theorem dX12_pays_107 : q_at cX12_pays 107 (.getfield 7) 3 110 := ⟨by decide +kernel, rfl⟩
theorem dX12_pays_110 : q_at cX12_pays 110 (.iload 5) 2 112 := ⟨by decide +kernel, rfl⟩
theorem dX12_pays_112 : q_at cX12_pays 112 (.iconst 2) 1 113 := ⟨by decide +kernel, rfl⟩
theorem dX12_pays_113 : q_at cX12_pays 113 (.iadd) 1 114 := ⟨by decide +kernel, rfl⟩
theorem dX12_pays_114 : q_at cX12_pays 114 (.iaload) 1 115 := ⟨by decide +kernel, rfl⟩
theorem dX12_pays_115 : q_at cX12_pays 115 (.invokestatic 138) 3 118 := ⟨by decide +kernel, rfl⟩
theorem dX12_pays_118 : q_at cX12_pays 118 (.istore 6) 2 120 := ⟨by decide +kernel, rfl⟩
theorem dX12_pays_120 : q_at cX12_pays 120 (.aload_n 0) 1 121 := ⟨by decide +kernel, rfl⟩
theorem dX12_pays_121 : q_at cX12_pays 121 (.dup) 1 122 := ⟨by decide +kernel, rfl⟩
theorem dX12_pays_122 : q_at cX12_pays 122 (.getfield 156) 3 125 := ⟨by decide +kernel, rfl⟩
theorem dX12_pays_125 : q_at cX12_pays 125 (.iload 6) 2 127 := ⟨by decide +kernel, rfl⟩
theorem dX12_pays_127 : q_at cX12_pays 127 (.isub) 1 128 := ⟨by decide +kernel, rfl⟩
theorem dX12_pays_128 : q_at cX12_pays 128 (.putfield 156) 3 131 := ⟨by decide +kernel, rfl⟩
theorem dX12_pays_131 : q_at cX12_pays 131 (.aload_n 0) 1 132 := ⟨by decide +kernel, rfl⟩
theorem dX12_pays_132 : q_at cX12_pays 132 (.dup) 1 133 := ⟨by decide +kernel, rfl⟩
theorem dX12_pays_133 : q_at cX12_pays 133 (.getfield 163) 3 136 := ⟨by decide +kernel, rfl⟩
theorem dX12_pays_136 : q_at cX12_pays 136 (.iload 6) 2 138 := ⟨by decide +kernel, rfl⟩
theorem dX12_pays_138 : q_at cX12_pays 138 (.iadd) 1 139 := ⟨by decide +kernel, rfl⟩
theorem dX12_pays_139 : q_at cX12_pays 139 (.putfield 163) 3 142 := ⟨by decide +kernel, rfl⟩
theorem dX12_pays_142 : q_at cX12_pays 142 (.aload_n 0) 1 143 := ⟨by decide +kernel, rfl⟩
theorem dX12_pays_143 : q_at cX12_pays 143 (.getfield 7) 3 146 := ⟨by decide +kernel, rfl⟩
theorem dX12_pays_146 : q_at cX12_pays 146 (.iload 5) 2 148 := ⟨by decide +kernel, rfl⟩
theorem dX12_pays_148 : q_at cX12_pays 148 (.iconst 5) 1 149 := ⟨by decide +kernel, rfl⟩
theorem dX12_pays_149 : q_at cX12_pays 149 (.iadd) 1 150 := ⟨by decide +kernel, rfl⟩
theorem dX12_pays_150 : q_at cX12_pays 150 (.iload_n 2) 1 151 := ⟨by decide +kernel, rfl⟩
theorem dX12_pays_151 : q_at cX12_pays 151 (.ifCond .eq 7) 3 154 := ⟨by decide +kernel, rfl⟩
theorem dX12_pays_154 : q_at cX12_pays 154 (.iconst 1) 1 155 := ⟨by decide +kernel, rfl⟩
theorem dX12_pays_155 : q_at cX12_pays 155 (.goto 4) 3 158 := ⟨by decide +kernel, rfl⟩
theorem dX12_pays_158 : q_at cX12_pays 158 (.iconst 0) 1 159 := ⟨by decide +kernel, rfl⟩
theorem dX12_pays_159 : q_at cX12_pays 159 (.iastore) 1 160 := ⟨by decide +kernel, rfl⟩
theorem dX12_pays_160 : q_at cX12_pays 160 (.iinc 4 1) 3 163 := ⟨by decide +kernel, rfl⟩
theorem dX12_pays_163 : q_at cX12_pays 163 (.goto (-127)) 3 166 := ⟨by decide +kernel, rfl⟩
theorem dX12_pays_166 : q_at cX12_pays 166 (.iconst 0) 1 167 := ⟨by decide +kernel, rfl⟩
theorem dX12_pays_167 : q_at cX12_pays 167 (.istore 4) 2 169 := ⟨by decide +kernel, rfl⟩
theorem dX12_pays_169 : q_at cX12_pays 169 (.iload 4) 2 171 := ⟨by decide +kernel, rfl⟩
theorem dX12_pays_171 : q_at cX12_pays 171 (.aload_n 0) 1 172 := ⟨by decide +kernel, rfl⟩
theorem dX12_pays_172 : q_at cX12_pays 172 (.getfield 7) 3 175 := ⟨by decide +kernel, rfl⟩
theorem dX12_pays_175 : q_at cX12_pays 175 (.iconst 3) 1 176 := ⟨by decide +kernel, rfl⟩
theorem dX12_pays_176 : q_at cX12_pays 176 (.iaload) 1 177 := ⟨by decide +kernel, rfl⟩
theorem dX12_pays_177 : q_at cX12_pays 177 (.if_icmp .ge 138) 3 180 := ⟨by decide +kernel, rfl⟩
theorem dX12_pays_180 : q_at cX12_pays 180 (.aload_n 0) 1 181 := ⟨by decide +kernel, rfl⟩
theorem dX12_pays_181 : q_at cX12_pays 181 (.iload 4) 2 183 := ⟨by decide +kernel, rfl⟩
theorem dX12_pays_183 : q_at cX12_pays 183 (.invokevirtual 75) 3 186 := ⟨by decide +kernel, rfl⟩
theorem dX12_pays_186 : q_at cX12_pays 186 (.istore 5) 2 188 := ⟨by decide +kernel, rfl⟩
theorem dX12_pays_188 : q_at cX12_pays 188 (.aload_n 0) 1 189 := ⟨by decide +kernel, rfl⟩
theorem dX12_pays_189 : q_at cX12_pays 189 (.getfield 7) 3 192 := ⟨by decide +kernel, rfl⟩
theorem dX12_pays_192 : q_at cX12_pays 192 (.iload 5) 2 194 := ⟨by decide +kernel, rfl⟩
theorem dX12_pays_194 : q_at cX12_pays 194 (.iconst 1) 1 195 := ⟨by decide +kernel, rfl⟩
theorem dX12_pays_195 : q_at cX12_pays 195 (.iadd) 1 196 := ⟨by decide +kernel, rfl⟩
theorem dX12_pays_196 : q_at cX12_pays 196 (.iaload) 1 197 := ⟨by decide +kernel, rfl⟩
theorem dX12_pays_197 : q_at cX12_pays 197 (.iload_n 1) 1 198 := ⟨by decide +kernel, rfl⟩
theorem dX12_pays_198 : q_at cX12_pays 198 (.if_icmp .ne 111) 3 201 := ⟨by decide +kernel, rfl⟩
theorem dX12_pays_201 : q_at cX12_pays 201 (.aload_n 0) 1 202 := ⟨by decide +kernel, rfl⟩
theorem dX12_pays_202 : q_at cX12_pays 202 (.getfield 7) 3 205 := ⟨by decide +kernel, rfl⟩
theorem dX12_pays_205 : q_at cX12_pays 205 (.iload 5) 2 207 := ⟨by decide +kernel, rfl⟩
theorem dX12_pays_207 : q_at cX12_pays 207 (.iconst 5) 1 208 := ⟨by decide +kernel, rfl⟩
theorem dX12_pays_208 : q_at cX12_pays 208 (.iadd) 1 209 := ⟨by decide +kernel, rfl⟩
theorem dX12_pays_209 : q_at cX12_pays 209 (.iaload) 1 210 := ⟨by decide +kernel, rfl⟩
theorem dX12_pays_210 : q_at cX12_pays 210 (.ifCond .ne 99) 3 213 := ⟨by decide +kernel, rfl⟩
theorem dX12_pays_213 : q_at cX12_pays 213 (.aload_n 0) 1 214 := ⟨by decide +kernel, rfl⟩
theorem dX12_pays_214 : q_at cX12_pays 214 (.getfield 7) 3 217 := ⟨by decide +kernel, rfl⟩
theorem dX12_pays_217 : q_at cX12_pays 217 (.iload 5) 2 219 := ⟨by decide +kernel, rfl⟩
theorem dX12_pays_219 : q_at cX12_pays 219 (.iaload) 1 220 := ⟨by decide +kernel, rfl⟩
theorem dX12_pays_220 : q_at cX12_pays 220 (.iconst 4) 1 221 := ⟨by decide +kernel, rfl⟩
theorem dX12_pays_221 : q_at cX12_pays 221 (.if_icmp .ne 88) 3 224 := ⟨by decide +kernel, rfl⟩
theorem dX12_pays_224 : q_at cX12_pays 224 (.aload_n 0) 1 225 := ⟨by decide +kernel, rfl⟩
theorem dX12_pays_225 : q_at cX12_pays 225 (.getfield 156) 3 228 := ⟨by decide +kernel, rfl⟩
theorem dX12_pays_228 : q_at cX12_pays 228 (.aload_n 0) 1 229 := ⟨by decide +kernel, rfl⟩
theorem dX12_pays_229 : q_at cX12_pays 229 (.getfield 7) 3 232 := ⟨by decide +kernel, rfl⟩
theorem dX12_pays_232 : q_at cX12_pays 232 (.iload 5) 2 234 := ⟨by decide +kernel, rfl⟩
theorem dX12_pays_234 : q_at cX12_pays 234 (.iconst 2) 1 235 := ⟨by decide +kernel, rfl⟩
theorem dX12_pays_235 : q_at cX12_pays 235 (.iadd) 1 236 := ⟨by decide +kernel, rfl⟩
theorem dX12_pays_236 : q_at cX12_pays 236 (.iaload) 1 237 := ⟨by decide +kernel, rfl⟩
theorem dX12_pays_237 : q_at cX12_pays 237 (.invokestatic 138) 3 240 := ⟨by decide +kernel, rfl⟩
theorem dX12_pays_240 : q_at cX12_pays 240 (.istore 6) 2 242 := ⟨by decide +kernel, rfl⟩
theorem dX12_pays_242 : q_at cX12_pays 242 (.aload_n 0) 1 243 := ⟨by decide +kernel, rfl⟩
theorem dX12_pays_243 : q_at cX12_pays 243 (.dup) 1 244 := ⟨by decide +kernel, rfl⟩
theorem dX12_pays_244 : q_at cX12_pays 244 (.getfield 156) 3 247 := ⟨by decide +kernel, rfl⟩
theorem dX12_pays_247 : q_at cX12_pays 247 (.iload 6) 2 249 := ⟨by decide +kernel, rfl⟩
theorem dX12_pays_249 : q_at cX12_pays 249 (.isub) 1 250 := ⟨by decide +kernel, rfl⟩
theorem dX12_pays_250 : q_at cX12_pays 250 (.putfield 156) 3 253 := ⟨by decide +kernel, rfl⟩
theorem dX12_pays_253 : q_at cX12_pays 253 (.aload_n 0) 1 254 := ⟨by decide +kernel, rfl⟩
theorem dX12_pays_254 : q_at cX12_pays 254 (.dup) 1 255 := ⟨by decide +kernel, rfl⟩
theorem dX12_pays_255 : q_at cX12_pays 255 (.getfield 166) 3 258 := ⟨by decide +kernel, rfl⟩
theorem dX12_pays_258 : q_at cX12_pays 258 (.iload 6) 2 260 := ⟨by decide +kernel, rfl⟩
theorem dX12_pays_260 : q_at cX12_pays 260 (.iadd) 1 261 := ⟨by decide +kernel, rfl⟩
theorem dX12_pays_261 : q_at cX12_pays 261 (.putfield 166) 3 264 := ⟨by decide +kernel, rfl⟩
theorem dX12_pays_264 : q_at cX12_pays 264 (.aload_n 0) 1 265 := ⟨by decide +kernel, rfl⟩
theorem dX12_pays_265 : q_at cX12_pays 265 (.getfield 7) 3 268 := ⟨by decide +kernel, rfl⟩
theorem dX12_pays_268 : q_at cX12_pays 268 (.iload 5) 2 270 := ⟨by decide +kernel, rfl⟩
theorem dX12_pays_270 : q_at cX12_pays 270 (.iconst 5) 1 271 := ⟨by decide +kernel, rfl⟩
theorem dX12_pays_271 : q_at cX12_pays 271 (.iadd) 1 272 := ⟨by decide +kernel, rfl⟩
theorem dX12_pays_272 : q_at cX12_pays 272 (.iload_n 2) 1 273 := ⟨by decide +kernel, rfl⟩
theorem dX12_pays_273 : q_at cX12_pays 273 (.ifCond .eq 7) 3 276 := ⟨by decide +kernel, rfl⟩
theorem dX12_pays_276 : q_at cX12_pays 276 (.iconst 1) 1 277 := ⟨by decide +kernel, rfl⟩
theorem dX12_pays_277 : q_at cX12_pays 277 (.goto 4) 3 280 := ⟨by decide +kernel, rfl⟩
theorem dX12_pays_280 : q_at cX12_pays 280 (.iconst 0) 1 281 := ⟨by decide +kernel, rfl⟩
theorem dX12_pays_281 : q_at cX12_pays 281 (.iastore) 1 282 := ⟨by decide +kernel, rfl⟩
theorem dX12_pays_282 : q_at cX12_pays 282 (.aload_n 0) 1 283 := ⟨by decide +kernel, rfl⟩
theorem dX12_pays_283 : q_at cX12_pays 283 (.getfield 7) 3 286 := ⟨by decide +kernel, rfl⟩
theorem dX12_pays_286 : q_at cX12_pays 286 (.iload 5) 2 288 := ⟨by decide +kernel, rfl⟩
theorem dX12_pays_288 : q_at cX12_pays 288 (.iconst 2) 1 289 := ⟨by decide +kernel, rfl⟩
theorem dX12_pays_289 : q_at cX12_pays 289 (.iadd) 1 290 := ⟨by decide +kernel, rfl⟩
theorem dX12_pays_290 : q_at cX12_pays 290 (.iload_n 2) 1 291 := ⟨by decide +kernel, rfl⟩
theorem dX12_pays_291 : q_at cX12_pays 291 (.ifCond .eq 8) 3 294 := ⟨by decide +kernel, rfl⟩
theorem dX12_pays_294 : q_at cX12_pays 294 (.iload 6) 2 296 := ⟨by decide +kernel, rfl⟩
theorem dX12_pays_296 : q_at cX12_pays 296 (.goto 12) 3 299 := ⟨by decide +kernel, rfl⟩
theorem dX12_pays_299 : q_at cX12_pays 299 (.aload_n 0) 1 300 := ⟨by decide +kernel, rfl⟩
theorem dX12_pays_300 : q_at cX12_pays 300 (.getfield 7) 3 303 := ⟨by decide +kernel, rfl⟩
theorem dX12_pays_303 : q_at cX12_pays 303 (.iload 5) 2 305 := ⟨by decide +kernel, rfl⟩
theorem dX12_pays_305 : q_at cX12_pays 305 (.iconst 2) 1 306 := ⟨by decide +kernel, rfl⟩
theorem dX12_pays_306 : q_at cX12_pays 306 (.iadd) 1 307 := ⟨by decide +kernel, rfl⟩
theorem dX12_pays_307 : q_at cX12_pays 307 (.iaload) 1 308 := ⟨by decide +kernel, rfl⟩
theorem dX12_pays_308 : q_at cX12_pays 308 (.iastore) 1 309 := ⟨by decide +kernel, rfl⟩
theorem dX12_pays_309 : q_at cX12_pays 309 (.iinc 4 1) 3 312 := ⟨by decide +kernel, rfl⟩
theorem dX12_pays_312 : q_at cX12_pays 312 (.goto (-143)) 3 315 := ⟨by decide +kernel, rfl⟩
theorem dX12_pays_315 : q_at cX12_pays 315 (.iconst 0) 1 316 := ⟨by decide +kernel, rfl⟩
theorem dX12_pays_316 : q_at cX12_pays 316 (.istore 4) 2 318 := ⟨by decide +kernel, rfl⟩
theorem dX12_pays_318 : q_at cX12_pays 318 (.iload 4) 2 320 := ⟨by decide +kernel, rfl⟩
theorem dX12_pays_320 : q_at cX12_pays 320 (.aload_n 0) 1 321 := ⟨by decide +kernel, rfl⟩
theorem dX12_pays_321 : q_at cX12_pays 321 (.getfield 7) 3 324 := ⟨by decide +kernel, rfl⟩
theorem dX12_pays_324 : q_at cX12_pays 324 (.iconst 3) 1 325 := ⟨by decide +kernel, rfl⟩
theorem dX12_pays_325 : q_at cX12_pays 325 (.iaload) 1 326 := ⟨by decide +kernel, rfl⟩
theorem dX12_pays_326 : q_at cX12_pays 326 (.if_icmp .ge 125) 3 329 := ⟨by decide +kernel, rfl⟩
theorem dX12_pays_329 : q_at cX12_pays 329 (.aload_n 0) 1 330 := ⟨by decide +kernel, rfl⟩
theorem dX12_pays_330 : q_at cX12_pays 330 (.iload 4) 2 332 := ⟨by decide +kernel, rfl⟩
theorem dX12_pays_332 : q_at cX12_pays 332 (.invokevirtual 75) 3 335 := ⟨by decide +kernel, rfl⟩
theorem dX12_pays_335 : q_at cX12_pays 335 (.istore 5) 2 337 := ⟨by decide +kernel, rfl⟩
theorem dX12_pays_337 : q_at cX12_pays 337 (.aload_n 0) 1 338 := ⟨by decide +kernel, rfl⟩
theorem dX12_pays_338 : q_at cX12_pays 338 (.getfield 7) 3 341 := ⟨by decide +kernel, rfl⟩
theorem dX12_pays_341 : q_at cX12_pays 341 (.iload 5) 2 343 := ⟨by decide +kernel, rfl⟩
theorem dX12_pays_343 : q_at cX12_pays 343 (.iconst 1) 1 344 := ⟨by decide +kernel, rfl⟩
theorem dX12_pays_344 : q_at cX12_pays 344 (.iadd) 1 345 := ⟨by decide +kernel, rfl⟩
theorem dX12_pays_345 : q_at cX12_pays 345 (.iaload) 1 346 := ⟨by decide +kernel, rfl⟩
theorem dX12_pays_346 : q_at cX12_pays 346 (.iload_n 1) 1 347 := ⟨by decide +kernel, rfl⟩
theorem dX12_pays_347 : q_at cX12_pays 347 (.if_icmp .ne 98) 3 350 := ⟨by decide +kernel, rfl⟩
theorem dX12_pays_350 : q_at cX12_pays 350 (.aload_n 0) 1 351 := ⟨by decide +kernel, rfl⟩
theorem dX12_pays_351 : q_at cX12_pays 351 (.getfield 7) 3 354 := ⟨by decide +kernel, rfl⟩
theorem dX12_pays_354 : q_at cX12_pays 354 (.iload 5) 2 356 := ⟨by decide +kernel, rfl⟩
theorem dX12_pays_356 : q_at cX12_pays 356 (.iconst 5) 1 357 := ⟨by decide +kernel, rfl⟩
theorem dX12_pays_357 : q_at cX12_pays 357 (.iadd) 1 358 := ⟨by decide +kernel, rfl⟩
theorem dX12_pays_358 : q_at cX12_pays 358 (.iaload) 1 359 := ⟨by decide +kernel, rfl⟩
theorem dX12_pays_359 : q_at cX12_pays 359 (.ifCond .ne 86) 3 362 := ⟨by decide +kernel, rfl⟩
theorem dX12_pays_362 : q_at cX12_pays 362 (.aload_n 0) 1 363 := ⟨by decide +kernel, rfl⟩
theorem dX12_pays_363 : q_at cX12_pays 363 (.getfield 7) 3 366 := ⟨by decide +kernel, rfl⟩
theorem dX12_pays_366 : q_at cX12_pays 366 (.iload 5) 2 368 := ⟨by decide +kernel, rfl⟩
theorem dX12_pays_368 : q_at cX12_pays 368 (.iaload) 1 369 := ⟨by decide +kernel, rfl⟩
theorem dX12_pays_369 : q_at cX12_pays 369 (.iconst 5) 1 370 := ⟨by decide +kernel, rfl⟩
theorem dX12_pays_370 : q_at cX12_pays 370 (.if_icmp .ne 75) 3 373 := ⟨by decide +kernel, rfl⟩
theorem dX12_pays_373 : q_at cX12_pays 373 (.aload_n 0) 1 374 := ⟨by decide +kernel, rfl⟩
theorem dX12_pays_374 : q_at cX12_pays 374 (.getfield 156) 3 377 := ⟨by decide +kernel, rfl⟩
theorem dX12_pays_377 : q_at cX12_pays 377 (.aload_n 0) 1 378 := ⟨by decide +kernel, rfl⟩
theorem dX12_pays_378 : q_at cX12_pays 378 (.getfield 7) 3 381 := ⟨by decide +kernel, rfl⟩
theorem dX12_pays_381 : q_at cX12_pays 381 (.iload 5) 2 383 := ⟨by decide +kernel, rfl⟩
theorem dX12_pays_383 : q_at cX12_pays 383 (.iconst 2) 1 384 := ⟨by decide +kernel, rfl⟩
theorem dX12_pays_384 : q_at cX12_pays 384 (.iadd) 1 385 := ⟨by decide +kernel, rfl⟩
theorem dX12_pays_385 : q_at cX12_pays 385 (.iaload) 1 386 := ⟨by decide +kernel, rfl⟩
theorem dX12_pays_386 : q_at cX12_pays 386 (.invokestatic 138) 3 389 := ⟨by decide +kernel, rfl⟩
theorem dX12_pays_389 : q_at cX12_pays 389 (.iload_n 3) 1 390 := ⟨by decide +kernel, rfl⟩
theorem dX12_pays_390 : q_at cX12_pays 390 (.aload_n 0) 1 391 := ⟨by decide +kernel, rfl⟩
theorem dX12_pays_391 : q_at cX12_pays 391 (.getfield 169) 3 394 := ⟨by decide +kernel, rfl⟩
theorem dX12_pays_394 : q_at cX12_pays 394 (.isub) 1 395 := ⟨by decide +kernel, rfl⟩
theorem dX12_pays_395 : q_at cX12_pays 395 (.invokestatic 138) 3 398 := ⟨by decide +kernel, rfl⟩
theorem dX12_pays_398 : q_at cX12_pays 398 (.istore 6) 2 400 := ⟨by decide +kernel, rfl⟩
theorem dX12_pays_400 : q_at cX12_pays 400 (.aload_n 0) 1 401 := ⟨by decide +kernel, rfl⟩
theorem dX12_pays_401 : q_at cX12_pays 401 (.dup) 1 402 := ⟨by decide +kernel, rfl⟩
theorem dX12_pays_402 : q_at cX12_pays 402 (.getfield 156) 3 405 := ⟨by decide +kernel, rfl⟩
theorem dX12_pays_405 : q_at cX12_pays 405 (.iload 6) 2 407 := ⟨by decide +kernel, rfl⟩
theorem dX12_pays_407 : q_at cX12_pays 407 (.isub) 1 408 := ⟨by decide +kernel, rfl⟩
theorem dX12_pays_408 : q_at cX12_pays 408 (.putfield 156) 3 411 := ⟨by decide +kernel, rfl⟩
theorem dX12_pays_411 : q_at cX12_pays 411 (.aload_n 0) 1 412 := ⟨by decide +kernel, rfl⟩
theorem dX12_pays_412 : q_at cX12_pays 412 (.dup) 1 413 := ⟨by decide +kernel, rfl⟩
theorem dX12_pays_413 : q_at cX12_pays 413 (.getfield 169) 3 416 := ⟨by decide +kernel, rfl⟩
theorem dX12_pays_416 : q_at cX12_pays 416 (.iload 6) 2 418 := ⟨by decide +kernel, rfl⟩
theorem dX12_pays_418 : q_at cX12_pays 418 (.iadd) 1 419 := ⟨by decide +kernel, rfl⟩
theorem dX12_pays_419 : q_at cX12_pays 419 (.putfield 169) 3 422 := ⟨by decide +kernel, rfl⟩
theorem dX12_pays_422 : q_at cX12_pays 422 (.aload_n 0) 1 423 := ⟨by decide +kernel, rfl⟩
theorem dX12_pays_423 : q_at cX12_pays 423 (.getfield 7) 3 426 := ⟨by decide +kernel, rfl⟩
theorem dX12_pays_426 : q_at cX12_pays 426 (.iload 5) 2 428 := ⟨by decide +kernel, rfl⟩
theorem dX12_pays_428 : q_at cX12_pays 428 (.bipush 7) 2 430 := ⟨by decide +kernel, rfl⟩
theorem dX12_pays_430 : q_at cX12_pays 430 (.iadd) 1 431 := ⟨by decide +kernel, rfl⟩
theorem dX12_pays_431 : q_at cX12_pays 431 (.dup2) 1 432 := ⟨by decide +kernel, rfl⟩
theorem dX12_pays_432 : q_at cX12_pays 432 (.iaload) 1 433 := ⟨by decide +kernel, rfl⟩
theorem dX12_pays_433 : q_at cX12_pays 433 (.iload_n 2) 1 434 := ⟨by decide +kernel, rfl⟩
theorem dX12_pays_434 : q_at cX12_pays 434 (.ifCond .eq 8) 3 437 := ⟨by decide +kernel, rfl⟩
theorem dX12_pays_437 : q_at cX12_pays 437 (.iload 6) 2 439 := ⟨by decide +kernel, rfl⟩
theorem dX12_pays_439 : q_at cX12_pays 439 (.goto 4) 3 442 := ⟨by decide +kernel, rfl⟩
theorem dX12_pays_442 : q_at cX12_pays 442 (.iconst 0) 1 443 := ⟨by decide +kernel, rfl⟩
theorem dX12_pays_443 : q_at cX12_pays 443 (.iadd) 1 444 := ⟨by decide +kernel, rfl⟩
theorem dX12_pays_444 : q_at cX12_pays 444 (.iastore) 1 445 := ⟨by decide +kernel, rfl⟩
theorem dX12_pays_445 : q_at cX12_pays 445 (.iinc 4 1) 3 448 := ⟨by decide +kernel, rfl⟩
theorem dX12_pays_448 : q_at cX12_pays 448 (.goto (-130)) 3 451 := ⟨by decide +kernel, rfl⟩
theorem dX12_pays_451 : q_at cX12_pays 451 (.aload_n 0) 1 452 := ⟨by decide +kernel, rfl⟩
theorem dX12_pays_452 : q_at cX12_pays 452 (.aload_n 0) 1 453 := ⟨by decide +kernel, rfl⟩
theorem dX12_pays_453 : q_at cX12_pays 453 (.getfield 156) 3 456 := ⟨by decide +kernel, rfl⟩
theorem dX12_pays_456 : q_at cX12_pays 456 (.aload_n 0) 1 457 := ⟨by decide +kernel, rfl⟩
theorem dX12_pays_457 : q_at cX12_pays 457 (.iload_n 1) 1 458 := ⟨by decide +kernel, rfl⟩
theorem dX12_pays_458 : q_at cX12_pays 458 (.invokevirtual 118) 3 461 := ⟨by decide +kernel, rfl⟩
theorem dX12_pays_461 : q_at cX12_pays 461 (.invokestatic 138) 3 464 := ⟨by decide +kernel, rfl⟩
theorem dX12_pays_464 : q_at cX12_pays 464 (.putfield 172) 3 467 := ⟨by decide +kernel, rfl⟩
theorem dX12_pays_467 : q_at cX12_pays 467 (.aload_n 0) 1 468 := ⟨by decide +kernel, rfl⟩
theorem dX12_pays_468 : q_at cX12_pays 468 (.dup) 1 469 := ⟨by decide +kernel, rfl⟩
theorem dX12_pays_469 : q_at cX12_pays 469 (.getfield 156) 3 472 := ⟨by decide +kernel, rfl⟩
theorem dX12_pays_472 : q_at cX12_pays 472 (.aload_n 0) 1 473 := ⟨by decide +kernel, rfl⟩
theorem dX12_pays_473 : q_at cX12_pays 473 (.getfield 172) 3 476 := ⟨by decide +kernel, rfl⟩
theorem dX12_pays_476 : q_at cX12_pays 476 (.isub) 1 477 := ⟨by decide +kernel, rfl⟩
theorem dX12_pays_477 : q_at cX12_pays 477 (.putfield 156) 3 480 := ⟨by decide +kernel, rfl⟩
theorem dX12_pays_480 : q_at cX12_pays 480 (.aload_n 0) 1 481 := ⟨by decide +kernel, rfl⟩
theorem dX12_pays_481 : q_at cX12_pays 481 (.aload_n 0) 1 482 := ⟨by decide +kernel, rfl⟩
theorem dX12_pays_482 : q_at cX12_pays 482 (.getfield 156) 3 485 := ⟨by decide +kernel, rfl⟩
theorem dX12_pays_485 : q_at cX12_pays 485 (.i2l) 1 486 := ⟨by decide +kernel, rfl⟩
theorem dX12_pays_486 : q_at cX12_pays 486 (.aload_n 0) 1 487 := ⟨by decide +kernel, rfl⟩
theorem dX12_pays_487 : q_at cX12_pays 487 (.aload_n 0) 1 488 := ⟨by decide +kernel, rfl⟩
theorem dX12_pays_488 : q_at cX12_pays 488 (.getfield 156) 3 491 := ⟨by decide +kernel, rfl⟩
theorem dX12_pays_491 : q_at cX12_pays 491 (.invokevirtual 175) 3 494 := ⟨by decide +kernel, rfl⟩
theorem dX12_pays_494 : q_at cX12_pays 494 (.i2l) 1 495 := ⟨by decide +kernel, rfl⟩
theorem dX12_pays_495 : q_at cX12_pays 495 (.lmul) 1 496 := ⟨by decide +kernel, rfl⟩
theorem dX12_pays_496 : q_at cX12_pays 496 (.ldc2_w 178) 3 499 := ⟨by decide +kernel, rfl⟩
theorem dX12_pays_499 : q_at cX12_pays 499 (.ldiv) 1 500 := ⟨by decide +kernel, rfl⟩
theorem dX12_pays_500 : q_at cX12_pays 500 (.l2i) 1 501 := ⟨by decide +kernel, rfl⟩
theorem dX12_pays_501 : q_at cX12_pays 501 (.putfield 180) 3 504 := ⟨by decide +kernel, rfl⟩
theorem dX12_pays_504 : q_at cX12_pays 504 (.iload_n 2) 1 505 := ⟨by decide +kernel, rfl⟩
theorem dX12_pays_505 : q_at cX12_pays 505 (.ifCond .eq 121) 3 508 := ⟨by decide +kernel, rfl⟩
theorem dX12_pays_508 : q_at cX12_pays 508 (.aload_n 0) 1 509 := ⟨by decide +kernel, rfl⟩
theorem dX12_pays_509 : q_at cX12_pays 509 (.iload_n 1) 1 510 := ⟨by decide +kernel, rfl⟩
theorem dX12_pays_510 : q_at cX12_pays 510 (.invokevirtual 68) 3 513 := ⟨by decide +kernel, rfl⟩
theorem dX12_pays_513 : q_at cX12_pays 513 (.istore 4) 2 515 := ⟨by decide +kernel, rfl⟩
theorem dX12_pays_515 : q_at cX12_pays 515 (.aload_n 0) 1 516 := ⟨by decide +kernel, rfl⟩
theorem dX12_pays_516 : q_at cX12_pays 516 (.getfield 7) 3 519 := ⟨by decide +kernel, rfl⟩
theorem dX12_pays_519 : q_at cX12_pays 519 (.aload_n 0) 1 520 := ⟨by decide +kernel, rfl⟩
theorem dX12_pays_520 : q_at cX12_pays 520 (.aload_n 0) 1 521 := ⟨by decide +kernel, rfl⟩
theorem dX12_pays_521 : q_at cX12_pays 521 (.getfield 7) 3 524 := ⟨by decide +kernel, rfl⟩
theorem dX12_pays_524 : q_at cX12_pays 524 (.iload 4) 2 526 := ⟨by decide +kernel, rfl⟩
theorem dX12_pays_526 : q_at cX12_pays 526 (.bipush 11) 2 528 := ⟨by decide +kernel, rfl⟩
theorem dX12_pays_528 : q_at cX12_pays 528 (.iadd) 1 529 := ⟨by decide +kernel, rfl⟩
theorem dX12_pays_529 : q_at cX12_pays 529 (.iaload) 1 530 := ⟨by decide +kernel, rfl⟩
theorem dX12_pays_530 : q_at cX12_pays 530 (.invokevirtual 75) 3 533 := ⟨by decide +kernel, rfl⟩
theorem dX12_pays_533 : q_at cX12_pays 533 (.iconst 2) 1 534 := ⟨by decide +kernel, rfl⟩
theorem dX12_pays_534 : q_at cX12_pays 534 (.iadd) 1 535 := ⟨by decide +kernel, rfl⟩
theorem dX12_pays_535 : q_at cX12_pays 535 (.dup2) 1 536 := ⟨by decide +kernel, rfl⟩
theorem dX12_pays_536 : q_at cX12_pays 536 (.iaload) 1 537 := ⟨by decide +kernel, rfl⟩
theorem dX12_pays_537 : q_at cX12_pays 537 (.aload_n 0) 1 538 := ⟨by decide +kernel, rfl⟩
theorem dX12_pays_538 : q_at cX12_pays 538 (.getfield 172) 3 541 := ⟨by decide +kernel, rfl⟩
theorem dX12_pays_541 : q_at cX12_pays 541 (.isub) 1 542 := ⟨by decide +kernel, rfl⟩
theorem dX12_pays_542 : q_at cX12_pays 542 (.iastore) 1 543 := ⟨by decide +kernel, rfl⟩
theorem dX12_pays_543 : q_at cX12_pays 543 (.aload_n 0) 1 544 := ⟨by decide +kernel, rfl⟩
theorem dX12_pays_544 : q_at cX12_pays 544 (.getfield 7) 3 547 := ⟨by decide +kernel, rfl⟩
theorem dX12_pays_547 : q_at cX12_pays 547 (.iload 4) 2 549 := ⟨by decide +kernel, rfl⟩
theorem dX12_pays_549 : q_at cX12_pays 549 (.iconst 4) 1 550 := ⟨by decide +kernel, rfl⟩
theorem dX12_pays_550 : q_at cX12_pays 550 (.iadd) 1 551 := ⟨by decide +kernel, rfl⟩
theorem dX12_pays_551 : q_at cX12_pays 551 (.ldc 183) 2 553 := ⟨by decide +kernel, rfl⟩
theorem dX12_pays_553 : q_at cX12_pays 553 (.aload_n 0) 1 554 := ⟨by decide +kernel, rfl⟩
theorem dX12_pays_554 : q_at cX12_pays 554 (.getfield 7) 3 557 := ⟨by decide +kernel, rfl⟩
theorem dX12_pays_557 : q_at cX12_pays 557 (.iload 4) 2 559 := ⟨by decide +kernel, rfl⟩
theorem dX12_pays_559 : q_at cX12_pays 559 (.iconst 4) 1 560 := ⟨by decide +kernel, rfl⟩
theorem dX12_pays_560 : q_at cX12_pays 560 (.iadd) 1 561 := ⟨by decide +kernel, rfl⟩
theorem dX12_pays_561 : q_at cX12_pays 561 (.iaload) 1 562 := ⟨by decide +kernel, rfl⟩
theorem dX12_pays_562 : q_at cX12_pays 562 (.aload_n 0) 1 563 := ⟨by decide +kernel, rfl⟩
theorem dX12_pays_563 : q_at cX12_pays 563 (.getfield 180) 3 566 := ⟨by decide +kernel, rfl⟩
theorem dX12_pays_566 : q_at cX12_pays 566 (.iadd) 1 567 := ⟨by decide +kernel, rfl⟩
theorem dX12_pays_567 : q_at cX12_pays 567 (.invokestatic 138) 3 570 := ⟨by decide +kernel, rfl⟩
theorem dX12_pays_570 : q_at cX12_pays 570 (.iastore) 1 571 := ⟨by decide +kernel, rfl⟩
theorem dX12_pays_571 : q_at cX12_pays 571 (.aload_n 0) 1 572 := ⟨by decide +kernel, rfl⟩
theorem dX12_pays_572 : q_at cX12_pays 572 (.getfield 7) 3 575 := ⟨by decide +kernel, rfl⟩
theorem dX12_pays_575 : q_at cX12_pays 575 (.iload 4) 2 577 := ⟨by decide +kernel, rfl⟩
theorem dX12_pays_577 : q_at cX12_pays 577 (.iconst 5) 1 578 := ⟨by decide +kernel, rfl⟩
theorem dX12_pays_578 : q_at cX12_pays 578 (.iadd) 1 579 := ⟨by decide +kernel, rfl⟩
theorem dX12_pays_579 : q_at cX12_pays 579 (.ldc 183) 2 581 := ⟨by decide +kernel, rfl⟩
theorem dX12_pays_581 : q_at cX12_pays 581 (.aload_n 0) 1 582 := ⟨by decide +kernel, rfl⟩
theorem dX12_pays_582 : q_at cX12_pays 582 (.getfield 7) 3 585 := ⟨by decide +kernel, rfl⟩
theorem dX12_pays_585 : q_at cX12_pays 585 (.iload 4) 2 587 := ⟨by decide +kernel, rfl⟩
theorem dX12_pays_587 : q_at cX12_pays 587 (.iconst 5) 1 588 := ⟨by decide +kernel, rfl⟩
theorem dX12_pays_588 : q_at cX12_pays 588 (.iadd) 1 589 := ⟨by decide +kernel, rfl⟩
theorem dX12_pays_589 : q_at cX12_pays 589 (.iaload) 1 590 := ⟨by decide +kernel, rfl⟩
theorem dX12_pays_590 : q_at cX12_pays 590 (.aload_n 0) 1 591 := ⟨by decide +kernel, rfl⟩
theorem dX12_pays_591 : q_at cX12_pays 591 (.getfield 156) 3 594 := ⟨by decide +kernel, rfl⟩
theorem dX12_pays_594 : q_at cX12_pays 594 (.iadd) 1 595 := ⟨by decide +kernel, rfl⟩
theorem dX12_pays_595 : q_at cX12_pays 595 (.aload_n 0) 1 596 := ⟨by decide +kernel, rfl⟩
theorem dX12_pays_596 : q_at cX12_pays 596 (.getfield 180) 3 599 := ⟨by decide +kernel, rfl⟩
theorem dX12_pays_599 : q_at cX12_pays 599 (.isub) 1 600 := ⟨by decide +kernel, rfl⟩
theorem dX12_pays_600 : q_at cX12_pays 600 (.invokestatic 138) 3 603 := ⟨by decide +kernel, rfl⟩
theorem dX12_pays_603 : q_at cX12_pays 603 (.iastore) 1 604 := ⟨by decide +kernel, rfl⟩
theorem dX12_pays_604 : q_at cX12_pays 604 (.aload_n 0) 1 605 := ⟨by decide +kernel, rfl⟩
theorem dX12_pays_605 : q_at cX12_pays 605 (.getfield 7) 3 608 := ⟨by decide +kernel, rfl⟩
theorem dX12_pays_608 : q_at cX12_pays 608 (.aload_n 0) 1 609 := ⟨by decide +kernel, rfl⟩
theorem dX12_pays_609 : q_at cX12_pays 609 (.aload_n 0) 1 610 := ⟨by decide +kernel, rfl⟩
theorem dX12_pays_610 : q_at cX12_pays 610 (.getfield 7) 3 613 := ⟨by decide +kernel, rfl⟩
theorem dX12_pays_613 : q_at cX12_pays 613 (.iload 4) 2 615 := ⟨by decide +kernel, rfl⟩
theorem dX12_pays_615 : q_at cX12_pays 615 (.bipush 10) 2 617 := ⟨by decide +kernel, rfl⟩
theorem dX12_pays_617 : q_at cX12_pays 617 (.iadd) 1 618 := ⟨by decide +kernel, rfl⟩
theorem dX12_pays_618 : q_at cX12_pays 618 (.iaload) 1 619 := ⟨by decide +kernel, rfl⟩
theorem dX12_pays_619 : q_at cX12_pays 619 (.invokevirtual 75) 3 622 := ⟨by decide +kernel, rfl⟩
theorem dX12_pays_622 : q_at cX12_pays 622 (.iconst 2) 1 623 := ⟨by decide +kernel, rfl⟩
theorem dX12_pays_623 : q_at cX12_pays 623 (.iadd) 1 624 := ⟨by decide +kernel, rfl⟩
theorem dX12_pays_624 : q_at cX12_pays 624 (.iconst 0) 1 625 := ⟨by decide +kernel, rfl⟩
theorem dX12_pays_625 : q_at cX12_pays 625 (.iastore) 1 626 := ⟨by decide +kernel, rfl⟩
theorem dX12_pays_626 : q_at cX12_pays 626 (.return_) 1 627 := ⟨by decide +kernel, rfl⟩
theorem dX12_wrong_0 : q_at cX12_wrong 0 (.aload_n 0) 1 1 := ⟨by decide +kernel, rfl⟩
theorem dX12_wrong_1 : q_at cX12_wrong 1 (.iload_n 1) 1 2 := ⟨by decide +kernel, rfl⟩
theorem dX12_wrong_2 : q_at cX12_wrong 2 (.invokevirtual 110) 3 5 := ⟨by decide +kernel, rfl⟩
theorem dX12_wrong_5 : q_at cX12_wrong 5 (.ifCond .ne 6) 3 8 := ⟨by decide +kernel, rfl⟩
theorem dX12_wrong_8 : q_at cX12_wrong 8 (.ldc 90) 2 10 := ⟨by decide +kernel, rfl⟩
theorem dX12_wrong_10 : q_at cX12_wrong 10 (.ireturn) 1 11 := ⟨by decide +kernel, rfl⟩
theorem dX12_wrong_11 : q_at cX12_wrong 11 (.iconst 0) 1 12 := ⟨by decide +kernel, rfl⟩
theorem dX12_wrong_12 : q_at cX12_wrong 12 (.istore_n 2) 1 13 := ⟨by decide +kernel, rfl⟩
theorem dX12_wrong_13 : q_at cX12_wrong 13 (.iconst 0) 1 14 := ⟨by decide +kernel, rfl⟩
theorem dX12_wrong_14 : q_at cX12_wrong 14 (.istore_n 3) 1 15 := ⟨by decide +kernel, rfl⟩
theorem dX12_wrong_15 : q_at cX12_wrong 15 (.iload_n 3) 1 16 := ⟨by decide +kernel, rfl⟩
theorem dX12_wrong_16 : q_at cX12_wrong 16 (.aload_n 0) 1 17 := ⟨by decide +kernel, rfl⟩
theorem dX12_wrong_17 : q_at cX12_wrong 17 (.getfield 7) 3 20 := ⟨by decide +kernel, rfl⟩
theorem dX12_wrong_20 : q_at cX12_wrong 20 (.iconst 3) 1 21 := ⟨by decide +kernel, rfl⟩
theorem dX12_wrong_21 : q_at cX12_wrong 21 (.iaload) 1 22 := ⟨by decide +kernel, rfl⟩
theorem dX12_wrong_22 : q_at cX12_wrong 22 (.if_icmp .ge 37) 3 25 := ⟨by decide +kernel, rfl⟩
theorem dX12_wrong_25 : q_at cX12_wrong 25 (.iload_n 2) 1 26 := ⟨by decide +kernel, rfl⟩
theorem dX12_wrong_26 : q_at cX12_wrong 26 (.aload_n 0) 1 27 := ⟨by decide +kernel, rfl⟩
theorem dX12_wrong_27 : q_at cX12_wrong 27 (.iload_n 3) 1 28 := ⟨by decide +kernel, rfl⟩
theorem dX12_wrong_28 : q_at cX12_wrong 28 (.iload_n 1) 1 29 := ⟨by decide +kernel, rfl⟩
theorem dX12_wrong_29 : q_at cX12_wrong 29 (.invokevirtual 357) 3 32 := ⟨by decide +kernel, rfl⟩
theorem dX12_wrong_32 : q_at cX12_wrong 32 (.ifCond .eq 18) 3 35 := ⟨by decide +kernel, rfl⟩
theorem dX12_wrong_35 : q_at cX12_wrong 35 (.aload_n 0) 1 36 := ⟨by decide +kernel, rfl⟩
theorem dX12_wrong_36 : q_at cX12_wrong 36 (.getfield 7) 3 39 := ⟨by decide +kernel, rfl⟩
theorem dX12_wrong_39 : q_at cX12_wrong 39 (.aload_n 0) 1 40 := ⟨by decide +kernel, rfl⟩
theorem dX12_wrong_40 : q_at cX12_wrong 40 (.iload_n 3) 1 41 := ⟨by decide +kernel, rfl⟩
theorem dX12_wrong_41 : q_at cX12_wrong 41 (.invokevirtual 75) 3 44 := ⟨by decide +kernel, rfl⟩
theorem dX12_wrong_44 : q_at cX12_wrong 44 (.iconst 2) 1 45 := ⟨by decide +kernel, rfl⟩
theorem dX12_wrong_45 : q_at cX12_wrong 45 (.iadd) 1 46 := ⟨by decide +kernel, rfl⟩
theorem dX12_wrong_46 : q_at cX12_wrong 46 (.iaload) 1 47 := ⟨by decide +kernel, rfl⟩
theorem dX12_wrong_47 : q_at cX12_wrong 47 (.goto 4) 3 50 := ⟨by decide +kernel, rfl⟩
theorem dX12_wrong_50 : q_at cX12_wrong 50 (.iconst 0) 1 51 := ⟨by decide +kernel, rfl⟩
theorem dX12_wrong_51 : q_at cX12_wrong 51 (.iadd) 1 52 := ⟨by decide +kernel, rfl⟩
theorem dX12_wrong_52 : q_at cX12_wrong 52 (.istore_n 2) 1 53 := ⟨by decide +kernel, rfl⟩
theorem dX12_wrong_53 : q_at cX12_wrong 53 (.iinc 3 1) 3 56 := ⟨by decide +kernel, rfl⟩
theorem dX12_wrong_56 : q_at cX12_wrong 56 (.goto (-41)) 3 59 := ⟨by decide +kernel, rfl⟩
theorem dX12_wrong_59 : q_at cX12_wrong 59 (.iload_n 2) 1 60 := ⟨by decide +kernel, rfl⟩
theorem dX12_wrong_60 : q_at cX12_wrong 60 (.ireturn) 1 61 := ⟨by decide +kernel, rfl⟩
theorem dX12_endWeek_0 : q_at cX12_endWeek 0 (.aload_n 0) 1 1 := ⟨by decide +kernel, rfl⟩
theorem dX12_endWeek_1 : q_at cX12_endWeek 1 (.invokevirtual 184) 3 4 := ⟨by decide +kernel, rfl⟩
theorem dX12_endWeek_4 : q_at cX12_endWeek 4 (.iconst 1) 1 5 := ⟨by decide +kernel, rfl⟩
theorem dX12_endWeek_5 : q_at cX12_endWeek 5 (.iadd) 1 6 := ⟨by decide +kernel, rfl⟩
theorem dX12_endWeek_6 : q_at cX12_endWeek 6 (.aload_n 0) 1 7 := ⟨by decide +kernel, rfl⟩
theorem dX12_endWeek_7 : q_at cX12_endWeek 7 (.invokevirtual 188) 3 10 := ⟨by decide +kernel, rfl⟩
theorem dX12_endWeek_10 : q_at cX12_endWeek 10 (.irem) 1 11 := ⟨by decide +kernel, rfl⟩
theorem dX12_endWeek_11 : q_at cX12_endWeek 11 (.ifCond .ne 7) 3 14 := ⟨by decide +kernel, rfl⟩
theorem dX12_endWeek_14 : q_at cX12_endWeek 14 (.iconst 1) 1 15 := ⟨by decide +kernel, rfl⟩
theorem dX12_endWeek_15 : q_at cX12_endWeek 15 (.goto 4) 3 18 := ⟨by decide +kernel, rfl⟩
theorem dX12_endWeek_18 : q_at cX12_endWeek 18 (.iconst 0) 1 19 := ⟨by decide +kernel, rfl⟩
theorem dX12_endWeek_19 : q_at cX12_endWeek 19 (.istore_n 1) 1 20 := ⟨by decide +kernel, rfl⟩
theorem dX12_endWeek_20 : q_at cX12_endWeek 20 (.iconst 0) 1 21 := ⟨by decide +kernel, rfl⟩
theorem dX12_endWeek_21 : q_at cX12_endWeek 21 (.istore_n 2) 1 22 := ⟨by decide +kernel, rfl⟩
theorem dX12_endWeek_22 : q_at cX12_endWeek 22 (.iload_n 2) 1 23 := ⟨by decide +kernel, rfl⟩
theorem dX12_endWeek_23 : q_at cX12_endWeek 23 (.aload_n 0) 1 24 := ⟨by decide +kernel, rfl⟩
theorem dX12_endWeek_24 : q_at cX12_endWeek 24 (.getfield 7) 3 27 := ⟨by decide +kernel, rfl⟩
theorem dX12_endWeek_27 : q_at cX12_endWeek 27 (.iconst 2) 1 28 := ⟨by decide +kernel, rfl⟩
theorem dX12_endWeek_28 : q_at cX12_endWeek 28 (.iaload) 1 29 := ⟨by decide +kernel, rfl⟩
theorem dX12_endWeek_29 : q_at cX12_endWeek 29 (.if_icmp .ge 27) 3 32 := ⟨by decide +kernel, rfl⟩
theorem dX12_endWeek_32 : q_at cX12_endWeek 32 (.iload_n 1) 1 33 := ⟨by decide +kernel, rfl⟩
theorem dX12_endWeek_33 : q_at cX12_endWeek 33 (.ifCond .eq 23) 3 36 := ⟨by decide +kernel, rfl⟩
theorem dX12_endWeek_36 : q_at cX12_endWeek 36 (.aload_n 0) 1 37 := ⟨by decide +kernel, rfl⟩
theorem dX12_endWeek_37 : q_at cX12_endWeek 37 (.iload_n 2) 1 38 := ⟨by decide +kernel, rfl⟩
theorem dX12_endWeek_38 : q_at cX12_endWeek 38 (.invokevirtual 93) 3 41 := ⟨by decide +kernel, rfl⟩
theorem dX12_endWeek_41 : q_at cX12_endWeek 41 (.ifCond .ne 9) 3 44 := ⟨by decide +kernel, rfl⟩
theorem dX12_endWeek_44 : q_at cX12_endWeek 44 (.aload_n 0) 1 45 := ⟨by decide +kernel, rfl⟩
theorem dX12_endWeek_45 : q_at cX12_endWeek 45 (.iload_n 2) 1 46 := ⟨by decide +kernel, rfl⟩
theorem dX12_endWeek_46 : q_at cX12_endWeek 46 (.iconst 1) 1 47 := ⟨by decide +kernel, rfl⟩
theorem dX12_endWeek_47 : q_at cX12_endWeek 47 (.invokevirtual 191) 3 50 := ⟨by decide +kernel, rfl⟩
theorem dX12_endWeek_50 : q_at cX12_endWeek 50 (.iinc 2 1) 3 53 := ⟨by decide +kernel, rfl⟩
theorem dX12_endWeek_53 : q_at cX12_endWeek 53 (.goto (-31)) 3 56 := ⟨by decide +kernel, rfl⟩
theorem dX12_endWeek_56 : q_at cX12_endWeek 56 (.iconst 0) 1 57 := ⟨by decide +kernel, rfl⟩
theorem dX12_endWeek_57 : q_at cX12_endWeek 57 (.istore_n 2) 1 58 := ⟨by decide +kernel, rfl⟩
theorem dX12_endWeek_58 : q_at cX12_endWeek 58 (.iload_n 2) 1 59 := ⟨by decide +kernel, rfl⟩
theorem dX12_endWeek_59 : q_at cX12_endWeek 59 (.aload_n 0) 1 60 := ⟨by decide +kernel, rfl⟩
theorem dX12_endWeek_60 : q_at cX12_endWeek 60 (.getfield 7) 3 63 := ⟨by decide +kernel, rfl⟩
theorem dX12_endWeek_63 : q_at cX12_endWeek 63 (.iconst 2) 1 64 := ⟨by decide +kernel, rfl⟩
theorem dX12_endWeek_64 : q_at cX12_endWeek 64 (.iaload) 1 65 := ⟨by decide +kernel, rfl⟩
theorem dX12_endWeek_65 : q_at cX12_endWeek 65 (.if_icmp .ge 56) 3 68 := ⟨by decide +kernel, rfl⟩
theorem dX12_endWeek_68 : q_at cX12_endWeek 68 (.aload_n 0) 1 69 := ⟨by decide +kernel, rfl⟩
theorem dX12_endWeek_69 : q_at cX12_endWeek 69 (.iload_n 2) 1 70 := ⟨by decide +kernel, rfl⟩
theorem dX12_endWeek_70 : q_at cX12_endWeek 70 (.invokevirtual 93) 3 73 := ⟨by decide +kernel, rfl⟩
theorem dX12_endWeek_73 : q_at cX12_endWeek 73 (.ifCond .ne 42) 3 76 := ⟨by decide +kernel, rfl⟩
theorem dX12_endWeek_76 : q_at cX12_endWeek 76 (.aload_n 0) 1 77 := ⟨by decide +kernel, rfl⟩
theorem dX12_endWeek_77 : q_at cX12_endWeek 77 (.aload_n 0) 1 78 := ⟨by decide +kernel, rfl⟩
theorem dX12_endWeek_78 : q_at cX12_endWeek 78 (.getfield 7) 3 81 := ⟨by decide +kernel, rfl⟩
theorem dX12_endWeek_81 : q_at cX12_endWeek 81 (.aload_n 0) 1 82 := ⟨by decide +kernel, rfl⟩
theorem dX12_endWeek_82 : q_at cX12_endWeek 82 (.iload_n 2) 1 83 := ⟨by decide +kernel, rfl⟩
theorem dX12_endWeek_83 : q_at cX12_endWeek 83 (.invokevirtual 68) 3 86 := ⟨by decide +kernel, rfl⟩
theorem dX12_endWeek_86 : q_at cX12_endWeek 86 (.bipush 7) 2 88 := ⟨by decide +kernel, rfl⟩
theorem dX12_endWeek_88 : q_at cX12_endWeek 88 (.iadd) 1 89 := ⟨by decide +kernel, rfl⟩
theorem dX12_endWeek_89 : q_at cX12_endWeek 89 (.iaload) 1 90 := ⟨by decide +kernel, rfl⟩
theorem dX12_endWeek_90 : q_at cX12_endWeek 90 (.aload_n 0) 1 91 := ⟨by decide +kernel, rfl⟩
theorem dX12_endWeek_91 : q_at cX12_endWeek 91 (.iload_n 2) 1 92 := ⟨by decide +kernel, rfl⟩
theorem dX12_endWeek_92 : q_at cX12_endWeek 92 (.invokevirtual 118) 3 95 := ⟨by decide +kernel, rfl⟩
theorem dX12_endWeek_95 : q_at cX12_endWeek 95 (.invokevirtual 195) 3 98 := ⟨by decide +kernel, rfl⟩
theorem dX12_endWeek_98 : q_at cX12_endWeek 98 (.ifCond .ne 17) 3 101 := ⟨by decide +kernel, rfl⟩
theorem dX12_endWeek_101 : q_at cX12_endWeek 101 (.aload_n 0) 1 102 := ⟨by decide +kernel, rfl⟩
theorem dX12_endWeek_102 : q_at cX12_endWeek 102 (.getfield 7) 3 105 := ⟨by decide +kernel, rfl⟩
theorem dX12_endWeek_105 : q_at cX12_endWeek 105 (.aload_n 0) 1 106 := ⟨by decide +kernel, rfl⟩
theorem dX12_endWeek_106 : q_at cX12_endWeek 106 (.iload_n 2) 1 107 := ⟨by decide +kernel, rfl⟩
theorem dX12_endWeek_107 : q_at cX12_endWeek 107 (.invokevirtual 68) 3 110 := ⟨by decide +kernel, rfl⟩
theorem dX12_endWeek_110 : q_at cX12_endWeek 110 (.bipush 9) 2 112 := ⟨by decide +kernel, rfl⟩
theorem dX12_endWeek_112 : q_at cX12_endWeek 112 (.iadd) 1 113 := ⟨by decide +kernel, rfl⟩
theorem dX12_endWeek_113 : q_at cX12_endWeek 113 (.iconst 1) 1 114 := ⟨by decide +kernel, rfl⟩
theorem dX12_endWeek_114 : q_at cX12_endWeek 114 (.iastore) 1 115 := ⟨by decide +kernel, rfl⟩
theorem dX12_endWeek_115 : q_at cX12_endWeek 115 (.iinc 2 1) 3 118 := ⟨by decide +kernel, rfl⟩
theorem dX12_endWeek_118 : q_at cX12_endWeek 118 (.goto (-60)) 3 121 := ⟨by decide +kernel, rfl⟩
theorem dX12_endWeek_121 : q_at cX12_endWeek 121 (.iconst 0) 1 122 := ⟨by decide +kernel, rfl⟩
theorem dX12_endWeek_122 : q_at cX12_endWeek 122 (.istore_n 2) 1 123 := ⟨by decide +kernel, rfl⟩
theorem dX12_endWeek_123 : q_at cX12_endWeek 123 (.iload_n 2) 1 124 := ⟨by decide +kernel, rfl⟩
theorem dX12_endWeek_124 : q_at cX12_endWeek 124 (.aload_n 0) 1 125 := ⟨by decide +kernel, rfl⟩
theorem dX12_endWeek_125 : q_at cX12_endWeek 125 (.getfield 7) 3 128 := ⟨by decide +kernel, rfl⟩
theorem dX12_endWeek_128 : q_at cX12_endWeek 128 (.iconst 2) 1 129 := ⟨by decide +kernel, rfl⟩
theorem dX12_endWeek_129 : q_at cX12_endWeek 129 (.iaload) 1 130 := ⟨by decide +kernel, rfl⟩
theorem dX12_endWeek_130 : q_at cX12_endWeek 130 (.if_icmp .ge 23) 3 133 := ⟨by decide +kernel, rfl⟩
theorem dX12_endWeek_133 : q_at cX12_endWeek 133 (.aload_n 0) 1 134 := ⟨by decide +kernel, rfl⟩
theorem dX12_endWeek_134 : q_at cX12_endWeek 134 (.getfield 7) 3 137 := ⟨by decide +kernel, rfl⟩
theorem dX12_endWeek_137 : q_at cX12_endWeek 137 (.aload_n 0) 1 138 := ⟨by decide +kernel, rfl⟩
theorem dX12_endWeek_138 : q_at cX12_endWeek 138 (.iload_n 2) 1 139 := ⟨by decide +kernel, rfl⟩
theorem dX12_endWeek_139 : q_at cX12_endWeek 139 (.invokevirtual 68) 3 142 := ⟨by decide +kernel, rfl⟩
theorem dX12_endWeek_142 : q_at cX12_endWeek 142 (.bipush 7) 2 144 := ⟨by decide +kernel, rfl⟩
theorem dX12_endWeek_144 : q_at cX12_endWeek 144 (.iadd) 1 145 := ⟨by decide +kernel, rfl⟩
theorem dX12_endWeek_145 : q_at cX12_endWeek 145 (.iconst 0) 1 146 := ⟨by decide +kernel, rfl⟩
theorem dX12_endWeek_146 : q_at cX12_endWeek 146 (.iastore) 1 147 := ⟨by decide +kernel, rfl⟩
theorem dX12_endWeek_147 : q_at cX12_endWeek 147 (.iinc 2 1) 3 150 := ⟨by decide +kernel, rfl⟩
theorem dX12_endWeek_150 : q_at cX12_endWeek 150 (.goto (-27)) 3 153 := ⟨by decide +kernel, rfl⟩
theorem dX12_endWeek_153 : q_at cX12_endWeek 153 (.return_) 1 154 := ⟨by decide +kernel, rfl⟩
theorem dX12_give_0 : q_at cX12_give 0 (.aload_n 0) 1 1 := ⟨by decide +kernel, rfl⟩
theorem dX12_give_1 : q_at cX12_give 1 (.iload_n 1) 1 2 := ⟨by decide +kernel, rfl⟩
theorem dX12_give_2 : q_at cX12_give 2 (.invokevirtual 360) 3 5 := ⟨by decide +kernel, rfl⟩
theorem dX12_give_5 : q_at cX12_give 5 (.istore_n 2) 1 6 := ⟨by decide +kernel, rfl⟩
theorem dX12_give_6 : q_at cX12_give 6 (.iload_n 2) 1 7 := ⟨by decide +kernel, rfl⟩
theorem dX12_give_7 : q_at cX12_give 7 (.ifCond .gt 16) 3 10 := ⟨by decide +kernel, rfl⟩
theorem dX12_give_10 : q_at cX12_give 10 (.iload_n 2) 1 11 := ⟨by decide +kernel, rfl⟩
theorem dX12_give_11 : q_at cX12_give 11 (.ifCond .ne 9) 3 14 := ⟨by decide +kernel, rfl⟩
theorem dX12_give_14 : q_at cX12_give 14 (.ldc_w 346) 3 17 := ⟨by decide +kernel, rfl⟩
theorem dX12_give_17 : q_at cX12_give 17 (.goto 5) 3 20 := ⟨by decide +kernel, rfl⟩
theorem dX12_give_20 : q_at cX12_give 20 (.ldc 90) 2 22 := ⟨by decide +kernel, rfl⟩
theorem dX12_give_22 : q_at cX12_give 22 (.ireturn) 1 23 := ⟨by decide +kernel, rfl⟩
theorem dX12_give_23 : q_at cX12_give 23 (.iconst 0) 1 24 := ⟨by decide +kernel, rfl⟩
theorem dX12_give_24 : q_at cX12_give 24 (.istore_n 3) 1 25 := ⟨by decide +kernel, rfl⟩
theorem dX12_give_25 : q_at cX12_give 25 (.iload_n 3) 1 26 := ⟨by decide +kernel, rfl⟩
theorem dX12_give_26 : q_at cX12_give 26 (.aload_n 0) 1 27 := ⟨by decide +kernel, rfl⟩
theorem dX12_give_27 : q_at cX12_give 27 (.getfield 7) 3 30 := ⟨by decide +kernel, rfl⟩
theorem dX12_give_30 : q_at cX12_give 30 (.iconst 3) 1 31 := ⟨by decide +kernel, rfl⟩
theorem dX12_give_31 : q_at cX12_give 31 (.iaload) 1 32 := ⟨by decide +kernel, rfl⟩
theorem dX12_give_32 : q_at cX12_give 32 (.if_icmp .ge 46) 3 35 := ⟨by decide +kernel, rfl⟩
theorem dX12_give_35 : q_at cX12_give 35 (.aload_n 0) 1 36 := ⟨by decide +kernel, rfl⟩
theorem dX12_give_36 : q_at cX12_give 36 (.getfield 7) 3 39 := ⟨by decide +kernel, rfl⟩
theorem dX12_give_39 : q_at cX12_give 39 (.aload_n 0) 1 40 := ⟨by decide +kernel, rfl⟩
theorem dX12_give_40 : q_at cX12_give 40 (.iload_n 3) 1 41 := ⟨by decide +kernel, rfl⟩
theorem dX12_give_41 : q_at cX12_give 41 (.invokevirtual 75) 3 44 := ⟨by decide +kernel, rfl⟩
theorem dX12_give_44 : q_at cX12_give 44 (.iconst 5) 1 45 := ⟨by decide +kernel, rfl⟩
theorem dX12_give_45 : q_at cX12_give 45 (.iadd) 1 46 := ⟨by decide +kernel, rfl⟩
theorem dX12_give_46 : q_at cX12_give 46 (.aload_n 0) 1 47 := ⟨by decide +kernel, rfl⟩
theorem dX12_give_47 : q_at cX12_give 47 (.iload_n 3) 1 48 := ⟨by decide +kernel, rfl⟩
theorem dX12_give_48 : q_at cX12_give 48 (.iload_n 1) 1 49 := ⟨by decide +kernel, rfl⟩
theorem dX12_give_49 : q_at cX12_give 49 (.invokevirtual 357) 3 52 := ⟨by decide +kernel, rfl⟩
theorem dX12_give_52 : q_at cX12_give 52 (.ifCond .eq 7) 3 55 := ⟨by decide +kernel, rfl⟩
theorem dX12_give_55 : q_at cX12_give 55 (.iconst 2) 1 56 := ⟨by decide +kernel, rfl⟩
theorem dX12_give_56 : q_at cX12_give 56 (.goto 15) 3 59 := ⟨by decide +kernel, rfl⟩
theorem dX12_give_59 : q_at cX12_give 59 (.aload_n 0) 1 60 := ⟨by decide +kernel, rfl⟩
theorem dX12_give_60 : q_at cX12_give 60 (.getfield 7) 3 63 := ⟨by decide +kernel, rfl⟩
theorem dX12_give_63 : q_at cX12_give 63 (.aload_n 0) 1 64 := ⟨by decide +kernel, rfl⟩
theorem dX12_give_64 : q_at cX12_give 64 (.iload_n 3) 1 65 := ⟨by decide +kernel, rfl⟩
theorem dX12_give_65 : q_at cX12_give 65 (.invokevirtual 75) 3 68 := ⟨by decide +kernel, rfl⟩
theorem dX12_give_68 : q_at cX12_give 68 (.iconst 5) 1 69 := ⟨by decide +kernel, rfl⟩
theorem dX12_give_69 : q_at cX12_give 69 (.iadd) 1 70 := ⟨by decide +kernel, rfl⟩
theorem dX12_give_70 : q_at cX12_give 70 (.iaload) 1 71 := ⟨by decide +kernel, rfl⟩
theorem dX12_give_71 : q_at cX12_give 71 (.iastore) 1 72 := ⟨by decide +kernel, rfl⟩
theorem dX12_give_72 : q_at cX12_give 72 (.iinc 3 1) 3 75 := ⟨by decide +kernel, rfl⟩
theorem dX12_give_75 : q_at cX12_give 75 (.goto (-50)) 3 78 := ⟨by decide +kernel, rfl⟩
theorem dX12_give_78 : q_at cX12_give 78 (.aload_n 0) 1 79 := ⟨by decide +kernel, rfl⟩
theorem dX12_give_79 : q_at cX12_give 79 (.iload_n 1) 1 80 := ⟨by decide +kernel, rfl⟩
theorem dX12_give_80 : q_at cX12_give 80 (.iconst 4) 1 81 := ⟨by decide +kernel, rfl⟩
theorem dX12_give_81 : q_at cX12_give 81 (.iload_n 2) 1 82 := ⟨by decide +kernel, rfl⟩
theorem dX12_give_82 : q_at cX12_give 82 (.invokevirtual 350) 3 85 := ⟨by decide +kernel, rfl⟩
theorem dX12_give_85 : q_at cX12_give 85 (.iload_n 2) 1 86 := ⟨by decide +kernel, rfl⟩
theorem dX12_give_86 : q_at cX12_give 86 (.ireturn) 1 87 := ⟨by decide +kernel, rfl⟩
theorem dX12_round_0 : q_at cX12_round 0 (.iconst 0) 1 1 := ⟨by decide +kernel, rfl⟩
theorem dX12_round_1 : q_at cX12_round 1 (.istore_n 1) 1 2 := ⟨by decide +kernel, rfl⟩
theorem dX12_round_2 : q_at cX12_round 2 (.iconst 0) 1 3 := ⟨by decide +kernel, rfl⟩
theorem dX12_round_3 : q_at cX12_round 3 (.istore_n 2) 1 4 := ⟨by decide +kernel, rfl⟩
theorem dX12_round_4 : q_at cX12_round 4 (.iload_n 2) 1 5 := ⟨by decide +kernel, rfl⟩
theorem dX12_round_5 : q_at cX12_round 5 (.bipush 48) 2 7 := ⟨by decide +kernel, rfl⟩
theorem dX12_round_7 : q_at cX12_round 7 (.if_icmp .ge 25) 3 10 := ⟨by decide +kernel, rfl⟩
theorem dX12_round_10 : q_at cX12_round 10 (.iload_n 1) 1 11 := ⟨by decide +kernel, rfl⟩
theorem dX12_round_11 : q_at cX12_round 11 (.aload_n 0) 1 12 := ⟨by decide +kernel, rfl⟩
theorem dX12_round_12 : q_at cX12_round 12 (.iload_n 2) 1 13 := ⟨by decide +kernel, rfl⟩
theorem dX12_round_13 : q_at cX12_round 13 (.invokevirtual 389) 3 16 := ⟨by decide +kernel, rfl⟩
theorem dX12_round_16 : q_at cX12_round 16 (.ifCond .eq 7) 3 19 := ⟨by decide +kernel, rfl⟩
theorem dX12_round_19 : q_at cX12_round 19 (.iconst 1) 1 20 := ⟨by decide +kernel, rfl⟩
theorem dX12_round_20 : q_at cX12_round 20 (.goto 4) 3 23 := ⟨by decide +kernel, rfl⟩
theorem dX12_round_23 : q_at cX12_round 23 (.iconst 0) 1 24 := ⟨by decide +kernel, rfl⟩
theorem dX12_round_24 : q_at cX12_round 24 (.iadd) 1 25 := ⟨by decide +kernel, rfl⟩
theorem dX12_round_25 : q_at cX12_round 25 (.istore_n 1) 1 26 := ⟨by decide +kernel, rfl⟩
theorem dX12_round_26 : q_at cX12_round 26 (.iinc 2 1) 3 29 := ⟨by decide +kernel, rfl⟩
theorem dX12_round_29 : q_at cX12_round 29 (.goto (-25)) 3 32 := ⟨by decide +kernel, rfl⟩
theorem dX12_round_32 : q_at cX12_round 32 (.iload_n 1) 1 33 := ⟨by decide +kernel, rfl⟩
theorem dX12_round_33 : q_at cX12_round 33 (.ireturn) 1 34 := ⟨by decide +kernel, rfl⟩
theorem dX12_way_0 : q_at cX12_way 0 (.iload_n 1) 1 1 := ⟨by decide +kernel, rfl⟩
theorem dX12_way_1 : q_at cX12_way 1 (.ifCond .ge 6) 3 4 := ⟨by decide +kernel, rfl⟩
theorem dX12_way_4 : q_at cX12_way 4 (.ldc 90) 2 6 := ⟨by decide +kernel, rfl⟩
theorem dX12_way_6 : q_at cX12_way 6 (.ireturn) 1 7 := ⟨by decide +kernel, rfl⟩
theorem dX12_way_7 : q_at cX12_way 7 (.iconst 0) 1 8 := ⟨by decide +kernel, rfl⟩
theorem dX12_way_8 : q_at cX12_way 8 (.istore_n 2) 1 9 := ⟨by decide +kernel, rfl⟩
theorem dX12_way_9 : q_at cX12_way 9 (.iconst 0) 1 10 := ⟨by decide +kernel, rfl⟩
theorem dX12_way_10 : q_at cX12_way 10 (.istore_n 3) 1 11 := ⟨by decide +kernel, rfl⟩
theorem dX12_way_11 : q_at cX12_way 11 (.iload_n 3) 1 12 := ⟨by decide +kernel, rfl⟩
theorem dX12_way_12 : q_at cX12_way 12 (.bipush 48) 2 14 := ⟨by decide +kernel, rfl⟩
theorem dX12_way_14 : q_at cX12_way 14 (.if_icmp .ge 46) 3 17 := ⟨by decide +kernel, rfl⟩
theorem dX12_way_17 : q_at cX12_way 17 (.aload_n 0) 1 18 := ⟨by decide +kernel, rfl⟩
theorem dX12_way_18 : q_at cX12_way 18 (.iload_n 3) 1 19 := ⟨by decide +kernel, rfl⟩
theorem dX12_way_19 : q_at cX12_way 19 (.invokevirtual 389) 3 22 := ⟨by decide +kernel, rfl⟩
theorem dX12_way_22 : q_at cX12_way 22 (.ifCond .eq 32) 3 25 := ⟨by decide +kernel, rfl⟩
theorem dX12_way_25 : q_at cX12_way 25 (.iload_n 2) 1 26 := ⟨by decide +kernel, rfl⟩
theorem dX12_way_26 : q_at cX12_way 26 (.iload_n 1) 1 27 := ⟨by decide +kernel, rfl⟩
theorem dX12_way_27 : q_at cX12_way 27 (.if_icmp .ne 24) 3 30 := ⟨by decide +kernel, rfl⟩
theorem dX12_way_30 : q_at cX12_way 30 (.bipush 100) 2 32 := ⟨by decide +kernel, rfl⟩
theorem dX12_way_32 : q_at cX12_way 32 (.iload_n 3) 1 33 := ⟨by decide +kernel, rfl⟩
theorem dX12_way_33 : q_at cX12_way 33 (.bipush 12) 2 35 := ⟨by decide +kernel, rfl⟩
theorem dX12_way_35 : q_at cX12_way 35 (.idiv) 1 36 := ⟨by decide +kernel, rfl⟩
theorem dX12_way_36 : q_at cX12_way 36 (.imul) 1 37 := ⟨by decide +kernel, rfl⟩
theorem dX12_way_37 : q_at cX12_way 37 (.bipush 10) 2 39 := ⟨by decide +kernel, rfl⟩
theorem dX12_way_39 : q_at cX12_way 39 (.iload_n 3) 1 40 := ⟨by decide +kernel, rfl⟩
theorem dX12_way_40 : q_at cX12_way 40 (.iconst 3) 1 41 := ⟨by decide +kernel, rfl⟩
theorem dX12_way_41 : q_at cX12_way 41 (.idiv) 1 42 := ⟨by decide +kernel, rfl⟩
theorem dX12_way_42 : q_at cX12_way 42 (.iconst 4) 1 43 := ⟨by decide +kernel, rfl⟩
theorem dX12_way_43 : q_at cX12_way 43 (.irem) 1 44 := ⟨by decide +kernel, rfl⟩
theorem dX12_way_44 : q_at cX12_way 44 (.imul) 1 45 := ⟨by decide +kernel, rfl⟩
theorem dX12_way_45 : q_at cX12_way 45 (.iadd) 1 46 := ⟨by decide +kernel, rfl⟩
theorem dX12_way_46 : q_at cX12_way 46 (.iload_n 3) 1 47 := ⟨by decide +kernel, rfl⟩
theorem dX12_way_47 : q_at cX12_way 47 (.iconst 3) 1 48 := ⟨by decide +kernel, rfl⟩
theorem dX12_way_48 : q_at cX12_way 48 (.irem) 1 49 := ⟨by decide +kernel, rfl⟩
theorem dX12_way_49 : q_at cX12_way 49 (.iadd) 1 50 := ⟨by decide +kernel, rfl⟩
theorem dX12_way_50 : q_at cX12_way 50 (.ireturn) 1 51 := ⟨by decide +kernel, rfl⟩
theorem dX12_way_51 : q_at cX12_way 51 (.iinc 2 1) 3 54 := ⟨by decide +kernel, rfl⟩
theorem dX12_way_54 : q_at cX12_way 54 (.iinc 3 1) 3 57 := ⟨by decide +kernel, rfl⟩
theorem dX12_way_57 : q_at cX12_way 57 (.goto (-46)) 3 60 := ⟨by decide +kernel, rfl⟩
theorem dX12_way_60 : q_at cX12_way 60 (.ldc 61) 2 62 := ⟨by decide +kernel, rfl⟩
theorem dX12_way_62 : q_at cX12_way 62 (.ireturn) 1 63 := ⟨by decide +kernel, rfl⟩
theorem dX12_worth_0 : q_at cX12_worth 0 (.aload_n 0) 1 1 := ⟨by decide +kernel, rfl⟩
theorem dX12_worth_1 : q_at cX12_worth 1 (.iload_n 1) 1 2 := ⟨by decide +kernel, rfl⟩
theorem dX12_worth_2 : q_at cX12_worth 2 (.invokevirtual 110) 3 5 := ⟨by decide +kernel, rfl⟩
theorem dX12_worth_5 : q_at cX12_worth 5 (.ifCond .eq 15) 3 8 := ⟨by decide +kernel, rfl⟩
theorem dX12_worth_8 : q_at cX12_worth 8 (.iload_n 2) 1 9 := ⟨by decide +kernel, rfl⟩
theorem dX12_worth_9 : q_at cX12_worth 9 (.i2l) 1 10 := ⟨by decide +kernel, rfl⟩
theorem dX12_worth_10 : q_at cX12_worth 10 (.lconst 0) 1 11 := ⟨by decide +kernel, rfl⟩
theorem dX12_worth_11 : q_at cX12_worth 11 (.ldc2_w 363) 3 14 := ⟨by decide +kernel, rfl⟩
theorem dX12_worth_14 : q_at cX12_worth 14 (.invokestatic 64) 3 17 := ⟨by decide +kernel, rfl⟩
theorem dX12_worth_17 : q_at cX12_worth 17 (.ifCond .ne 6) 3 20 := ⟨by decide +kernel, rfl⟩
theorem dX12_worth_20 : q_at cX12_worth 20 (.ldc 90) 2 22 := ⟨by decide +kernel, rfl⟩
theorem dX12_worth_22 : q_at cX12_worth 22 (.ireturn) 1 23 := ⟨by decide +kernel, rfl⟩
theorem dX12_worth_23 : q_at cX12_worth 23 (.aload_n 0) 1 24 := ⟨by decide +kernel, rfl⟩
theorem dX12_worth_24 : q_at cX12_worth 24 (.iload_n 1) 1 25 := ⟨by decide +kernel, rfl⟩
theorem dX12_worth_25 : q_at cX12_worth 25 (.iconst 0) 1 26 := ⟨by decide +kernel, rfl⟩
theorem dX12_worth_26 : q_at cX12_worth 26 (.invokevirtual 191) 3 29 := ⟨by decide +kernel, rfl⟩
theorem dX12_worth_29 : q_at cX12_worth 29 (.iconst 0) 1 30 := ⟨by decide +kernel, rfl⟩
theorem dX12_worth_30 : q_at cX12_worth 30 (.istore_n 3) 1 31 := ⟨by decide +kernel, rfl⟩
theorem dX12_worth_31 : q_at cX12_worth 31 (.iconst 0) 1 32 := ⟨by decide +kernel, rfl⟩
theorem dX12_worth_32 : q_at cX12_worth 32 (.istore 4) 2 34 := ⟨by decide +kernel, rfl⟩
theorem dX12_worth_34 : q_at cX12_worth 34 (.iconst 0) 1 35 := ⟨by decide +kernel, rfl⟩
theorem dX12_worth_35 : q_at cX12_worth 35 (.istore 5) 2 37 := ⟨by decide +kernel, rfl⟩
theorem dX12_worth_37 : q_at cX12_worth 37 (.iload 5) 2 39 := ⟨by decide +kernel, rfl⟩
theorem dX12_worth_39 : q_at cX12_worth 39 (.aload_n 0) 1 40 := ⟨by decide +kernel, rfl⟩
theorem dX12_worth_40 : q_at cX12_worth 40 (.getfield 7) 3 43 := ⟨by decide +kernel, rfl⟩
theorem dX12_worth_43 : q_at cX12_worth 43 (.iconst 1) 1 44 := ⟨by decide +kernel, rfl⟩
theorem dX12_worth_44 : q_at cX12_worth 44 (.iaload) 1 45 := ⟨by decide +kernel, rfl⟩
theorem dX12_worth_45 : q_at cX12_worth 45 (.if_icmp .ge 114) 3 48 := ⟨by decide +kernel, rfl⟩
theorem dX12_worth_48 : q_at cX12_worth 48 (.aload_n 0) 1 49 := ⟨by decide +kernel, rfl⟩
theorem dX12_worth_49 : q_at cX12_worth 49 (.getfield 156) 3 52 := ⟨by decide +kernel, rfl⟩
theorem dX12_worth_52 : q_at cX12_worth 52 (.aload_n 0) 1 53 := ⟨by decide +kernel, rfl⟩
theorem dX12_worth_53 : q_at cX12_worth 53 (.getfield 7) 3 56 := ⟨by decide +kernel, rfl⟩
theorem dX12_worth_56 : q_at cX12_worth 56 (.aload_n 0) 1 57 := ⟨by decide +kernel, rfl⟩
theorem dX12_worth_57 : q_at cX12_worth 57 (.iload 5) 2 59 := ⟨by decide +kernel, rfl⟩
theorem dX12_worth_59 : q_at cX12_worth 59 (.invokevirtual 72) 3 62 := ⟨by decide +kernel, rfl⟩
theorem dX12_worth_62 : q_at cX12_worth 62 (.iconst 3) 1 63 := ⟨by decide +kernel, rfl⟩
theorem dX12_worth_63 : q_at cX12_worth 63 (.iadd) 1 64 := ⟨by decide +kernel, rfl⟩
theorem dX12_worth_64 : q_at cX12_worth 64 (.iaload) 1 65 := ⟨by decide +kernel, rfl⟩
theorem dX12_worth_65 : q_at cX12_worth 65 (.if_icmp .ge 7) 3 68 := ⟨by decide +kernel, rfl⟩
theorem dX12_worth_68 : q_at cX12_worth 68 (.iconst 0) 1 69 := ⟨by decide +kernel, rfl⟩
theorem dX12_worth_69 : q_at cX12_worth 69 (.goto 35) 3 72 := ⟨by decide +kernel, rfl⟩
theorem dX12_worth_72 : q_at cX12_worth 72 (.aload_n 0) 1 73 := ⟨by decide +kernel, rfl⟩
theorem dX12_worth_73 : q_at cX12_worth 73 (.getfield 156) 3 76 := ⟨by decide +kernel, rfl⟩
theorem dX12_worth_76 : q_at cX12_worth 76 (.aload_n 0) 1 77 := ⟨by decide +kernel, rfl⟩
theorem dX12_worth_77 : q_at cX12_worth 77 (.getfield 7) 3 80 := ⟨by decide +kernel, rfl⟩
theorem dX12_worth_80 : q_at cX12_worth 80 (.aload_n 0) 1 81 := ⟨by decide +kernel, rfl⟩
theorem dX12_worth_81 : q_at cX12_worth 81 (.iload 5) 2 83 := ⟨by decide +kernel, rfl⟩
theorem dX12_worth_83 : q_at cX12_worth 83 (.invokevirtual 72) 3 86 := ⟨by decide +kernel, rfl⟩
theorem dX12_worth_86 : q_at cX12_worth 86 (.iconst 3) 1 87 := ⟨by decide +kernel, rfl⟩
theorem dX12_worth_87 : q_at cX12_worth 87 (.iadd) 1 88 := ⟨by decide +kernel, rfl⟩
theorem dX12_worth_88 : q_at cX12_worth 88 (.iaload) 1 89 := ⟨by decide +kernel, rfl⟩
theorem dX12_worth_89 : q_at cX12_worth 89 (.isub) 1 90 := ⟨by decide +kernel, rfl⟩
theorem dX12_worth_90 : q_at cX12_worth 90 (.aload_n 0) 1 91 := ⟨by decide +kernel, rfl⟩
theorem dX12_worth_91 : q_at cX12_worth 91 (.getfield 7) 3 94 := ⟨by decide +kernel, rfl⟩
theorem dX12_worth_94 : q_at cX12_worth 94 (.aload_n 0) 1 95 := ⟨by decide +kernel, rfl⟩
theorem dX12_worth_95 : q_at cX12_worth 95 (.iload 5) 2 97 := ⟨by decide +kernel, rfl⟩
theorem dX12_worth_97 : q_at cX12_worth 97 (.invokevirtual 72) 3 100 := ⟨by decide +kernel, rfl⟩
theorem dX12_worth_100 : q_at cX12_worth 100 (.iconst 1) 1 101 := ⟨by decide +kernel, rfl⟩
theorem dX12_worth_101 : q_at cX12_worth 101 (.iadd) 1 102 := ⟨by decide +kernel, rfl⟩
theorem dX12_worth_102 : q_at cX12_worth 102 (.iaload) 1 103 := ⟨by decide +kernel, rfl⟩
theorem dX12_worth_103 : q_at cX12_worth 103 (.idiv) 1 104 := ⟨by decide +kernel, rfl⟩
theorem dX12_worth_104 : q_at cX12_worth 104 (.istore 6) 2 106 := ⟨by decide +kernel, rfl⟩
theorem dX12_worth_106 : q_at cX12_worth 106 (.aload_n 0) 1 107 := ⟨by decide +kernel, rfl⟩
theorem dX12_worth_107 : q_at cX12_worth 107 (.iload 5) 2 109 := ⟨by decide +kernel, rfl⟩
theorem dX12_worth_109 : q_at cX12_worth 109 (.invokevirtual 132) 3 112 := ⟨by decide +kernel, rfl⟩
theorem dX12_worth_112 : q_at cX12_worth 112 (.ifCond .ne 14) 3 115 := ⟨by decide +kernel, rfl⟩
theorem dX12_worth_115 : q_at cX12_worth 115 (.iload 6) 2 117 := ⟨by decide +kernel, rfl⟩
theorem dX12_worth_117 : q_at cX12_worth 117 (.iload_n 3) 1 118 := ⟨by decide +kernel, rfl⟩
theorem dX12_worth_118 : q_at cX12_worth 118 (.if_icmp .le 8) 3 121 := ⟨by decide +kernel, rfl⟩
theorem dX12_worth_121 : q_at cX12_worth 121 (.iload 6) 2 123 := ⟨by decide +kernel, rfl⟩
theorem dX12_worth_123 : q_at cX12_worth 123 (.goto 4) 3 126 := ⟨by decide +kernel, rfl⟩
theorem dX12_worth_126 : q_at cX12_worth 126 (.iload_n 3) 1 127 := ⟨by decide +kernel, rfl⟩
theorem dX12_worth_127 : q_at cX12_worth 127 (.istore_n 3) 1 128 := ⟨by decide +kernel, rfl⟩
theorem dX12_worth_128 : q_at cX12_worth 128 (.aload_n 0) 1 129 := ⟨by decide +kernel, rfl⟩
theorem dX12_worth_129 : q_at cX12_worth 129 (.iload 5) 2 131 := ⟨by decide +kernel, rfl⟩
theorem dX12_worth_131 : q_at cX12_worth 131 (.invokevirtual 132) 3 134 := ⟨by decide +kernel, rfl⟩
theorem dX12_worth_134 : q_at cX12_worth 134 (.ifCond .eq 15) 3 137 := ⟨by decide +kernel, rfl⟩
theorem dX12_worth_137 : q_at cX12_worth 137 (.iload 6) 2 139 := ⟨by decide +kernel, rfl⟩
theorem dX12_worth_139 : q_at cX12_worth 139 (.iload 4) 2 141 := ⟨by decide +kernel, rfl⟩
theorem dX12_worth_141 : q_at cX12_worth 141 (.if_icmp .le 8) 3 144 := ⟨by decide +kernel, rfl⟩
theorem dX12_worth_144 : q_at cX12_worth 144 (.iload 6) 2 146 := ⟨by decide +kernel, rfl⟩
theorem dX12_worth_146 : q_at cX12_worth 146 (.goto 5) 3 149 := ⟨by decide +kernel, rfl⟩
theorem dX12_worth_149 : q_at cX12_worth 149 (.iload 4) 2 151 := ⟨by decide +kernel, rfl⟩
theorem dX12_worth_151 : q_at cX12_worth 151 (.istore 4) 2 153 := ⟨by decide +kernel, rfl⟩
theorem dX12_worth_153 : q_at cX12_worth 153 (.iinc 5 1) 3 156 := ⟨by decide +kernel, rfl⟩
theorem dX12_worth_156 : q_at cX12_worth 156 (.goto (-119)) 3 159 := ⟨by decide +kernel, rfl⟩
theorem dX12_worth_159 : q_at cX12_worth 159 (.iload_n 2) 1 160 := ⟨by decide +kernel, rfl⟩
theorem dX12_worth_160 : q_at cX12_worth 160 (.tableswitch 84 0 6 #[44, 49, 54, 64, 69, 74, 79]) 44 204 := ⟨by decide +kernel, rfl⟩
theorem dX12_worth_204 : q_at cX12_worth 204 (.aload_n 0) 1 205 := ⟨by decide +kernel, rfl⟩
theorem dX12_worth_205 : q_at cX12_worth 205 (.getfield 156) 3 208 := ⟨by decide +kernel, rfl⟩
theorem dX12_worth_208 : q_at cX12_worth 208 (.ireturn) 1 209 := ⟨by decide +kernel, rfl⟩
theorem dX12_worth_209 : q_at cX12_worth 209 (.aload_n 0) 1 210 := ⟨by decide +kernel, rfl⟩
theorem dX12_worth_210 : q_at cX12_worth 210 (.getfield 180) 3 213 := ⟨by decide +kernel, rfl⟩
theorem dX12_worth_213 : q_at cX12_worth 213 (.ireturn) 1 214 := ⟨by decide +kernel, rfl⟩
theorem dX12_worth_214 : q_at cX12_worth 214 (.aload_n 0) 1 215 := ⟨by decide +kernel, rfl⟩
theorem dX12_worth_215 : q_at cX12_worth 215 (.getfield 156) 3 218 := ⟨by decide +kernel, rfl⟩
theorem dX12_worth_218 : q_at cX12_worth 218 (.aload_n 0) 1 219 := ⟨by decide +kernel, rfl⟩
theorem dX12_worth_219 : q_at cX12_worth 219 (.getfield 180) 3 222 := ⟨by decide +kernel, rfl⟩
theorem dX12_worth_222 : q_at cX12_worth 222 (.isub) 1 223 := ⟨by decide +kernel, rfl⟩
theorem dX12_worth_223 : q_at cX12_worth 223 (.ireturn) 1 224 := ⟨by decide +kernel, rfl⟩
theorem dX12_worth_224 : q_at cX12_worth 224 (.aload_n 0) 1 225 := ⟨by decide +kernel, rfl⟩
theorem dX12_worth_225 : q_at cX12_worth 225 (.getfield 163) 3 228 := ⟨by decide +kernel, rfl⟩
theorem dX12_worth_228 : q_at cX12_worth 228 (.ireturn) 1 229 := ⟨by decide +kernel, rfl⟩
theorem dX12_worth_229 : q_at cX12_worth 229 (.aload_n 0) 1 230 := ⟨by decide +kernel, rfl⟩
theorem dX12_worth_230 : q_at cX12_worth 230 (.getfield 166) 3 233 := ⟨by decide +kernel, rfl⟩
theorem dX12_worth_233 : q_at cX12_worth 233 (.ireturn) 1 234 := ⟨by decide +kernel, rfl⟩
theorem dX12_worth_234 : q_at cX12_worth 234 (.aload_n 0) 1 235 := ⟨by decide +kernel, rfl⟩
theorem dX12_worth_235 : q_at cX12_worth 235 (.getfield 169) 3 238 := ⟨by decide +kernel, rfl⟩
theorem dX12_worth_238 : q_at cX12_worth 238 (.ireturn) 1 239 := ⟨by decide +kernel, rfl⟩
theorem dX12_worth_239 : q_at cX12_worth 239 (.aload_n 0) 1 240 := ⟨by decide +kernel, rfl⟩
theorem dX12_worth_240 : q_at cX12_worth 240 (.getfield 172) 3 243 := ⟨by decide +kernel, rfl⟩
theorem dX12_worth_243 : q_at cX12_worth 243 (.ireturn) 1 244 := ⟨by decide +kernel, rfl⟩
theorem dX12_worth_244 : q_at cX12_worth 244 (.iload_n 2) 1 245 := ⟨by decide +kernel, rfl⟩
theorem dX12_worth_245 : q_at cX12_worth 245 (.bipush 7) 2 247 := ⟨by decide +kernel, rfl⟩
theorem dX12_worth_247 : q_at cX12_worth 247 (.if_icmp .ne 7) 3 250 := ⟨by decide +kernel, rfl⟩
theorem dX12_worth_250 : q_at cX12_worth 250 (.iload_n 3) 1 251 := ⟨by decide +kernel, rfl⟩
theorem dX12_worth_251 : q_at cX12_worth 251 (.goto 5) 3 254 := ⟨by decide +kernel, rfl⟩
theorem dX12_worth_254 : q_at cX12_worth 254 (.iload 4) 2 256 := ⟨by decide +kernel, rfl⟩
theorem dX12_worth_256 : q_at cX12_worth 256 (.ireturn) 1 257 := ⟨by decide +kernel, rfl⟩
theorem dX12_would_0 : q_at cX12_would 0 (.aload_n 0) 1 1 := ⟨by decide +kernel, rfl⟩
theorem dX12_would_1 : q_at cX12_would 1 (.iload_n 1) 1 2 := ⟨by decide +kernel, rfl⟩
theorem dX12_would_2 : q_at cX12_would 2 (.invokevirtual 308) 3 5 := ⟨by decide +kernel, rfl⟩
theorem dX12_would_5 : q_at cX12_would 5 (.ifCond .eq 13) 3 8 := ⟨by decide +kernel, rfl⟩
theorem dX12_would_8 : q_at cX12_would 8 (.iload_n 2) 1 9 := ⟨by decide +kernel, rfl⟩
theorem dX12_would_9 : q_at cX12_would 9 (.i2l) 1 10 := ⟨by decide +kernel, rfl⟩
theorem dX12_would_10 : q_at cX12_would 10 (.lconst 0) 1 11 := ⟨by decide +kernel, rfl⟩
theorem dX12_would_11 : q_at cX12_would 11 (.lconst 1) 1 12 := ⟨by decide +kernel, rfl⟩
theorem dX12_would_12 : q_at cX12_would 12 (.invokestatic 64) 3 15 := ⟨by decide +kernel, rfl⟩
theorem dX12_would_15 : q_at cX12_would 15 (.ifCond .ne 6) 3 18 := ⟨by decide +kernel, rfl⟩
theorem dX12_would_18 : q_at cX12_would 18 (.ldc 90) 2 20 := ⟨by decide +kernel, rfl⟩
theorem dX12_would_20 : q_at cX12_would 20 (.ireturn) 1 21 := ⟨by decide +kernel, rfl⟩
theorem dX12_would_21 : q_at cX12_would 21 (.aload_n 0) 1 22 := ⟨by decide +kernel, rfl⟩
theorem dX12_would_22 : q_at cX12_would 22 (.getfield 7) 3 25 := ⟨by decide +kernel, rfl⟩
theorem dX12_would_25 : q_at cX12_would 25 (.aload_n 0) 1 26 := ⟨by decide +kernel, rfl⟩
theorem dX12_would_26 : q_at cX12_would 26 (.iload_n 1) 1 27 := ⟨by decide +kernel, rfl⟩
theorem dX12_would_27 : q_at cX12_would 27 (.invokevirtual 297) 3 30 := ⟨by decide +kernel, rfl⟩
theorem dX12_would_30 : q_at cX12_would 30 (.iconst 0) 1 31 := ⟨by decide +kernel, rfl⟩
theorem dX12_would_31 : q_at cX12_would 31 (.iadd) 1 32 := ⟨by decide +kernel, rfl⟩
theorem dX12_would_32 : q_at cX12_would 32 (.iaload) 1 33 := ⟨by decide +kernel, rfl⟩
theorem dX12_would_33 : q_at cX12_would 33 (.bipush 6) 2 35 := ⟨by decide +kernel, rfl⟩
theorem dX12_would_35 : q_at cX12_would 35 (.if_icmp .eq 7) 3 38 := ⟨by decide +kernel, rfl⟩
theorem dX12_would_38 : q_at cX12_would 38 (.ldc_w 356) 3 41 := ⟨by decide +kernel, rfl⟩
theorem dX12_would_41 : q_at cX12_would 41 (.ireturn) 1 42 := ⟨by decide +kernel, rfl⟩
theorem dX12_would_42 : q_at cX12_would 42 (.iconst 0) 1 43 := ⟨by decide +kernel, rfl⟩
theorem dX12_would_43 : q_at cX12_would 43 (.istore_n 3) 1 44 := ⟨by decide +kernel, rfl⟩
theorem dX12_would_44 : q_at cX12_would 44 (.iconst 0) 1 45 := ⟨by decide +kernel, rfl⟩
theorem dX12_would_45 : q_at cX12_would 45 (.istore 4) 2 47 := ⟨by decide +kernel, rfl⟩
theorem dX12_would_47 : q_at cX12_would 47 (.iload 4) 2 49 := ⟨by decide +kernel, rfl⟩
theorem dX12_would_49 : q_at cX12_would 49 (.bipush 48) 2 51 := ⟨by decide +kernel, rfl⟩
theorem dX12_would_51 : q_at cX12_would 51 (.if_icmp .ge 66) 3 54 := ⟨by decide +kernel, rfl⟩
theorem dX12_would_54 : q_at cX12_would 54 (.iload_n 2) 1 55 := ⟨by decide +kernel, rfl⟩
theorem dX12_would_55 : q_at cX12_would 55 (.ifCond .ne 12) 3 58 := ⟨by decide +kernel, rfl⟩
theorem dX12_would_58 : q_at cX12_would 58 (.aload_n 0) 1 59 := ⟨by decide +kernel, rfl⟩
theorem dX12_would_59 : q_at cX12_would 59 (.iload 4) 2 61 := ⟨by decide +kernel, rfl⟩
theorem dX12_would_61 : q_at cX12_would 61 (.invokevirtual 389) 3 64 := ⟨by decide +kernel, rfl⟩
theorem dX12_would_64 : q_at cX12_would 64 (.goto 22) 3 67 := ⟨by decide +kernel, rfl⟩
theorem dX12_would_67 : q_at cX12_would 67 (.aload_n 0) 1 68 := ⟨by decide +kernel, rfl⟩
theorem dX12_would_68 : q_at cX12_would 68 (.getfield 7) 3 71 := ⟨by decide +kernel, rfl⟩
theorem dX12_would_71 : q_at cX12_would 71 (.sipush 3250) 3 74 := ⟨by decide +kernel, rfl⟩
theorem dX12_would_74 : q_at cX12_would 74 (.iload 4) 2 76 := ⟨by decide +kernel, rfl⟩
theorem dX12_would_76 : q_at cX12_would 76 (.iadd) 1 77 := ⟨by decide +kernel, rfl⟩
theorem dX12_would_77 : q_at cX12_would 77 (.iaload) 1 78 := ⟨by decide +kernel, rfl⟩
theorem dX12_would_78 : q_at cX12_would 78 (.ifCond .ne 7) 3 81 := ⟨by decide +kernel, rfl⟩
theorem dX12_would_81 : q_at cX12_would 81 (.iconst 1) 1 82 := ⟨by decide +kernel, rfl⟩
theorem dX12_would_82 : q_at cX12_would 82 (.goto 4) 3 85 := ⟨by decide +kernel, rfl⟩
theorem dX12_would_85 : q_at cX12_would 85 (.iconst 0) 1 86 := ⟨by decide +kernel, rfl⟩
theorem dX12_would_86 : q_at cX12_would 86 (.istore 5) 2 88 := ⟨by decide +kernel, rfl⟩
theorem dX12_would_88 : q_at cX12_would 88 (.iload_n 3) 1 89 := ⟨by decide +kernel, rfl⟩
theorem dX12_would_89 : q_at cX12_would 89 (.iload 5) 2 91 := ⟨by decide +kernel, rfl⟩
theorem dX12_would_91 : q_at cX12_would 91 (.ifCond .eq 17) 3 94 := ⟨by decide +kernel, rfl⟩
theorem dX12_would_94 : q_at cX12_would 94 (.aload_n 0) 1 95 := ⟨by decide +kernel, rfl⟩
theorem dX12_would_95 : q_at cX12_would 95 (.iload_n 1) 1 96 := ⟨by decide +kernel, rfl⟩
theorem dX12_would_96 : q_at cX12_would 96 (.iload 4) 2 98 := ⟨by decide +kernel, rfl⟩
theorem dX12_would_98 : q_at cX12_would 98 (.invokevirtual 386) 3 101 := ⟨by decide +kernel, rfl⟩
theorem dX12_would_101 : q_at cX12_would 101 (.ifCond .eq 7) 3 104 := ⟨by decide +kernel, rfl⟩
theorem dX12_would_104 : q_at cX12_would 104 (.iconst 1) 1 105 := ⟨by decide +kernel, rfl⟩
theorem dX12_would_105 : q_at cX12_would 105 (.goto 4) 3 108 := ⟨by decide +kernel, rfl⟩
theorem dX12_would_108 : q_at cX12_would 108 (.iconst 0) 1 109 := ⟨by decide +kernel, rfl⟩
theorem dX12_would_109 : q_at cX12_would 109 (.iadd) 1 110 := ⟨by decide +kernel, rfl⟩
theorem dX12_would_110 : q_at cX12_would 110 (.istore_n 3) 1 111 := ⟨by decide +kernel, rfl⟩
theorem dX12_would_111 : q_at cX12_would 111 (.iinc 4 1) 3 114 := ⟨by decide +kernel, rfl⟩
theorem dX12_would_114 : q_at cX12_would 114 (.goto (-67)) 3 117 := ⟨by decide +kernel, rfl⟩
theorem dX12_would_117 : q_at cX12_would 117 (.iload_n 3) 1 118 := ⟨by decide +kernel, rfl⟩
theorem dX12_would_118 : q_at cX12_would 118 (.ireturn) 1 119 := ⟨by decide +kernel, rfl⟩
theorem dX12_oneDay_0 : q_at cX12_oneDay 0 (.iconst 0) 1 1 := ⟨by decide +kernel, rfl⟩
theorem dX12_oneDay_1 : q_at cX12_oneDay 1 (.istore_n 1) 1 2 := ⟨by decide +kernel, rfl⟩
theorem dX12_oneDay_2 : q_at cX12_oneDay 2 (.iload_n 1) 1 3 := ⟨by decide +kernel, rfl⟩
theorem dX12_oneDay_3 : q_at cX12_oneDay 3 (.aload_n 0) 1 4 := ⟨by decide +kernel, rfl⟩
theorem dX12_oneDay_4 : q_at cX12_oneDay 4 (.getfield 7) 3 7 := ⟨by decide +kernel, rfl⟩
theorem dX12_oneDay_7 : q_at cX12_oneDay 7 (.iconst 2) 1 8 := ⟨by decide +kernel, rfl⟩
theorem dX12_oneDay_8 : q_at cX12_oneDay 8 (.iaload) 1 9 := ⟨by decide +kernel, rfl⟩
theorem dX12_oneDay_9 : q_at cX12_oneDay 9 (.if_icmp .ge 22) 3 12 := ⟨by decide +kernel, rfl⟩
theorem dX12_oneDay_12 : q_at cX12_oneDay 12 (.aload_n 0) 1 13 := ⟨by decide +kernel, rfl⟩
theorem dX12_oneDay_13 : q_at cX12_oneDay 13 (.iload_n 1) 1 14 := ⟨by decide +kernel, rfl⟩
theorem dX12_oneDay_14 : q_at cX12_oneDay 14 (.invokevirtual 93) 3 17 := ⟨by decide +kernel, rfl⟩
theorem dX12_oneDay_17 : q_at cX12_oneDay 17 (.ifCond .ne 8) 3 20 := ⟨by decide +kernel, rfl⟩
theorem dX12_oneDay_20 : q_at cX12_oneDay 20 (.aload_n 0) 1 21 := ⟨by decide +kernel, rfl⟩
theorem dX12_oneDay_21 : q_at cX12_oneDay 21 (.iload_n 1) 1 22 := ⟨by decide +kernel, rfl⟩
theorem dX12_oneDay_22 : q_at cX12_oneDay 22 (.invokevirtual 198) 3 25 := ⟨by decide +kernel, rfl⟩
theorem dX12_oneDay_25 : q_at cX12_oneDay 25 (.iinc 1 1) 3 28 := ⟨by decide +kernel, rfl⟩
theorem dX12_oneDay_28 : q_at cX12_oneDay 28 (.goto (-26)) 3 31 := ⟨by decide +kernel, rfl⟩
theorem dX12_oneDay_31 : q_at cX12_oneDay 31 (.iconst 0) 1 32 := ⟨by decide +kernel, rfl⟩
theorem dX12_oneDay_32 : q_at cX12_oneDay 32 (.istore_n 1) 1 33 := ⟨by decide +kernel, rfl⟩
theorem dX12_oneDay_33 : q_at cX12_oneDay 33 (.iload_n 1) 1 34 := ⟨by decide +kernel, rfl⟩
theorem dX12_oneDay_34 : q_at cX12_oneDay 34 (.aload_n 0) 1 35 := ⟨by decide +kernel, rfl⟩
theorem dX12_oneDay_35 : q_at cX12_oneDay 35 (.getfield 7) 3 38 := ⟨by decide +kernel, rfl⟩
theorem dX12_oneDay_38 : q_at cX12_oneDay 38 (.iconst 2) 1 39 := ⟨by decide +kernel, rfl⟩
theorem dX12_oneDay_39 : q_at cX12_oneDay 39 (.iaload) 1 40 := ⟨by decide +kernel, rfl⟩
theorem dX12_oneDay_40 : q_at cX12_oneDay 40 (.if_icmp .ge 22) 3 43 := ⟨by decide +kernel, rfl⟩
theorem dX12_oneDay_43 : q_at cX12_oneDay 43 (.aload_n 0) 1 44 := ⟨by decide +kernel, rfl⟩
theorem dX12_oneDay_44 : q_at cX12_oneDay 44 (.iload_n 1) 1 45 := ⟨by decide +kernel, rfl⟩
theorem dX12_oneDay_45 : q_at cX12_oneDay 45 (.invokevirtual 93) 3 48 := ⟨by decide +kernel, rfl⟩
theorem dX12_oneDay_48 : q_at cX12_oneDay 48 (.ifCond .ne 8) 3 51 := ⟨by decide +kernel, rfl⟩
theorem dX12_oneDay_51 : q_at cX12_oneDay 51 (.aload_n 0) 1 52 := ⟨by decide +kernel, rfl⟩
theorem dX12_oneDay_52 : q_at cX12_oneDay 52 (.iload_n 1) 1 53 := ⟨by decide +kernel, rfl⟩
theorem dX12_oneDay_53 : q_at cX12_oneDay 53 (.invokevirtual 201) 3 56 := ⟨by decide +kernel, rfl⟩
theorem dX12_oneDay_56 : q_at cX12_oneDay 56 (.iinc 1 1) 3 59 := ⟨by decide +kernel, rfl⟩
theorem dX12_oneDay_59 : q_at cX12_oneDay 59 (.goto (-26)) 3 62 := ⟨by decide +kernel, rfl⟩
theorem dX12_oneDay_62 : q_at cX12_oneDay 62 (.iconst 0) 1 63 := ⟨by decide +kernel, rfl⟩
theorem dX12_oneDay_63 : q_at cX12_oneDay 63 (.istore_n 1) 1 64 := ⟨by decide +kernel, rfl⟩
theorem dX12_oneDay_64 : q_at cX12_oneDay 64 (.iload_n 1) 1 65 := ⟨by decide +kernel, rfl⟩
theorem dX12_oneDay_65 : q_at cX12_oneDay 65 (.bipush 8) 2 67 := ⟨by decide +kernel, rfl⟩
theorem dX12_oneDay_67 : q_at cX12_oneDay 67 (.if_icmp .ge 33) 3 70 := ⟨by decide +kernel, rfl⟩
theorem dX12_oneDay_70 : q_at cX12_oneDay 70 (.iconst 0) 1 71 := ⟨by decide +kernel, rfl⟩
theorem dX12_oneDay_71 : q_at cX12_oneDay 71 (.istore_n 2) 1 72 := ⟨by decide +kernel, rfl⟩
theorem dX12_oneDay_72 : q_at cX12_oneDay 72 (.iload_n 2) 1 73 := ⟨by decide +kernel, rfl⟩
theorem dX12_oneDay_73 : q_at cX12_oneDay 73 (.aload_n 0) 1 74 := ⟨by decide +kernel, rfl⟩
theorem dX12_oneDay_74 : q_at cX12_oneDay 74 (.getfield 7) 3 77 := ⟨by decide +kernel, rfl⟩
theorem dX12_oneDay_77 : q_at cX12_oneDay 77 (.iconst 1) 1 78 := ⟨by decide +kernel, rfl⟩
theorem dX12_oneDay_78 : q_at cX12_oneDay 78 (.iaload) 1 79 := ⟨by decide +kernel, rfl⟩
theorem dX12_oneDay_79 : q_at cX12_oneDay 79 (.if_icmp .ge 15) 3 82 := ⟨by decide +kernel, rfl⟩
theorem dX12_oneDay_82 : q_at cX12_oneDay 82 (.aload_n 0) 1 83 := ⟨by decide +kernel, rfl⟩
theorem dX12_oneDay_83 : q_at cX12_oneDay 83 (.iload_n 1) 1 84 := ⟨by decide +kernel, rfl⟩
theorem dX12_oneDay_84 : q_at cX12_oneDay 84 (.iload_n 2) 1 85 := ⟨by decide +kernel, rfl⟩
theorem dX12_oneDay_85 : q_at cX12_oneDay 85 (.invokevirtual 204) 3 88 := ⟨by decide +kernel, rfl⟩
theorem dX12_oneDay_88 : q_at cX12_oneDay 88 (.iinc 2 1) 3 91 := ⟨by decide +kernel, rfl⟩
theorem dX12_oneDay_91 : q_at cX12_oneDay 91 (.goto (-19)) 3 94 := ⟨by decide +kernel, rfl⟩
theorem dX12_oneDay_94 : q_at cX12_oneDay 94 (.iinc 1 1) 3 97 := ⟨by decide +kernel, rfl⟩
theorem dX12_oneDay_97 : q_at cX12_oneDay 97 (.goto (-33)) 3 100 := ⟨by decide +kernel, rfl⟩
theorem dX12_oneDay_100 : q_at cX12_oneDay 100 (.aload_n 0) 1 101 := ⟨by decide +kernel, rfl⟩
theorem dX12_oneDay_101 : q_at cX12_oneDay 101 (.getfield 7) 3 104 := ⟨by decide +kernel, rfl⟩
theorem dX12_oneDay_104 : q_at cX12_oneDay 104 (.iconst 0) 1 105 := ⟨by decide +kernel, rfl⟩
theorem dX12_oneDay_105 : q_at cX12_oneDay 105 (.iaload) 1 106 := ⟨by decide +kernel, rfl⟩
theorem dX12_oneDay_106 : q_at cX12_oneDay 106 (.bipush 7) 2 108 := ⟨by decide +kernel, rfl⟩
theorem dX12_oneDay_108 : q_at cX12_oneDay 108 (.irem) 1 109 := ⟨by decide +kernel, rfl⟩
theorem dX12_oneDay_109 : q_at cX12_oneDay 109 (.bipush 6) 2 111 := ⟨by decide +kernel, rfl⟩
theorem dX12_oneDay_111 : q_at cX12_oneDay 111 (.if_icmp .ne 7) 3 114 := ⟨by decide +kernel, rfl⟩
theorem dX12_oneDay_114 : q_at cX12_oneDay 114 (.aload_n 0) 1 115 := ⟨by decide +kernel, rfl⟩
theorem dX12_oneDay_115 : q_at cX12_oneDay 115 (.invokevirtual 207) 3 118 := ⟨by decide +kernel, rfl⟩
theorem dX12_oneDay_118 : q_at cX12_oneDay 118 (.aload_n 0) 1 119 := ⟨by decide +kernel, rfl⟩
theorem dX12_oneDay_119 : q_at cX12_oneDay 119 (.getfield 7) 3 122 := ⟨by decide +kernel, rfl⟩
theorem dX12_oneDay_122 : q_at cX12_oneDay 122 (.iconst 0) 1 123 := ⟨by decide +kernel, rfl⟩
theorem dX12_oneDay_123 : q_at cX12_oneDay 123 (.dup2) 1 124 := ⟨by decide +kernel, rfl⟩
theorem dX12_oneDay_124 : q_at cX12_oneDay 124 (.iaload) 1 125 := ⟨by decide +kernel, rfl⟩
theorem dX12_oneDay_125 : q_at cX12_oneDay 125 (.iconst 1) 1 126 := ⟨by decide +kernel, rfl⟩
theorem dX12_oneDay_126 : q_at cX12_oneDay 126 (.iadd) 1 127 := ⟨by decide +kernel, rfl⟩
theorem dX12_oneDay_127 : q_at cX12_oneDay 127 (.iastore) 1 128 := ⟨by decide +kernel, rfl⟩
theorem dX12_oneDay_128 : q_at cX12_oneDay 128 (.return_) 1 129 := ⟨by decide +kernel, rfl⟩
theorem dX12_beside_0 : q_at cX12_beside 0 (.iload_n 1) 1 1 := ⟨by decide +kernel, rfl⟩
theorem dX12_beside_1 : q_at cX12_beside 1 (.i2l) 1 2 := ⟨by decide +kernel, rfl⟩
theorem dX12_beside_2 : q_at cX12_beside 2 (.lconst 1) 1 3 := ⟨by decide +kernel, rfl⟩
theorem dX12_beside_3 : q_at cX12_beside 3 (.ldc2_w 210) 3 6 := ⟨by decide +kernel, rfl⟩
theorem dX12_beside_6 : q_at cX12_beside 6 (.invokestatic 64) 3 9 := ⟨by decide +kernel, rfl⟩
theorem dX12_beside_9 : q_at cX12_beside 9 (.ifCond .eq 15) 3 12 := ⟨by decide +kernel, rfl⟩
theorem dX12_beside_12 : q_at cX12_beside 12 (.iload_n 2) 1 13 := ⟨by decide +kernel, rfl⟩
theorem dX12_beside_13 : q_at cX12_beside 13 (.i2l) 1 14 := ⟨by decide +kernel, rfl⟩
theorem dX12_beside_14 : q_at cX12_beside 14 (.lconst 0) 1 15 := ⟨by decide +kernel, rfl⟩
theorem dX12_beside_15 : q_at cX12_beside 15 (.ldc2_w 125) 3 18 := ⟨by decide +kernel, rfl⟩
theorem dX12_beside_18 : q_at cX12_beside 18 (.invokestatic 64) 3 21 := ⟨by decide +kernel, rfl⟩
theorem dX12_beside_21 : q_at cX12_beside 21 (.ifCond .ne 6) 3 24 := ⟨by decide +kernel, rfl⟩
theorem dX12_beside_24 : q_at cX12_beside 24 (.ldc 90) 2 26 := ⟨by decide +kernel, rfl⟩
theorem dX12_beside_26 : q_at cX12_beside 26 (.ireturn) 1 27 := ⟨by decide +kernel, rfl⟩
theorem dX12_beside_27 : q_at cX12_beside 27 (.aload_n 0) 1 28 := ⟨by decide +kernel, rfl⟩
theorem dX12_beside_28 : q_at cX12_beside 28 (.getfield 7) 3 31 := ⟨by decide +kernel, rfl⟩
theorem dX12_beside_31 : q_at cX12_beside 31 (.iconst 0) 1 32 := ⟨by decide +kernel, rfl⟩
theorem dX12_beside_32 : q_at cX12_beside 32 (.iaload) 1 33 := ⟨by decide +kernel, rfl⟩
theorem dX12_beside_33 : q_at cX12_beside 33 (.iload_n 1) 1 34 := ⟨by decide +kernel, rfl⟩
theorem dX12_beside_34 : q_at cX12_beside 34 (.iadd) 1 35 := ⟨by decide +kernel, rfl⟩
theorem dX12_beside_35 : q_at cX12_beside 35 (.sipush 6999) 3 38 := ⟨by decide +kernel, rfl⟩
theorem dX12_beside_38 : q_at cX12_beside 38 (.if_icmp .le 6) 3 41 := ⟨by decide +kernel, rfl⟩
theorem dX12_beside_41 : q_at cX12_beside 41 (.ldc 98) 2 43 := ⟨by decide +kernel, rfl⟩
theorem dX12_beside_43 : q_at cX12_beside 43 (.ireturn) 1 44 := ⟨by decide +kernel, rfl⟩
theorem dX12_beside_44 : q_at cX12_beside 44 (.aload_n 0) 1 45 := ⟨by decide +kernel, rfl⟩
theorem dX12_beside_45 : q_at cX12_beside 45 (.aload_n 0) 1 46 := ⟨by decide +kernel, rfl⟩
theorem dX12_beside_46 : q_at cX12_beside 46 (.getfield 7) 3 49 := ⟨by decide +kernel, rfl⟩
theorem dX12_beside_49 : q_at cX12_beside 49 (.aload_n 0) 1 50 := ⟨by decide +kernel, rfl⟩
theorem dX12_beside_50 : q_at cX12_beside 50 (.getfield 16) 3 53 := ⟨by decide +kernel, rfl⟩
theorem dX12_beside_53 : q_at cX12_beside 53 (.invokevirtual 365) 3 56 := ⟨by decide +kernel, rfl⟩
theorem dX12_beside_56 : q_at cX12_beside 56 (.iconst 0) 1 57 := ⟨by decide +kernel, rfl⟩
theorem dX12_beside_57 : q_at cX12_beside 57 (.istore_n 3) 1 58 := ⟨by decide +kernel, rfl⟩
theorem dX12_beside_58 : q_at cX12_beside 58 (.iload_n 3) 1 59 := ⟨by decide +kernel, rfl⟩
theorem dX12_beside_59 : q_at cX12_beside 59 (.iload_n 1) 1 60 := ⟨by decide +kernel, rfl⟩
theorem dX12_beside_60 : q_at cX12_beside 60 (.if_icmp .ge 13) 3 63 := ⟨by decide +kernel, rfl⟩
theorem dX12_beside_63 : q_at cX12_beside 63 (.aload_n 0) 1 64 := ⟨by decide +kernel, rfl⟩
theorem dX12_beside_64 : q_at cX12_beside 64 (.invokevirtual 212) 3 67 := ⟨by decide +kernel, rfl⟩
theorem dX12_beside_67 : q_at cX12_beside 67 (.iinc 3 1) 3 70 := ⟨by decide +kernel, rfl⟩
theorem dX12_beside_70 : q_at cX12_beside 70 (.goto (-12)) 3 73 := ⟨by decide +kernel, rfl⟩
theorem dX12_beside_73 : q_at cX12_beside 73 (.aload_n 0) 1 74 := ⟨by decide +kernel, rfl⟩
theorem dX12_beside_74 : q_at cX12_beside 74 (.iload_n 2) 1 75 := ⟨by decide +kernel, rfl⟩
theorem dX12_beside_75 : q_at cX12_beside 75 (.invokevirtual 369) 3 78 := ⟨by decide +kernel, rfl⟩
theorem dX12_beside_78 : q_at cX12_beside 78 (.istore_n 3) 1 79 := ⟨by decide +kernel, rfl⟩
theorem dX12_beside_79 : q_at cX12_beside 79 (.aload_n 0) 1 80 := ⟨by decide +kernel, rfl⟩
theorem dX12_beside_80 : q_at cX12_beside 80 (.aload_n 0) 1 81 := ⟨by decide +kernel, rfl⟩
theorem dX12_beside_81 : q_at cX12_beside 81 (.getfield 16) 3 84 := ⟨by decide +kernel, rfl⟩
theorem dX12_beside_84 : q_at cX12_beside 84 (.aload_n 0) 1 85 := ⟨by decide +kernel, rfl⟩
theorem dX12_beside_85 : q_at cX12_beside 85 (.getfield 7) 3 88 := ⟨by decide +kernel, rfl⟩
theorem dX12_beside_88 : q_at cX12_beside 88 (.invokevirtual 365) 3 91 := ⟨by decide +kernel, rfl⟩
theorem dX12_beside_91 : q_at cX12_beside 91 (.aload_n 0) 1 92 := ⟨by decide +kernel, rfl⟩
theorem dX12_beside_92 : q_at cX12_beside 92 (.iconst 1) 1 93 := ⟨by decide +kernel, rfl⟩
theorem dX12_beside_93 : q_at cX12_beside 93 (.putfield 331) 3 96 := ⟨by decide +kernel, rfl⟩
theorem dX12_beside_96 : q_at cX12_beside 96 (.iconst 0) 1 97 := ⟨by decide +kernel, rfl⟩
theorem dX12_beside_97 : q_at cX12_beside 97 (.istore 4) 2 99 := ⟨by decide +kernel, rfl⟩
theorem dX12_beside_99 : q_at cX12_beside 99 (.iload 4) 2 101 := ⟨by decide +kernel, rfl⟩
theorem dX12_beside_101 : q_at cX12_beside 101 (.iload_n 1) 1 102 := ⟨by decide +kernel, rfl⟩
theorem dX12_beside_102 : q_at cX12_beside 102 (.if_icmp .ge 13) 3 105 := ⟨by decide +kernel, rfl⟩
theorem dX12_beside_105 : q_at cX12_beside 105 (.aload_n 0) 1 106 := ⟨by decide +kernel, rfl⟩
theorem dX12_beside_106 : q_at cX12_beside 106 (.invokevirtual 212) 3 109 := ⟨by decide +kernel, rfl⟩
theorem dX12_beside_109 : q_at cX12_beside 109 (.iinc 4 1) 3 112 := ⟨by decide +kernel, rfl⟩
theorem dX12_beside_112 : q_at cX12_beside 112 (.goto (-13)) 3 115 := ⟨by decide +kernel, rfl⟩
theorem dX12_beside_115 : q_at cX12_beside 115 (.aload_n 0) 1 116 := ⟨by decide +kernel, rfl⟩
theorem dX12_beside_116 : q_at cX12_beside 116 (.iconst 0) 1 117 := ⟨by decide +kernel, rfl⟩
theorem dX12_beside_117 : q_at cX12_beside 117 (.putfield 331) 3 120 := ⟨by decide +kernel, rfl⟩
theorem dX12_beside_120 : q_at cX12_beside 120 (.aload_n 0) 1 121 := ⟨by decide +kernel, rfl⟩
theorem dX12_beside_121 : q_at cX12_beside 121 (.iload_n 2) 1 122 := ⟨by decide +kernel, rfl⟩
theorem dX12_beside_122 : q_at cX12_beside 122 (.invokevirtual 369) 3 125 := ⟨by decide +kernel, rfl⟩
theorem dX12_beside_125 : q_at cX12_beside 125 (.istore 4) 2 127 := ⟨by decide +kernel, rfl⟩
theorem dX12_beside_127 : q_at cX12_beside 127 (.aload_n 0) 1 128 := ⟨by decide +kernel, rfl⟩
theorem dX12_beside_128 : q_at cX12_beside 128 (.aload_n 0) 1 129 := ⟨by decide +kernel, rfl⟩
theorem dX12_beside_129 : q_at cX12_beside 129 (.getfield 16) 3 132 := ⟨by decide +kernel, rfl⟩
theorem dX12_beside_132 : q_at cX12_beside 132 (.aload_n 0) 1 133 := ⟨by decide +kernel, rfl⟩
theorem dX12_beside_133 : q_at cX12_beside 133 (.getfield 7) 3 136 := ⟨by decide +kernel, rfl⟩
theorem dX12_beside_136 : q_at cX12_beside 136 (.invokevirtual 365) 3 139 := ⟨by decide +kernel, rfl⟩
theorem dX12_beside_139 : q_at cX12_beside 139 (.iload 4) 2 141 := ⟨by decide +kernel, rfl⟩
theorem dX12_beside_141 : q_at cX12_beside 141 (.iload_n 3) 1 142 := ⟨by decide +kernel, rfl⟩
theorem dX12_beside_142 : q_at cX12_beside 142 (.isub) 1 143 := ⟨by decide +kernel, rfl⟩
theorem dX12_beside_143 : q_at cX12_beside 143 (.ireturn) 1 144 := ⟨by decide +kernel, rfl⟩
theorem dX12_rowsOfDays_0 : q_at cX12_rowsOfDays 0 (.iload_n 1) 1 1 := ⟨by decide +kernel, rfl⟩
theorem dX12_rowsOfDays_1 : q_at cX12_rowsOfDays 1 (.i2l) 1 2 := ⟨by decide +kernel, rfl⟩
theorem dX12_rowsOfDays_2 : q_at cX12_rowsOfDays 2 (.lconst 1) 1 3 := ⟨by decide +kernel, rfl⟩
theorem dX12_rowsOfDays_3 : q_at cX12_rowsOfDays 3 (.ldc2_w 440) 3 6 := ⟨by decide +kernel, rfl⟩
theorem dX12_rowsOfDays_6 : q_at cX12_rowsOfDays 6 (.invokestatic 64) 3 9 := ⟨by decide +kernel, rfl⟩
theorem dX12_rowsOfDays_9 : q_at cX12_rowsOfDays 9 (.ifCond .ne 6) 3 12 := ⟨by decide +kernel, rfl⟩
theorem dX12_rowsOfDays_12 : q_at cX12_rowsOfDays 12 (.ldc 90) 2 14 := ⟨by decide +kernel, rfl⟩
theorem dX12_rowsOfDays_14 : q_at cX12_rowsOfDays 14 (.ireturn) 1 15 := ⟨by decide +kernel, rfl⟩
theorem dX12_rowsOfDays_15 : q_at cX12_rowsOfDays 15 (.aload_n 0) 1 16 := ⟨by decide +kernel, rfl⟩
theorem dX12_rowsOfDays_16 : q_at cX12_rowsOfDays 16 (.getfield 442) 3 19 := ⟨by decide +kernel, rfl⟩
theorem dX12_rowsOfDays_19 : q_at cX12_rowsOfDays 19 (.ifCond .ne 7) 3 22 := ⟨by decide +kernel, rfl⟩
theorem dX12_rowsOfDays_22 : q_at cX12_rowsOfDays 22 (.ldc_w 346) 3 25 := ⟨by decide +kernel, rfl⟩
theorem dX12_rowsOfDays_25 : q_at cX12_rowsOfDays 25 (.ireturn) 1 26 := ⟨by decide +kernel, rfl⟩
theorem dX12_rowsOfDays_26 : q_at cX12_rowsOfDays 26 (.aload_n 0) 1 27 := ⟨by decide +kernel, rfl⟩
theorem dX12_rowsOfDays_27 : q_at cX12_rowsOfDays 27 (.aload_n 0) 1 28 := ⟨by decide +kernel, rfl⟩
theorem dX12_rowsOfDays_28 : q_at cX12_rowsOfDays 28 (.getfield 7) 3 31 := ⟨by decide +kernel, rfl⟩
theorem dX12_rowsOfDays_31 : q_at cX12_rowsOfDays 31 (.aload_n 0) 1 32 := ⟨by decide +kernel, rfl⟩
theorem dX12_rowsOfDays_32 : q_at cX12_rowsOfDays 32 (.getfield 16) 3 35 := ⟨by decide +kernel, rfl⟩
theorem dX12_rowsOfDays_35 : q_at cX12_rowsOfDays 35 (.invokevirtual 365) 3 38 := ⟨by decide +kernel, rfl⟩
theorem dX12_rowsOfDays_38 : q_at cX12_rowsOfDays 38 (.aload_n 0) 1 39 := ⟨by decide +kernel, rfl⟩
theorem dX12_rowsOfDays_39 : q_at cX12_rowsOfDays 39 (.aload_n 0) 1 40 := ⟨by decide +kernel, rfl⟩
theorem dX12_rowsOfDays_40 : q_at cX12_rowsOfDays 40 (.getfield 13) 3 43 := ⟨by decide +kernel, rfl⟩
theorem dX12_rowsOfDays_43 : q_at cX12_rowsOfDays 43 (.aload_n 0) 1 44 := ⟨by decide +kernel, rfl⟩
theorem dX12_rowsOfDays_44 : q_at cX12_rowsOfDays 44 (.getfield 7) 3 47 := ⟨by decide +kernel, rfl⟩
theorem dX12_rowsOfDays_47 : q_at cX12_rowsOfDays 47 (.invokevirtual 365) 3 50 := ⟨by decide +kernel, rfl⟩
theorem dX12_rowsOfDays_50 : q_at cX12_rowsOfDays 50 (.iconst 0) 1 51 := ⟨by decide +kernel, rfl⟩
theorem dX12_rowsOfDays_51 : q_at cX12_rowsOfDays 51 (.istore_n 2) 1 52 := ⟨by decide +kernel, rfl⟩
theorem dX12_rowsOfDays_52 : q_at cX12_rowsOfDays 52 (.iload_n 2) 1 53 := ⟨by decide +kernel, rfl⟩
theorem dX12_rowsOfDays_53 : q_at cX12_rowsOfDays 53 (.iload_n 1) 1 54 := ⟨by decide +kernel, rfl⟩
theorem dX12_rowsOfDays_54 : q_at cX12_rowsOfDays 54 (.if_icmp .ge 26) 3 57 := ⟨by decide +kernel, rfl⟩
theorem dX12_rowsOfDays_57 : q_at cX12_rowsOfDays 57 (.aload_n 0) 1 58 := ⟨by decide +kernel, rfl⟩
theorem dX12_rowsOfDays_58 : q_at cX12_rowsOfDays 58 (.invokevirtual 212) 3 61 := ⟨by decide +kernel, rfl⟩
theorem dX12_rowsOfDays_61 : q_at cX12_rowsOfDays 61 (.aload_n 0) 1 62 := ⟨by decide +kernel, rfl⟩
theorem dX12_rowsOfDays_62 : q_at cX12_rowsOfDays 62 (.aload_n 0) 1 63 := ⟨by decide +kernel, rfl⟩
theorem dX12_rowsOfDays_63 : q_at cX12_rowsOfDays 63 (.invokevirtual 445) 3 66 := ⟨by decide +kernel, rfl⟩
theorem dX12_rowsOfDays_66 : q_at cX12_rowsOfDays 66 (.aload_n 0) 1 67 := ⟨by decide +kernel, rfl⟩
theorem dX12_rowsOfDays_67 : q_at cX12_rowsOfDays 67 (.iconst 0) 1 68 := ⟨by decide +kernel, rfl⟩
theorem dX12_rowsOfDays_68 : q_at cX12_rowsOfDays 68 (.invokevirtual 369) 3 71 := ⟨by decide +kernel, rfl⟩
theorem dX12_rowsOfDays_71 : q_at cX12_rowsOfDays 71 (.invokevirtual 437) 3 74 := ⟨by decide +kernel, rfl⟩
theorem dX12_rowsOfDays_74 : q_at cX12_rowsOfDays 74 (.iinc 2 1) 3 77 := ⟨by decide +kernel, rfl⟩
theorem dX12_rowsOfDays_77 : q_at cX12_rowsOfDays 77 (.goto (-25)) 3 80 := ⟨by decide +kernel, rfl⟩
theorem dX12_rowsOfDays_80 : q_at cX12_rowsOfDays 80 (.aload_n 0) 1 81 := ⟨by decide +kernel, rfl⟩
theorem dX12_rowsOfDays_81 : q_at cX12_rowsOfDays 81 (.aload_n 0) 1 82 := ⟨by decide +kernel, rfl⟩
theorem dX12_rowsOfDays_82 : q_at cX12_rowsOfDays 82 (.getfield 16) 3 85 := ⟨by decide +kernel, rfl⟩
theorem dX12_rowsOfDays_85 : q_at cX12_rowsOfDays 85 (.aload_n 0) 1 86 := ⟨by decide +kernel, rfl⟩
theorem dX12_rowsOfDays_86 : q_at cX12_rowsOfDays 86 (.getfield 7) 3 89 := ⟨by decide +kernel, rfl⟩
theorem dX12_rowsOfDays_89 : q_at cX12_rowsOfDays 89 (.invokevirtual 365) 3 92 := ⟨by decide +kernel, rfl⟩
theorem dX12_rowsOfDays_92 : q_at cX12_rowsOfDays 92 (.iconst 0) 1 93 := ⟨by decide +kernel, rfl⟩
theorem dX12_rowsOfDays_93 : q_at cX12_rowsOfDays 93 (.ireturn) 1 94 := ⟨by decide +kernel, rfl⟩
theorem dX12_run_0 : q_at cX12_run 0 (.iload_n 1) 1 1 := ⟨by decide +kernel, rfl⟩
theorem dX12_run_1 : q_at cX12_run 1 (.i2l) 1 2 := ⟨by decide +kernel, rfl⟩
theorem dX12_run_2 : q_at cX12_run 2 (.lconst 1) 1 3 := ⟨by decide +kernel, rfl⟩
theorem dX12_run_3 : q_at cX12_run 3 (.ldc2_w 210) 3 6 := ⟨by decide +kernel, rfl⟩
theorem dX12_run_6 : q_at cX12_run 6 (.invokestatic 64) 3 9 := ⟨by decide +kernel, rfl⟩
theorem dX12_run_9 : q_at cX12_run 9 (.ifCond .ne 6) 3 12 := ⟨by decide +kernel, rfl⟩
theorem dX12_run_12 : q_at cX12_run 12 (.ldc 90) 2 14 := ⟨by decide +kernel, rfl⟩
theorem dX12_run_14 : q_at cX12_run 14 (.ireturn) 1 15 := ⟨by decide +kernel, rfl⟩
theorem dX12_run_15 : q_at cX12_run 15 (.aload_n 0) 1 16 := ⟨by decide +kernel, rfl⟩
theorem dX12_run_16 : q_at cX12_run 16 (.getfield 7) 3 19 := ⟨by decide +kernel, rfl⟩
theorem dX12_run_19 : q_at cX12_run 19 (.iconst 0) 1 20 := ⟨by decide +kernel, rfl⟩
theorem dX12_run_20 : q_at cX12_run 20 (.iaload) 1 21 := ⟨by decide +kernel, rfl⟩
theorem dX12_run_21 : q_at cX12_run 21 (.iload_n 1) 1 22 := ⟨by decide +kernel, rfl⟩
theorem dX12_run_22 : q_at cX12_run 22 (.iadd) 1 23 := ⟨by decide +kernel, rfl⟩
theorem dX12_run_23 : q_at cX12_run 23 (.sipush 6999) 3 26 := ⟨by decide +kernel, rfl⟩
theorem dX12_run_26 : q_at cX12_run 26 (.if_icmp .le 6) 3 29 := ⟨by decide +kernel, rfl⟩
theorem dX12_run_29 : q_at cX12_run 29 (.ldc 98) 2 31 := ⟨by decide +kernel, rfl⟩
theorem dX12_run_31 : q_at cX12_run 31 (.ireturn) 1 32 := ⟨by decide +kernel, rfl⟩
theorem dX12_run_32 : q_at cX12_run 32 (.iconst 0) 1 33 := ⟨by decide +kernel, rfl⟩
theorem dX12_run_33 : q_at cX12_run 33 (.istore_n 2) 1 34 := ⟨by decide +kernel, rfl⟩
theorem dX12_run_34 : q_at cX12_run 34 (.iload_n 2) 1 35 := ⟨by decide +kernel, rfl⟩
theorem dX12_run_35 : q_at cX12_run 35 (.iload_n 1) 1 36 := ⟨by decide +kernel, rfl⟩
theorem dX12_run_36 : q_at cX12_run 36 (.if_icmp .ge 13) 3 39 := ⟨by decide +kernel, rfl⟩
theorem dX12_run_39 : q_at cX12_run 39 (.aload_n 0) 1 40 := ⟨by decide +kernel, rfl⟩
theorem dX12_run_40 : q_at cX12_run 40 (.invokevirtual 212) 3 43 := ⟨by decide +kernel, rfl⟩
theorem dX12_run_43 : q_at cX12_run 43 (.iinc 2 1) 3 46 := ⟨by decide +kernel, rfl⟩
theorem dX12_run_46 : q_at cX12_run 46 (.goto (-12)) 3 49 := ⟨by decide +kernel, rfl⟩
theorem dX12_run_49 : q_at cX12_run 49 (.aload_n 0) 1 50 := ⟨by decide +kernel, rfl⟩
theorem dX12_run_50 : q_at cX12_run 50 (.getfield 7) 3 53 := ⟨by decide +kernel, rfl⟩
theorem dX12_run_53 : q_at cX12_run 53 (.iconst 0) 1 54 := ⟨by decide +kernel, rfl⟩
theorem dX12_run_54 : q_at cX12_run 54 (.iaload) 1 55 := ⟨by decide +kernel, rfl⟩
theorem dX12_run_55 : q_at cX12_run 55 (.ireturn) 1 56 := ⟨by decide +kernel, rfl⟩
theorem dX12_seek_0 : q_at cX12_seek 0 (.iload_n 1) 1 1 := ⟨by decide +kernel, rfl⟩
theorem dX12_seek_1 : q_at cX12_seek 1 (.aload_n 0) 1 2 := ⟨by decide +kernel, rfl⟩
theorem dX12_seek_2 : q_at cX12_seek 2 (.getfield 7) 3 5 := ⟨by decide +kernel, rfl⟩
theorem dX12_seek_5 : q_at cX12_seek 5 (.bipush 6) 2 7 := ⟨by decide +kernel, rfl⟩
theorem dX12_seek_7 : q_at cX12_seek 7 (.iaload) 1 8 := ⟨by decide +kernel, rfl⟩
theorem dX12_seek_8 : q_at cX12_seek 8 (.if_icmp .ne 67) 3 11 := ⟨by decide +kernel, rfl⟩
theorem dX12_seek_11 : q_at cX12_seek 11 (.aload_n 0) 1 12 := ⟨by decide +kernel, rfl⟩
theorem dX12_seek_12 : q_at cX12_seek 12 (.getfield 409) 3 15 := ⟨by decide +kernel, rfl⟩
theorem dX12_seek_15 : q_at cX12_seek 15 (.ifCond .lt 11) 3 18 := ⟨by decide +kernel, rfl⟩
theorem dX12_seek_18 : q_at cX12_seek 18 (.iload_n 3) 1 19 := ⟨by decide +kernel, rfl⟩
theorem dX12_seek_19 : q_at cX12_seek 19 (.aload_n 0) 1 20 := ⟨by decide +kernel, rfl⟩
theorem dX12_seek_20 : q_at cX12_seek 20 (.getfield 409) 3 23 := ⟨by decide +kernel, rfl⟩
theorem dX12_seek_23 : q_at cX12_seek 23 (.if_icmp .ge 51) 3 26 := ⟨by decide +kernel, rfl⟩
theorem dX12_seek_26 : q_at cX12_seek 26 (.aload_n 0) 1 27 := ⟨by decide +kernel, rfl⟩
theorem dX12_seek_27 : q_at cX12_seek 27 (.iload_n 3) 1 28 := ⟨by decide +kernel, rfl⟩
theorem dX12_seek_28 : q_at cX12_seek 28 (.putfield 409) 3 31 := ⟨by decide +kernel, rfl⟩
theorem dX12_seek_31 : q_at cX12_seek 31 (.iconst 0) 1 32 := ⟨by decide +kernel, rfl⟩
theorem dX12_seek_32 : q_at cX12_seek 32 (.istore 6) 2 34 := ⟨by decide +kernel, rfl⟩
theorem dX12_seek_34 : q_at cX12_seek 34 (.iload 6) 2 36 := ⟨by decide +kernel, rfl⟩
theorem dX12_seek_36 : q_at cX12_seek 36 (.iload_n 1) 1 37 := ⟨by decide +kernel, rfl⟩
theorem dX12_seek_37 : q_at cX12_seek 37 (.if_icmp .ge 37) 3 40 := ⟨by decide +kernel, rfl⟩
theorem dX12_seek_40 : q_at cX12_seek 40 (.aload_n 0) 1 41 := ⟨by decide +kernel, rfl⟩
theorem dX12_seek_41 : q_at cX12_seek 41 (.getfield 49) 3 44 := ⟨by decide +kernel, rfl⟩
theorem dX12_seek_44 : q_at cX12_seek 44 (.iload 6) 2 46 := ⟨by decide +kernel, rfl⟩
theorem dX12_seek_46 : q_at cX12_seek 46 (.aload_n 0) 1 47 := ⟨by decide +kernel, rfl⟩
theorem dX12_seek_47 : q_at cX12_seek 47 (.getfield 43) 3 50 := ⟨by decide +kernel, rfl⟩
theorem dX12_seek_50 : q_at cX12_seek 50 (.iload 6) 2 52 := ⟨by decide +kernel, rfl⟩
theorem dX12_seek_52 : q_at cX12_seek 52 (.iaload) 1 53 := ⟨by decide +kernel, rfl⟩
theorem dX12_seek_53 : q_at cX12_seek 53 (.iastore) 1 54 := ⟨by decide +kernel, rfl⟩
theorem dX12_seek_54 : q_at cX12_seek 54 (.aload_n 0) 1 55 := ⟨by decide +kernel, rfl⟩
theorem dX12_seek_55 : q_at cX12_seek 55 (.getfield 52) 3 58 := ⟨by decide +kernel, rfl⟩
theorem dX12_seek_58 : q_at cX12_seek 58 (.iload 6) 2 60 := ⟨by decide +kernel, rfl⟩
theorem dX12_seek_60 : q_at cX12_seek 60 (.aload_n 0) 1 61 := ⟨by decide +kernel, rfl⟩
theorem dX12_seek_61 : q_at cX12_seek 61 (.getfield 46) 3 64 := ⟨by decide +kernel, rfl⟩
theorem dX12_seek_64 : q_at cX12_seek 64 (.iload 6) 2 66 := ⟨by decide +kernel, rfl⟩
theorem dX12_seek_66 : q_at cX12_seek 66 (.iaload) 1 67 := ⟨by decide +kernel, rfl⟩
theorem dX12_seek_67 : q_at cX12_seek 67 (.iastore) 1 68 := ⟨by decide +kernel, rfl⟩
theorem dX12_seek_68 : q_at cX12_seek 68 (.iinc 6 1) 3 71 := ⟨by decide +kernel, rfl⟩
theorem dX12_seek_71 : q_at cX12_seek 71 (.goto (-37)) 3 74 := ⟨by decide +kernel, rfl⟩
theorem dX12_seek_74 : q_at cX12_seek 74 (.return_) 1 75 := ⟨by decide +kernel, rfl⟩
theorem dX12_seek_75 : q_at cX12_seek 75 (.iconst 0) 1 76 := ⟨by decide +kernel, rfl⟩
theorem dX12_seek_76 : q_at cX12_seek 76 (.istore 6) 2 78 := ⟨by decide +kernel, rfl⟩
theorem dX12_seek_78 : q_at cX12_seek 78 (.iload 6) 2 80 := ⟨by decide +kernel, rfl⟩
theorem dX12_seek_80 : q_at cX12_seek 80 (.aload_n 0) 1 81 := ⟨by decide +kernel, rfl⟩
theorem dX12_seek_81 : q_at cX12_seek 81 (.getfield 7) 3 84 := ⟨by decide +kernel, rfl⟩
theorem dX12_seek_84 : q_at cX12_seek 84 (.bipush 6) 2 86 := ⟨by decide +kernel, rfl⟩
theorem dX12_seek_86 : q_at cX12_seek 86 (.iaload) 1 87 := ⟨by decide +kernel, rfl⟩
theorem dX12_seek_87 : q_at cX12_seek 87 (.if_icmp .ge 194) 3 90 := ⟨by decide +kernel, rfl⟩
theorem dX12_seek_90 : q_at cX12_seek 90 (.aload_n 0) 1 91 := ⟨by decide +kernel, rfl⟩
theorem dX12_seek_91 : q_at cX12_seek 91 (.getfield 412) 3 94 := ⟨by decide +kernel, rfl⟩
theorem dX12_seek_94 : q_at cX12_seek 94 (.ifCond .ne 187) 3 97 := ⟨by decide +kernel, rfl⟩
theorem dX12_seek_97 : q_at cX12_seek 97 (.sipush 3350) 3 100 := ⟨by decide +kernel, rfl⟩
theorem dX12_seek_100 : q_at cX12_seek 100 (.iconst 3) 1 101 := ⟨by decide +kernel, rfl⟩
theorem dX12_seek_101 : q_at cX12_seek 101 (.iload 6) 2 103 := ⟨by decide +kernel, rfl⟩
theorem dX12_seek_103 : q_at cX12_seek 103 (.imul) 1 104 := ⟨by decide +kernel, rfl⟩
theorem dX12_seek_104 : q_at cX12_seek 104 (.iadd) 1 105 := ⟨by decide +kernel, rfl⟩
theorem dX12_seek_105 : q_at cX12_seek 105 (.istore 7) 2 107 := ⟨by decide +kernel, rfl⟩
theorem dX12_seek_107 : q_at cX12_seek 107 (.iload_n 2) 1 108 := ⟨by decide +kernel, rfl⟩
theorem dX12_seek_108 : q_at cX12_seek 108 (.iload 6) 2 110 := ⟨by decide +kernel, rfl⟩
theorem dX12_seek_110 : q_at cX12_seek 110 (.ishr) 1 111 := ⟨by decide +kernel, rfl⟩
theorem dX12_seek_111 : q_at cX12_seek 111 (.iconst 1) 1 112 := ⟨by decide +kernel, rfl⟩
theorem dX12_seek_112 : q_at cX12_seek 112 (.iand) 1 113 := ⟨by decide +kernel, rfl⟩
theorem dX12_seek_113 : q_at cX12_seek 113 (.iconst 1) 1 114 := ⟨by decide +kernel, rfl⟩
theorem dX12_seek_114 : q_at cX12_seek 114 (.if_icmp .eq 161) 3 117 := ⟨by decide +kernel, rfl⟩
theorem dX12_seek_117 : q_at cX12_seek 117 (.aload_n 0) 1 118 := ⟨by decide +kernel, rfl⟩
theorem dX12_seek_118 : q_at cX12_seek 118 (.getfield 7) 3 121 := ⟨by decide +kernel, rfl⟩
theorem dX12_seek_121 : q_at cX12_seek 121 (.iload 7) 2 123 := ⟨by decide +kernel, rfl⟩
theorem dX12_seek_123 : q_at cX12_seek 123 (.iconst 2) 1 124 := ⟨by decide +kernel, rfl⟩
theorem dX12_seek_124 : q_at cX12_seek 124 (.iadd) 1 125 := ⟨by decide +kernel, rfl⟩
theorem dX12_seek_125 : q_at cX12_seek 125 (.iaload) 1 126 := ⟨by decide +kernel, rfl⟩
theorem dX12_seek_126 : q_at cX12_seek 126 (.iload_n 2) 1 127 := ⟨by decide +kernel, rfl⟩
theorem dX12_seek_127 : q_at cX12_seek 127 (.iconst (-1)) 1 128 := ⟨by decide +kernel, rfl⟩
theorem dX12_seek_128 : q_at cX12_seek 128 (.ixor) 1 129 := ⟨by decide +kernel, rfl⟩
theorem dX12_seek_129 : q_at cX12_seek 129 (.iand) 1 130 := ⟨by decide +kernel, rfl⟩
theorem dX12_seek_130 : q_at cX12_seek 130 (.ifCond .eq 6) 3 133 := ⟨by decide +kernel, rfl⟩
theorem dX12_seek_133 : q_at cX12_seek 133 (.goto 142) 3 136 := ⟨by decide +kernel, rfl⟩
theorem dX12_seek_136 : q_at cX12_seek 136 (.aload_n 0) 1 137 := ⟨by decide +kernel, rfl⟩
theorem dX12_seek_137 : q_at cX12_seek 137 (.aload_n 0) 1 138 := ⟨by decide +kernel, rfl⟩
theorem dX12_seek_138 : q_at cX12_seek 138 (.getfield 415) 3 141 := ⟨by decide +kernel, rfl⟩
theorem dX12_seek_141 : q_at cX12_seek 141 (.ifCond .ne 7) 3 144 := ⟨by decide +kernel, rfl⟩
theorem dX12_seek_144 : q_at cX12_seek 144 (.iconst 1) 1 145 := ⟨by decide +kernel, rfl⟩
theorem dX12_seek_145 : q_at cX12_seek 145 (.goto 4) 3 148 := ⟨by decide +kernel, rfl⟩
theorem dX12_seek_148 : q_at cX12_seek 148 (.iconst 0) 1 149 := ⟨by decide +kernel, rfl⟩
theorem dX12_seek_149 : q_at cX12_seek 149 (.putfield 412) 3 152 := ⟨by decide +kernel, rfl⟩
theorem dX12_seek_152 : q_at cX12_seek 152 (.aload_n 0) 1 153 := ⟨by decide +kernel, rfl⟩
theorem dX12_seek_153 : q_at cX12_seek 153 (.getfield 412) 3 156 := ⟨by decide +kernel, rfl⟩
theorem dX12_seek_156 : q_at cX12_seek 156 (.ifCond .eq 4) 3 159 := ⟨by decide +kernel, rfl⟩
theorem dX12_seek_159 : q_at cX12_seek 159 (.return_) 1 160 := ⟨by decide +kernel, rfl⟩
theorem dX12_seek_160 : q_at cX12_seek 160 (.aload_n 0) 1 161 := ⟨by decide +kernel, rfl⟩
theorem dX12_seek_161 : q_at cX12_seek 161 (.dup) 1 162 := ⟨by decide +kernel, rfl⟩
theorem dX12_seek_162 : q_at cX12_seek 162 (.getfield 415) 3 165 := ⟨by decide +kernel, rfl⟩
theorem dX12_seek_165 : q_at cX12_seek 165 (.iconst 1) 1 166 := ⟨by decide +kernel, rfl⟩
theorem dX12_seek_166 : q_at cX12_seek 166 (.isub) 1 167 := ⟨by decide +kernel, rfl⟩
theorem dX12_seek_167 : q_at cX12_seek 167 (.putfield 415) 3 170 := ⟨by decide +kernel, rfl⟩
theorem dX12_seek_170 : q_at cX12_seek 170 (.iload_n 3) 1 171 := ⟨by decide +kernel, rfl⟩
theorem dX12_seek_171 : q_at cX12_seek 171 (.istore 8) 2 173 := ⟨by decide +kernel, rfl⟩
theorem dX12_seek_173 : q_at cX12_seek 173 (.iload 4) 2 175 := ⟨by decide +kernel, rfl⟩
theorem dX12_seek_175 : q_at cX12_seek 175 (.istore 9) 2 177 := ⟨by decide +kernel, rfl⟩
theorem dX12_seek_177 : q_at cX12_seek 177 (.iload 9) 2 179 := ⟨by decide +kernel, rfl⟩
theorem dX12_seek_179 : q_at cX12_seek 179 (.aload_n 0) 1 180 := ⟨by decide +kernel, rfl⟩
theorem dX12_seek_180 : q_at cX12_seek 180 (.getfield 7) 3 183 := ⟨by decide +kernel, rfl⟩
theorem dX12_seek_183 : q_at cX12_seek 183 (.iload 7) 2 185 := ⟨by decide +kernel, rfl⟩
theorem dX12_seek_185 : q_at cX12_seek 185 (.iaload) 1 186 := ⟨by decide +kernel, rfl⟩
theorem dX12_seek_186 : q_at cX12_seek 186 (.if_icmp .ge 24) 3 189 := ⟨by decide +kernel, rfl⟩
theorem dX12_seek_189 : q_at cX12_seek 189 (.iload 8) 2 191 := ⟨by decide +kernel, rfl⟩
theorem dX12_seek_191 : q_at cX12_seek 191 (.sipush 999) 3 194 := ⟨by decide +kernel, rfl⟩
theorem dX12_seek_194 : q_at cX12_seek 194 (.if_icmp .ge 16) 3 197 := ⟨by decide +kernel, rfl⟩
theorem dX12_seek_197 : q_at cX12_seek 197 (.iinc 8 1) 3 200 := ⟨by decide +kernel, rfl⟩
theorem dX12_seek_200 : q_at cX12_seek 200 (.iload 9) 2 202 := ⟨by decide +kernel, rfl⟩
theorem dX12_seek_202 : q_at cX12_seek 202 (.iload 5) 2 204 := ⟨by decide +kernel, rfl⟩
theorem dX12_seek_204 : q_at cX12_seek 204 (.iadd) 1 205 := ⟨by decide +kernel, rfl⟩
theorem dX12_seek_205 : q_at cX12_seek 205 (.istore 9) 2 207 := ⟨by decide +kernel, rfl⟩
theorem dX12_seek_207 : q_at cX12_seek 207 (.goto (-30)) 3 210 := ⟨by decide +kernel, rfl⟩
theorem dX12_seek_210 : q_at cX12_seek 210 (.iload 9) 2 212 := ⟨by decide +kernel, rfl⟩
theorem dX12_seek_212 : q_at cX12_seek 212 (.aload_n 0) 1 213 := ⟨by decide +kernel, rfl⟩
theorem dX12_seek_213 : q_at cX12_seek 213 (.getfield 7) 3 216 := ⟨by decide +kernel, rfl⟩
theorem dX12_seek_216 : q_at cX12_seek 216 (.iload 7) 2 218 := ⟨by decide +kernel, rfl⟩
theorem dX12_seek_218 : q_at cX12_seek 218 (.iaload) 1 219 := ⟨by decide +kernel, rfl⟩
theorem dX12_seek_219 : q_at cX12_seek 219 (.if_icmp .lt 56) 3 222 := ⟨by decide +kernel, rfl⟩
theorem dX12_seek_222 : q_at cX12_seek 222 (.aload_n 0) 1 223 := ⟨by decide +kernel, rfl⟩
theorem dX12_seek_223 : q_at cX12_seek 223 (.getfield 43) 3 226 := ⟨by decide +kernel, rfl⟩
theorem dX12_seek_226 : q_at cX12_seek 226 (.iload_n 1) 1 227 := ⟨by decide +kernel, rfl⟩
theorem dX12_seek_227 : q_at cX12_seek 227 (.iload 6) 2 229 := ⟨by decide +kernel, rfl⟩
theorem dX12_seek_229 : q_at cX12_seek 229 (.iastore) 1 230 := ⟨by decide +kernel, rfl⟩
theorem dX12_seek_230 : q_at cX12_seek 230 (.aload_n 0) 1 231 := ⟨by decide +kernel, rfl⟩
theorem dX12_seek_231 : q_at cX12_seek 231 (.getfield 46) 3 234 := ⟨by decide +kernel, rfl⟩
theorem dX12_seek_234 : q_at cX12_seek 234 (.iload_n 1) 1 235 := ⟨by decide +kernel, rfl⟩
theorem dX12_seek_235 : q_at cX12_seek 235 (.iload 8) 2 237 := ⟨by decide +kernel, rfl⟩
theorem dX12_seek_237 : q_at cX12_seek 237 (.iastore) 1 238 := ⟨by decide +kernel, rfl⟩
theorem dX12_seek_238 : q_at cX12_seek 238 (.aload_n 0) 1 239 := ⟨by decide +kernel, rfl⟩
theorem dX12_seek_239 : q_at cX12_seek 239 (.iload_n 1) 1 240 := ⟨by decide +kernel, rfl⟩
theorem dX12_seek_240 : q_at cX12_seek 240 (.iconst 1) 1 241 := ⟨by decide +kernel, rfl⟩
theorem dX12_seek_241 : q_at cX12_seek 241 (.iadd) 1 242 := ⟨by decide +kernel, rfl⟩
theorem dX12_seek_242 : q_at cX12_seek 242 (.iload_n 2) 1 243 := ⟨by decide +kernel, rfl⟩
theorem dX12_seek_243 : q_at cX12_seek 243 (.iconst 1) 1 244 := ⟨by decide +kernel, rfl⟩
theorem dX12_seek_244 : q_at cX12_seek 244 (.iload 6) 2 246 := ⟨by decide +kernel, rfl⟩
theorem dX12_seek_246 : q_at cX12_seek 246 (.ishl) 1 247 := ⟨by decide +kernel, rfl⟩
theorem dX12_seek_247 : q_at cX12_seek 247 (.ior) 1 248 := ⟨by decide +kernel, rfl⟩
theorem dX12_seek_248 : q_at cX12_seek 248 (.iload 8) 2 250 := ⟨by decide +kernel, rfl⟩
theorem dX12_seek_250 : q_at cX12_seek 250 (.iload 9) 2 252 := ⟨by decide +kernel, rfl⟩
theorem dX12_seek_252 : q_at cX12_seek 252 (.aload_n 0) 1 253 := ⟨by decide +kernel, rfl⟩
theorem dX12_seek_253 : q_at cX12_seek 253 (.getfield 7) 3 256 := ⟨by decide +kernel, rfl⟩
theorem dX12_seek_256 : q_at cX12_seek 256 (.iload 7) 2 258 := ⟨by decide +kernel, rfl⟩
theorem dX12_seek_258 : q_at cX12_seek 258 (.iaload) 1 259 := ⟨by decide +kernel, rfl⟩
theorem dX12_seek_259 : q_at cX12_seek 259 (.isub) 1 260 := ⟨by decide +kernel, rfl⟩
theorem dX12_seek_260 : q_at cX12_seek 260 (.iload 5) 2 262 := ⟨by decide +kernel, rfl⟩
theorem dX12_seek_262 : q_at cX12_seek 262 (.aload_n 0) 1 263 := ⟨by decide +kernel, rfl⟩
theorem dX12_seek_263 : q_at cX12_seek 263 (.getfield 7) 3 266 := ⟨by decide +kernel, rfl⟩
theorem dX12_seek_266 : q_at cX12_seek 266 (.iload 7) 2 268 := ⟨by decide +kernel, rfl⟩
theorem dX12_seek_268 : q_at cX12_seek 268 (.iconst 1) 1 269 := ⟨by decide +kernel, rfl⟩
theorem dX12_seek_269 : q_at cX12_seek 269 (.iadd) 1 270 := ⟨by decide +kernel, rfl⟩
theorem dX12_seek_270 : q_at cX12_seek 270 (.iaload) 1 271 := ⟨by decide +kernel, rfl⟩
theorem dX12_seek_271 : q_at cX12_seek 271 (.iadd) 1 272 := ⟨by decide +kernel, rfl⟩
theorem dX12_seek_272 : q_at cX12_seek 272 (.invokevirtual 418) 3 275 := ⟨by decide +kernel, rfl⟩
theorem dX12_seek_275 : q_at cX12_seek 275 (.iinc 6 1) 3 278 := ⟨by decide +kernel, rfl⟩
theorem dX12_seek_278 : q_at cX12_seek 278 (.goto (-200)) 3 281 := ⟨by decide +kernel, rfl⟩
theorem dX12_seek_281 : q_at cX12_seek 281 (.return_) 1 282 := ⟨by decide +kernel, rfl⟩
theorem dX12_findOrder_0 : q_at cX12_findOrder 0 (.aload_n 0) 1 1 := ⟨by decide +kernel, rfl⟩
theorem dX12_findOrder_1 : q_at cX12_findOrder 1 (.iconst (-1)) 1 2 := ⟨by decide +kernel, rfl⟩
theorem dX12_findOrder_2 : q_at cX12_findOrder 2 (.putfield 409) 3 5 := ⟨by decide +kernel, rfl⟩
theorem dX12_findOrder_5 : q_at cX12_findOrder 5 (.aload_n 0) 1 6 := ⟨by decide +kernel, rfl⟩
theorem dX12_findOrder_6 : q_at cX12_findOrder 6 (.iload_n 3) 1 7 := ⟨by decide +kernel, rfl⟩
theorem dX12_findOrder_7 : q_at cX12_findOrder 7 (.putfield 415) 3 10 := ⟨by decide +kernel, rfl⟩
theorem dX12_findOrder_10 : q_at cX12_findOrder 10 (.aload_n 0) 1 11 := ⟨by decide +kernel, rfl⟩
theorem dX12_findOrder_11 : q_at cX12_findOrder 11 (.iconst 0) 1 12 := ⟨by decide +kernel, rfl⟩
theorem dX12_findOrder_12 : q_at cX12_findOrder 12 (.putfield 412) 3 15 := ⟨by decide +kernel, rfl⟩
theorem dX12_findOrder_15 : q_at cX12_findOrder 15 (.aload_n 0) 1 16 := ⟨by decide +kernel, rfl⟩
theorem dX12_findOrder_16 : q_at cX12_findOrder 16 (.iconst 0) 1 17 := ⟨by decide +kernel, rfl⟩
theorem dX12_findOrder_17 : q_at cX12_findOrder 17 (.iconst 0) 1 18 := ⟨by decide +kernel, rfl⟩
theorem dX12_findOrder_18 : q_at cX12_findOrder 18 (.iconst 0) 1 19 := ⟨by decide +kernel, rfl⟩
theorem dX12_findOrder_19 : q_at cX12_findOrder 19 (.iload_n 1) 1 20 := ⟨by decide +kernel, rfl⟩
theorem dX12_findOrder_20 : q_at cX12_findOrder 20 (.iload_n 2) 1 21 := ⟨by decide +kernel, rfl⟩
theorem dX12_findOrder_21 : q_at cX12_findOrder 21 (.invokevirtual 418) 3 24 := ⟨by decide +kernel, rfl⟩
theorem dX12_findOrder_24 : q_at cX12_findOrder 24 (.aload_n 0) 1 25 := ⟨by decide +kernel, rfl⟩
theorem dX12_findOrder_25 : q_at cX12_findOrder 25 (.getfield 412) 3 28 := ⟨by decide +kernel, rfl⟩
theorem dX12_findOrder_28 : q_at cX12_findOrder 28 (.ifCond .eq 9) 3 31 := ⟨by decide +kernel, rfl⟩
theorem dX12_findOrder_31 : q_at cX12_findOrder 31 (.ldc_w 422) 3 34 := ⟨by decide +kernel, rfl⟩
theorem dX12_findOrder_34 : q_at cX12_findOrder 34 (.goto 20) 3 37 := ⟨by decide +kernel, rfl⟩
theorem dX12_findOrder_37 : q_at cX12_findOrder 37 (.aload_n 0) 1 38 := ⟨by decide +kernel, rfl⟩
theorem dX12_findOrder_38 : q_at cX12_findOrder 38 (.getfield 409) 3 41 := ⟨by decide +kernel, rfl⟩
theorem dX12_findOrder_41 : q_at cX12_findOrder 41 (.ifCond .ge 9) 3 44 := ⟨by decide +kernel, rfl⟩
theorem dX12_findOrder_44 : q_at cX12_findOrder 44 (.ldc_w 346) 3 47 := ⟨by decide +kernel, rfl⟩
theorem dX12_findOrder_47 : q_at cX12_findOrder 47 (.goto 7) 3 50 := ⟨by decide +kernel, rfl⟩
theorem dX12_findOrder_50 : q_at cX12_findOrder 50 (.aload_n 0) 1 51 := ⟨by decide +kernel, rfl⟩
theorem dX12_findOrder_51 : q_at cX12_findOrder 51 (.getfield 409) 3 54 := ⟨by decide +kernel, rfl⟩
theorem dX12_findOrder_54 : q_at cX12_findOrder 54 (.ireturn) 1 55 := ⟨by decide +kernel, rfl⟩
theorem dX12_plan_0 : q_at cX12_plan 0 (.iload_n 1) 1 1 := ⟨by decide +kernel, rfl⟩
theorem dX12_plan_1 : q_at cX12_plan 1 (.iload_n 2) 1 2 := ⟨by decide +kernel, rfl⟩
theorem dX12_plan_2 : q_at cX12_plan 2 (.invokestatic 423) 3 5 := ⟨by decide +kernel, rfl⟩
theorem dX12_plan_5 : q_at cX12_plan 5 (.ifCond .eq 25) 3 8 := ⟨by decide +kernel, rfl⟩
theorem dX12_plan_8 : q_at cX12_plan 8 (.iload_n 3) 1 9 := ⟨by decide +kernel, rfl⟩
theorem dX12_plan_9 : q_at cX12_plan 9 (.i2l) 1 10 := ⟨by decide +kernel, rfl⟩
theorem dX12_plan_10 : q_at cX12_plan 10 (.lconst 1) 1 11 := ⟨by decide +kernel, rfl⟩
theorem dX12_plan_11 : q_at cX12_plan 11 (.ldc2_w 426) 3 14 := ⟨by decide +kernel, rfl⟩
theorem dX12_plan_14 : q_at cX12_plan 14 (.invokestatic 64) 3 17 := ⟨by decide +kernel, rfl⟩
theorem dX12_plan_17 : q_at cX12_plan 17 (.ifCond .eq 13) 3 20 := ⟨by decide +kernel, rfl⟩
theorem dX12_plan_20 : q_at cX12_plan 20 (.aload_n 0) 1 21 := ⟨by decide +kernel, rfl⟩
theorem dX12_plan_21 : q_at cX12_plan 21 (.iload_n 1) 1 22 := ⟨by decide +kernel, rfl⟩
theorem dX12_plan_22 : q_at cX12_plan 22 (.iload_n 2) 1 23 := ⟨by decide +kernel, rfl⟩
theorem dX12_plan_23 : q_at cX12_plan 23 (.iload_n 3) 1 24 := ⟨by decide +kernel, rfl⟩
theorem dX12_plan_24 : q_at cX12_plan 24 (.invokevirtual 428) 3 27 := ⟨by decide +kernel, rfl⟩
theorem dX12_plan_27 : q_at cX12_plan 27 (.goto 5) 3 30 := ⟨by decide +kernel, rfl⟩
theorem dX12_plan_30 : q_at cX12_plan 30 (.ldc 90) 2 32 := ⟨by decide +kernel, rfl⟩
theorem dX12_plan_32 : q_at cX12_plan 32 (.ireturn) 1 33 := ⟨by decide +kernel, rfl⟩
theorem dX12_planned_0 : q_at cX12_planned 0 (.iload_n 1) 1 1 := ⟨by decide +kernel, rfl⟩
theorem dX12_planned_1 : q_at cX12_planned 1 (.iload_n 2) 1 2 := ⟨by decide +kernel, rfl⟩
theorem dX12_planned_2 : q_at cX12_planned 2 (.invokestatic 423) 3 5 := ⟨by decide +kernel, rfl⟩
theorem dX12_planned_5 : q_at cX12_planned 5 (.ifCond .eq 7) 3 8 := ⟨by decide +kernel, rfl⟩
theorem dX12_planned_8 : q_at cX12_planned 8 (.iload_n 3) 1 9 := ⟨by decide +kernel, rfl⟩
theorem dX12_planned_9 : q_at cX12_planned 9 (.ifCond .ge 6) 3 12 := ⟨by decide +kernel, rfl⟩
theorem dX12_planned_12 : q_at cX12_planned 12 (.ldc 90) 2 14 := ⟨by decide +kernel, rfl⟩
theorem dX12_planned_14 : q_at cX12_planned 14 (.ireturn) 1 15 := ⟨by decide +kernel, rfl⟩
theorem dX12_planned_15 : q_at cX12_planned 15 (.aload_n 0) 1 16 := ⟨by decide +kernel, rfl⟩
theorem dX12_planned_16 : q_at cX12_planned 16 (.iload_n 1) 1 17 := ⟨by decide +kernel, rfl⟩
theorem dX12_planned_17 : q_at cX12_planned 17 (.iload_n 2) 1 18 := ⟨by decide +kernel, rfl⟩
theorem dX12_planned_18 : q_at cX12_planned 18 (.sipush 20000) 3 21 := ⟨by decide +kernel, rfl⟩
theorem dX12_planned_21 : q_at cX12_planned 21 (.invokevirtual 428) 3 24 := ⟨by decide +kernel, rfl⟩
theorem dX12_planned_24 : q_at cX12_planned 24 (.istore 4) 2 26 := ⟨by decide +kernel, rfl⟩
theorem dX12_planned_26 : q_at cX12_planned 26 (.iload 4) 2 28 := ⟨by decide +kernel, rfl⟩
theorem dX12_planned_28 : q_at cX12_planned 28 (.ifCond .ge 8) 3 31 := ⟨by decide +kernel, rfl⟩
theorem dX12_planned_31 : q_at cX12_planned 31 (.iload 4) 2 33 := ⟨by decide +kernel, rfl⟩
theorem dX12_planned_33 : q_at cX12_planned 33 (.goto 25) 3 36 := ⟨by decide +kernel, rfl⟩
theorem dX12_planned_36 : q_at cX12_planned 36 (.iload_n 3) 1 37 := ⟨by decide +kernel, rfl⟩
theorem dX12_planned_37 : q_at cX12_planned 37 (.aload_n 0) 1 38 := ⟨by decide +kernel, rfl⟩
theorem dX12_planned_38 : q_at cX12_planned 38 (.getfield 7) 3 41 := ⟨by decide +kernel, rfl⟩
theorem dX12_planned_41 : q_at cX12_planned 41 (.bipush 6) 2 43 := ⟨by decide +kernel, rfl⟩
theorem dX12_planned_43 : q_at cX12_planned 43 (.iaload) 1 44 := ⟨by decide +kernel, rfl⟩
theorem dX12_planned_44 : q_at cX12_planned 44 (.if_icmp .ge 12) 3 47 := ⟨by decide +kernel, rfl⟩
theorem dX12_planned_47 : q_at cX12_planned 47 (.aload_n 0) 1 48 := ⟨by decide +kernel, rfl⟩
theorem dX12_planned_48 : q_at cX12_planned 48 (.getfield 49) 3 51 := ⟨by decide +kernel, rfl⟩
theorem dX12_planned_51 : q_at cX12_planned 51 (.iload_n 3) 1 52 := ⟨by decide +kernel, rfl⟩
theorem dX12_planned_52 : q_at cX12_planned 52 (.iaload) 1 53 := ⟨by decide +kernel, rfl⟩
theorem dX12_planned_53 : q_at cX12_planned 53 (.goto 5) 3 56 := ⟨by decide +kernel, rfl⟩
theorem dX12_planned_56 : q_at cX12_planned 56 (.ldc 61) 2 58 := ⟨by decide +kernel, rfl⟩
theorem dX12_planned_58 : q_at cX12_planned 58 (.ireturn) 1 59 := ⟨by decide +kernel, rfl⟩
theorem dX12_rowsOfOrder_0 : q_at cX12_rowsOfOrder 0 (.iload_n 1) 1 1 := ⟨by decide +kernel, rfl⟩
theorem dX12_rowsOfOrder_1 : q_at cX12_rowsOfOrder 1 (.iload_n 2) 1 2 := ⟨by decide +kernel, rfl⟩
theorem dX12_rowsOfOrder_2 : q_at cX12_rowsOfOrder 2 (.invokestatic 423) 3 5 := ⟨by decide +kernel, rfl⟩
theorem dX12_rowsOfOrder_5 : q_at cX12_rowsOfOrder 5 (.ifCond .ne 6) 3 8 := ⟨by decide +kernel, rfl⟩
theorem dX12_rowsOfOrder_8 : q_at cX12_rowsOfOrder 8 (.ldc 90) 2 10 := ⟨by decide +kernel, rfl⟩
theorem dX12_rowsOfOrder_10 : q_at cX12_rowsOfOrder 10 (.ireturn) 1 11 := ⟨by decide +kernel, rfl⟩
theorem dX12_rowsOfOrder_11 : q_at cX12_rowsOfOrder 11 (.aload_n 0) 1 12 := ⟨by decide +kernel, rfl⟩
theorem dX12_rowsOfOrder_12 : q_at cX12_rowsOfOrder 12 (.iload_n 1) 1 13 := ⟨by decide +kernel, rfl⟩
theorem dX12_rowsOfOrder_13 : q_at cX12_rowsOfOrder 13 (.iload_n 2) 1 14 := ⟨by decide +kernel, rfl⟩
theorem dX12_rowsOfOrder_14 : q_at cX12_rowsOfOrder 14 (.sipush 20000) 3 17 := ⟨by decide +kernel, rfl⟩
theorem dX12_rowsOfOrder_17 : q_at cX12_rowsOfOrder 17 (.invokevirtual 428) 3 20 := ⟨by decide +kernel, rfl⟩
theorem dX12_rowsOfOrder_20 : q_at cX12_rowsOfOrder 20 (.istore_n 3) 1 21 := ⟨by decide +kernel, rfl⟩
theorem dX12_rowsOfOrder_21 : q_at cX12_rowsOfOrder 21 (.iconst 0) 1 22 := ⟨by decide +kernel, rfl⟩
theorem dX12_rowsOfOrder_22 : q_at cX12_rowsOfOrder 22 (.istore 4) 2 24 := ⟨by decide +kernel, rfl⟩
theorem dX12_rowsOfOrder_24 : q_at cX12_rowsOfOrder 24 (.iload 4) 2 26 := ⟨by decide +kernel, rfl⟩
theorem dX12_rowsOfOrder_26 : q_at cX12_rowsOfOrder 26 (.aload_n 0) 1 27 := ⟨by decide +kernel, rfl⟩
theorem dX12_rowsOfOrder_27 : q_at cX12_rowsOfOrder 27 (.getfield 7) 3 30 := ⟨by decide +kernel, rfl⟩
theorem dX12_rowsOfOrder_30 : q_at cX12_rowsOfOrder 30 (.bipush 6) 2 32 := ⟨by decide +kernel, rfl⟩
theorem dX12_rowsOfOrder_32 : q_at cX12_rowsOfOrder 32 (.iaload) 1 33 := ⟨by decide +kernel, rfl⟩
theorem dX12_rowsOfOrder_33 : q_at cX12_rowsOfOrder 33 (.if_icmp .ge 31) 3 36 := ⟨by decide +kernel, rfl⟩
theorem dX12_rowsOfOrder_36 : q_at cX12_rowsOfOrder 36 (.iload_n 3) 1 37 := ⟨by decide +kernel, rfl⟩
theorem dX12_rowsOfOrder_37 : q_at cX12_rowsOfOrder 37 (.ifCond .lt 27) 3 40 := ⟨by decide +kernel, rfl⟩
theorem dX12_rowsOfOrder_40 : q_at cX12_rowsOfOrder 40 (.aload_n 0) 1 41 := ⟨by decide +kernel, rfl⟩
theorem dX12_rowsOfOrder_41 : q_at cX12_rowsOfOrder 41 (.aload_n 0) 1 42 := ⟨by decide +kernel, rfl⟩
theorem dX12_rowsOfOrder_42 : q_at cX12_rowsOfOrder 42 (.getfield 49) 3 45 := ⟨by decide +kernel, rfl⟩
theorem dX12_rowsOfOrder_45 : q_at cX12_rowsOfOrder 45 (.iload 4) 2 47 := ⟨by decide +kernel, rfl⟩
theorem dX12_rowsOfOrder_47 : q_at cX12_rowsOfOrder 47 (.iaload) 1 48 := ⟨by decide +kernel, rfl⟩
theorem dX12_rowsOfOrder_48 : q_at cX12_rowsOfOrder 48 (.aload_n 0) 1 49 := ⟨by decide +kernel, rfl⟩
theorem dX12_rowsOfOrder_49 : q_at cX12_rowsOfOrder 49 (.getfield 52) 3 52 := ⟨by decide +kernel, rfl⟩
theorem dX12_rowsOfOrder_52 : q_at cX12_rowsOfOrder 52 (.iload 4) 2 54 := ⟨by decide +kernel, rfl⟩
theorem dX12_rowsOfOrder_54 : q_at cX12_rowsOfOrder 54 (.iaload) 1 55 := ⟨by decide +kernel, rfl⟩
theorem dX12_rowsOfOrder_55 : q_at cX12_rowsOfOrder 55 (.invokevirtual 437) 3 58 := ⟨by decide +kernel, rfl⟩
theorem dX12_rowsOfOrder_58 : q_at cX12_rowsOfOrder 58 (.iinc 4 1) 3 61 := ⟨by decide +kernel, rfl⟩
theorem dX12_rowsOfOrder_61 : q_at cX12_rowsOfOrder 61 (.goto (-37)) 3 64 := ⟨by decide +kernel, rfl⟩
theorem dX12_rowsOfOrder_64 : q_at cX12_rowsOfOrder 64 (.iload_n 3) 1 65 := ⟨by decide +kernel, rfl⟩
theorem dX12_rowsOfOrder_65 : q_at cX12_rowsOfOrder 65 (.ifCond .ge 7) 3 68 := ⟨by decide +kernel, rfl⟩
theorem dX12_rowsOfOrder_68 : q_at cX12_rowsOfOrder 68 (.iload_n 3) 1 69 := ⟨by decide +kernel, rfl⟩
theorem dX12_rowsOfOrder_69 : q_at cX12_rowsOfOrder 69 (.goto 4) 3 72 := ⟨by decide +kernel, rfl⟩
theorem dX12_rowsOfOrder_72 : q_at cX12_rowsOfOrder 72 (.iconst 0) 1 73 := ⟨by decide +kernel, rfl⟩
theorem dX12_rowsOfOrder_73 : q_at cX12_rowsOfOrder 73 (.ireturn) 1 74 := ⟨by decide +kernel, rfl⟩
theorem dX12_both_0 : q_at cX12_both 0 (.aload_n 0) 1 1 := ⟨by decide +kernel, rfl⟩
theorem dX12_both_1 : q_at cX12_both 1 (.iload_n 1) 1 2 := ⟨by decide +kernel, rfl⟩
theorem dX12_both_2 : q_at cX12_both 2 (.invokevirtual 269) 3 5 := ⟨by decide +kernel, rfl⟩
theorem dX12_both_5 : q_at cX12_both 5 (.ifCond .ne 5) 3 8 := ⟨by decide +kernel, rfl⟩
theorem dX12_both_8 : q_at cX12_both 8 (.iconst 0) 1 9 := ⟨by decide +kernel, rfl⟩
theorem dX12_both_9 : q_at cX12_both 9 (.ireturn) 1 10 := ⟨by decide +kernel, rfl⟩
theorem dX12_both_10 : q_at cX12_both 10 (.aload_n 0) 1 11 := ⟨by decide +kernel, rfl⟩
theorem dX12_both_11 : q_at cX12_both 11 (.bipush 38) 2 13 := ⟨by decide +kernel, rfl⟩
theorem dX12_both_13 : q_at cX12_both 13 (.invokevirtual 260) 3 16 := ⟨by decide +kernel, rfl⟩
theorem dX12_both_16 : q_at cX12_both 16 (.ifCond .eq 27) 3 19 := ⟨by decide +kernel, rfl⟩
theorem dX12_both_19 : q_at cX12_both 19 (.aload_n 0) 1 20 := ⟨by decide +kernel, rfl⟩
theorem dX12_both_20 : q_at cX12_both 20 (.invokevirtual 263) 3 23 := ⟨by decide +kernel, rfl⟩
theorem dX12_both_23 : q_at cX12_both 23 (.aload_n 0) 1 24 := ⟨by decide +kernel, rfl⟩
theorem dX12_both_24 : q_at cX12_both 24 (.iload_n 1) 1 25 := ⟨by decide +kernel, rfl⟩
theorem dX12_both_25 : q_at cX12_both 25 (.invokevirtual 269) 3 28 := ⟨by decide +kernel, rfl⟩
theorem dX12_both_28 : q_at cX12_both 28 (.ifCond .ne 5) 3 31 := ⟨by decide +kernel, rfl⟩
theorem dX12_both_31 : q_at cX12_both 31 (.iconst 0) 1 32 := ⟨by decide +kernel, rfl⟩
theorem dX12_both_32 : q_at cX12_both 32 (.ireturn) 1 33 := ⟨by decide +kernel, rfl⟩
theorem dX12_both_33 : q_at cX12_both 33 (.aload_n 0) 1 34 := ⟨by decide +kernel, rfl⟩
theorem dX12_both_34 : q_at cX12_both 34 (.iconst 2) 1 35 := ⟨by decide +kernel, rfl⟩
theorem dX12_both_35 : q_at cX12_both 35 (.bipush 38) 2 37 := ⟨by decide +kernel, rfl⟩
theorem dX12_both_37 : q_at cX12_both 37 (.invokevirtual 266) 3 40 := ⟨by decide +kernel, rfl⟩
theorem dX12_both_40 : q_at cX12_both 40 (.goto (-30)) 3 43 := ⟨by decide +kernel, rfl⟩
theorem dX12_both_43 : q_at cX12_both 43 (.iconst 1) 1 44 := ⟨by decide +kernel, rfl⟩
theorem dX12_both_44 : q_at cX12_both 44 (.ireturn) 1 45 := ⟨by decide +kernel, rfl⟩
theorem dX12_either_0 : q_at cX12_either 0 (.aload_n 0) 1 1 := ⟨by decide +kernel, rfl⟩
theorem dX12_either_1 : q_at cX12_either 1 (.iload_n 1) 1 2 := ⟨by decide +kernel, rfl⟩
theorem dX12_either_2 : q_at cX12_either 2 (.invokevirtual 257) 3 5 := ⟨by decide +kernel, rfl⟩
theorem dX12_either_5 : q_at cX12_either 5 (.ifCond .ne 5) 3 8 := ⟨by decide +kernel, rfl⟩
theorem dX12_either_8 : q_at cX12_either 8 (.iconst 0) 1 9 := ⟨by decide +kernel, rfl⟩
theorem dX12_either_9 : q_at cX12_either 9 (.ireturn) 1 10 := ⟨by decide +kernel, rfl⟩
theorem dX12_either_10 : q_at cX12_either 10 (.aload_n 0) 1 11 := ⟨by decide +kernel, rfl⟩
theorem dX12_either_11 : q_at cX12_either 11 (.bipush 124) 2 13 := ⟨by decide +kernel, rfl⟩
theorem dX12_either_13 : q_at cX12_either 13 (.invokevirtual 260) 3 16 := ⟨by decide +kernel, rfl⟩
theorem dX12_either_16 : q_at cX12_either 16 (.ifCond .eq 27) 3 19 := ⟨by decide +kernel, rfl⟩
theorem dX12_either_19 : q_at cX12_either 19 (.aload_n 0) 1 20 := ⟨by decide +kernel, rfl⟩
theorem dX12_either_20 : q_at cX12_either 20 (.invokevirtual 263) 3 23 := ⟨by decide +kernel, rfl⟩
theorem dX12_either_23 : q_at cX12_either 23 (.aload_n 0) 1 24 := ⟨by decide +kernel, rfl⟩
theorem dX12_either_24 : q_at cX12_either 24 (.iload_n 1) 1 25 := ⟨by decide +kernel, rfl⟩
theorem dX12_either_25 : q_at cX12_either 25 (.invokevirtual 257) 3 28 := ⟨by decide +kernel, rfl⟩
theorem dX12_either_28 : q_at cX12_either 28 (.ifCond .ne 5) 3 31 := ⟨by decide +kernel, rfl⟩
theorem dX12_either_31 : q_at cX12_either 31 (.iconst 0) 1 32 := ⟨by decide +kernel, rfl⟩
theorem dX12_either_32 : q_at cX12_either 32 (.ireturn) 1 33 := ⟨by decide +kernel, rfl⟩
theorem dX12_either_33 : q_at cX12_either 33 (.aload_n 0) 1 34 := ⟨by decide +kernel, rfl⟩
theorem dX12_either_34 : q_at cX12_either 34 (.iconst 2) 1 35 := ⟨by decide +kernel, rfl⟩
theorem dX12_either_35 : q_at cX12_either 35 (.bipush 124) 2 37 := ⟨by decide +kernel, rfl⟩
theorem dX12_either_37 : q_at cX12_either 37 (.invokevirtual 266) 3 40 := ⟨by decide +kernel, rfl⟩
theorem dX12_either_40 : q_at cX12_either 40 (.goto (-30)) 3 43 := ⟨by decide +kernel, rfl⟩
theorem dX12_either_43 : q_at cX12_either 43 (.iconst 1) 1 44 := ⟨by decide +kernel, rfl⟩
theorem dX12_either_44 : q_at cX12_either 44 (.ireturn) 1 45 := ⟨by decide +kernel, rfl⟩
theorem dX12_part0_0 : q_at cX12_part0 0 (.aload_n 0) 1 1 := ⟨by decide +kernel, rfl⟩
theorem dX12_part0_1 : q_at cX12_part0 1 (.getfield 229) 3 4 := ⟨by decide +kernel, rfl⟩
theorem dX12_part0_4 : q_at cX12_part0 4 (.iconst 2) 1 5 := ⟨by decide +kernel, rfl⟩
theorem dX12_part0_5 : q_at cX12_part0 5 (.if_icmp .ne 28) 3 8 := ⟨by decide +kernel, rfl⟩
theorem dX12_part0_8 : q_at cX12_part0 8 (.aload_n 0) 1 9 := ⟨by decide +kernel, rfl⟩
theorem dX12_part0_9 : q_at cX12_part0 9 (.iconst 0) 1 10 := ⟨by decide +kernel, rfl⟩
theorem dX12_part0_10 : q_at cX12_part0 10 (.aload_n 0) 1 11 := ⟨by decide +kernel, rfl⟩
theorem dX12_part0_11 : q_at cX12_part0 11 (.getfield 244) 3 14 := ⟨by decide +kernel, rfl⟩
theorem dX12_part0_14 : q_at cX12_part0 14 (.invokevirtual 266) 3 17 := ⟨by decide +kernel, rfl⟩
theorem dX12_part0_17 : q_at cX12_part0 17 (.aload_n 0) 1 18 := ⟨by decide +kernel, rfl⟩
theorem dX12_part0_18 : q_at cX12_part0 18 (.dup) 1 19 := ⟨by decide +kernel, rfl⟩
theorem dX12_part0_19 : q_at cX12_part0 19 (.getfield 281) 3 22 := ⟨by decide +kernel, rfl⟩
theorem dX12_part0_22 : q_at cX12_part0 22 (.iconst 1) 1 23 := ⟨by decide +kernel, rfl⟩
theorem dX12_part0_23 : q_at cX12_part0 23 (.iadd) 1 24 := ⟨by decide +kernel, rfl⟩
theorem dX12_part0_24 : q_at cX12_part0 24 (.putfield 281) 3 27 := ⟨by decide +kernel, rfl⟩
theorem dX12_part0_27 : q_at cX12_part0 27 (.aload_n 0) 1 28 := ⟨by decide +kernel, rfl⟩
theorem dX12_part0_28 : q_at cX12_part0 28 (.invokevirtual 263) 3 31 := ⟨by decide +kernel, rfl⟩
theorem dX12_part0_31 : q_at cX12_part0 31 (.iconst 1) 1 32 := ⟨by decide +kernel, rfl⟩
theorem dX12_part0_32 : q_at cX12_part0 32 (.ireturn) 1 33 := ⟨by decide +kernel, rfl⟩
theorem dX12_part0_33 : q_at cX12_part0 33 (.aload_n 0) 1 34 := ⟨by decide +kernel, rfl⟩
theorem dX12_part0_34 : q_at cX12_part0 34 (.getfield 229) 3 37 := ⟨by decide +kernel, rfl⟩
theorem dX12_part0_37 : q_at cX12_part0 37 (.iconst 1) 1 38 := ⟨by decide +kernel, rfl⟩
theorem dX12_part0_38 : q_at cX12_part0 38 (.if_icmp .ne 46) 3 41 := ⟨by decide +kernel, rfl⟩
theorem dX12_part0_41 : q_at cX12_part0 41 (.aload_n 0) 1 42 := ⟨by decide +kernel, rfl⟩
theorem dX12_part0_42 : q_at cX12_part0 42 (.getfield 238) 3 45 := ⟨by decide +kernel, rfl⟩
theorem dX12_part0_45 : q_at cX12_part0 45 (.ifCond .eq 39) 3 48 := ⟨by decide +kernel, rfl⟩
theorem dX12_part0_48 : q_at cX12_part0 48 (.iload_n 1) 1 49 := ⟨by decide +kernel, rfl⟩
theorem dX12_part0_49 : q_at cX12_part0 49 (.aload_n 0) 1 50 := ⟨by decide +kernel, rfl⟩
theorem dX12_part0_50 : q_at cX12_part0 50 (.getfield 238) 3 53 := ⟨by decide +kernel, rfl⟩
theorem dX12_part0_53 : q_at cX12_part0 53 (.invokestatic 284) 3 56 := ⟨by decide +kernel, rfl⟩
theorem dX12_part0_56 : q_at cX12_part0 56 (.ifCond .eq 28) 3 59 := ⟨by decide +kernel, rfl⟩
theorem dX12_part0_59 : q_at cX12_part0 59 (.aload_n 0) 1 60 := ⟨by decide +kernel, rfl⟩
theorem dX12_part0_60 : q_at cX12_part0 60 (.iconst 1) 1 61 := ⟨by decide +kernel, rfl⟩
theorem dX12_part0_61 : q_at cX12_part0 61 (.aload_n 0) 1 62 := ⟨by decide +kernel, rfl⟩
theorem dX12_part0_62 : q_at cX12_part0 62 (.getfield 238) 3 65 := ⟨by decide +kernel, rfl⟩
theorem dX12_part0_65 : q_at cX12_part0 65 (.invokevirtual 266) 3 68 := ⟨by decide +kernel, rfl⟩
theorem dX12_part0_68 : q_at cX12_part0 68 (.aload_n 0) 1 69 := ⟨by decide +kernel, rfl⟩
theorem dX12_part0_69 : q_at cX12_part0 69 (.dup) 1 70 := ⟨by decide +kernel, rfl⟩
theorem dX12_part0_70 : q_at cX12_part0 70 (.getfield 281) 3 73 := ⟨by decide +kernel, rfl⟩
theorem dX12_part0_73 : q_at cX12_part0 73 (.iconst 1) 1 74 := ⟨by decide +kernel, rfl⟩
theorem dX12_part0_74 : q_at cX12_part0 74 (.iadd) 1 75 := ⟨by decide +kernel, rfl⟩
theorem dX12_part0_75 : q_at cX12_part0 75 (.putfield 281) 3 78 := ⟨by decide +kernel, rfl⟩
theorem dX12_part0_78 : q_at cX12_part0 78 (.aload_n 0) 1 79 := ⟨by decide +kernel, rfl⟩
theorem dX12_part0_79 : q_at cX12_part0 79 (.invokevirtual 263) 3 82 := ⟨by decide +kernel, rfl⟩
theorem dX12_part0_82 : q_at cX12_part0 82 (.iconst 1) 1 83 := ⟨by decide +kernel, rfl⟩
theorem dX12_part0_83 : q_at cX12_part0 83 (.ireturn) 1 84 := ⟨by decide +kernel, rfl⟩
theorem dX12_part0_84 : q_at cX12_part0 84 (.aload_n 0) 1 85 := ⟨by decide +kernel, rfl⟩
theorem dX12_part0_85 : q_at cX12_part0 85 (.bipush 33) 2 87 := ⟨by decide +kernel, rfl⟩
theorem dX12_part0_87 : q_at cX12_part0 87 (.invokevirtual 260) 3 90 := ⟨by decide +kernel, rfl⟩
theorem dX12_part0_90 : q_at cX12_part0 90 (.ifCond .eq 55) 3 93 := ⟨by decide +kernel, rfl⟩
theorem dX12_part0_93 : q_at cX12_part0 93 (.aload_n 0) 1 94 := ⟨by decide +kernel, rfl⟩
theorem dX12_part0_94 : q_at cX12_part0 94 (.getfield 288) 3 97 := ⟨by decide +kernel, rfl⟩
theorem dX12_part0_97 : q_at cX12_part0 97 (.bipush 8) 2 99 := ⟨by decide +kernel, rfl⟩
theorem dX12_part0_99 : q_at cX12_part0 99 (.if_icmp .ge 46) 3 102 := ⟨by decide +kernel, rfl⟩
theorem dX12_part0_102 : q_at cX12_part0 102 (.aload_n 0) 1 103 := ⟨by decide +kernel, rfl⟩
theorem dX12_part0_103 : q_at cX12_part0 103 (.dup) 1 104 := ⟨by decide +kernel, rfl⟩
theorem dX12_part0_104 : q_at cX12_part0 104 (.getfield 288) 3 107 := ⟨by decide +kernel, rfl⟩
theorem dX12_part0_107 : q_at cX12_part0 107 (.iconst 1) 1 108 := ⟨by decide +kernel, rfl⟩
theorem dX12_part0_108 : q_at cX12_part0 108 (.iadd) 1 109 := ⟨by decide +kernel, rfl⟩
theorem dX12_part0_109 : q_at cX12_part0 109 (.putfield 288) 3 112 := ⟨by decide +kernel, rfl⟩
theorem dX12_part0_112 : q_at cX12_part0 112 (.aload_n 0) 1 113 := ⟨by decide +kernel, rfl⟩
theorem dX12_part0_113 : q_at cX12_part0 113 (.invokevirtual 263) 3 116 := ⟨by decide +kernel, rfl⟩
theorem dX12_part0_116 : q_at cX12_part0 116 (.aload_n 0) 1 117 := ⟨by decide +kernel, rfl⟩
theorem dX12_part0_117 : q_at cX12_part0 117 (.iload_n 1) 1 118 := ⟨by decide +kernel, rfl⟩
theorem dX12_part0_118 : q_at cX12_part0 118 (.invokevirtual 278) 3 121 := ⟨by decide +kernel, rfl⟩
theorem dX12_part0_121 : q_at cX12_part0 121 (.ifCond .ne 5) 3 124 := ⟨by decide +kernel, rfl⟩
theorem dX12_part0_124 : q_at cX12_part0 124 (.iconst 0) 1 125 := ⟨by decide +kernel, rfl⟩
theorem dX12_part0_125 : q_at cX12_part0 125 (.ireturn) 1 126 := ⟨by decide +kernel, rfl⟩
theorem dX12_part0_126 : q_at cX12_part0 126 (.aload_n 0) 1 127 := ⟨by decide +kernel, rfl⟩
theorem dX12_part0_127 : q_at cX12_part0 127 (.dup) 1 128 := ⟨by decide +kernel, rfl⟩
theorem dX12_part0_128 : q_at cX12_part0 128 (.getfield 288) 3 131 := ⟨by decide +kernel, rfl⟩
theorem dX12_part0_131 : q_at cX12_part0 131 (.iconst 1) 1 132 := ⟨by decide +kernel, rfl⟩
theorem dX12_part0_132 : q_at cX12_part0 132 (.isub) 1 133 := ⟨by decide +kernel, rfl⟩
theorem dX12_part0_133 : q_at cX12_part0 133 (.putfield 288) 3 136 := ⟨by decide +kernel, rfl⟩
theorem dX12_part0_136 : q_at cX12_part0 136 (.aload_n 0) 1 137 := ⟨by decide +kernel, rfl⟩
theorem dX12_part0_137 : q_at cX12_part0 137 (.iconst 2) 1 138 := ⟨by decide +kernel, rfl⟩
theorem dX12_part0_138 : q_at cX12_part0 138 (.bipush 33) 2 140 := ⟨by decide +kernel, rfl⟩
theorem dX12_part0_140 : q_at cX12_part0 140 (.invokevirtual 266) 3 143 := ⟨by decide +kernel, rfl⟩
theorem dX12_part0_143 : q_at cX12_part0 143 (.iconst 1) 1 144 := ⟨by decide +kernel, rfl⟩
theorem dX12_part0_144 : q_at cX12_part0 144 (.ireturn) 1 145 := ⟨by decide +kernel, rfl⟩
theorem dX12_part0_145 : q_at cX12_part0 145 (.aload_n 0) 1 146 := ⟨by decide +kernel, rfl⟩
theorem dX12_part0_146 : q_at cX12_part0 146 (.bipush 40) 2 148 := ⟨by decide +kernel, rfl⟩
theorem dX12_part0_148 : q_at cX12_part0 148 (.invokevirtual 260) 3 151 := ⟨by decide +kernel, rfl⟩
theorem dX12_part0_151 : q_at cX12_part0 151 (.ifCond .eq 12) 3 154 := ⟨by decide +kernel, rfl⟩
theorem dX12_part0_154 : q_at cX12_part0 154 (.aload_n 0) 1 155 := ⟨by decide +kernel, rfl⟩
theorem dX12_part0_155 : q_at cX12_part0 155 (.getfield 291) 3 158 := ⟨by decide +kernel, rfl⟩
theorem dX12_part0_158 : q_at cX12_part0 158 (.bipush 8) 2 160 := ⟨by decide +kernel, rfl⟩
theorem dX12_part0_160 : q_at cX12_part0 160 (.if_icmp .ne 5) 3 163 := ⟨by decide +kernel, rfl⟩
theorem dX12_part0_163 : q_at cX12_part0 163 (.iconst 0) 1 164 := ⟨by decide +kernel, rfl⟩
theorem dX12_part0_164 : q_at cX12_part0 164 (.ireturn) 1 165 := ⟨by decide +kernel, rfl⟩
theorem dX12_part0_165 : q_at cX12_part0 165 (.aload_n 0) 1 166 := ⟨by decide +kernel, rfl⟩
theorem dX12_part0_166 : q_at cX12_part0 166 (.dup) 1 167 := ⟨by decide +kernel, rfl⟩
theorem dX12_part0_167 : q_at cX12_part0 167 (.getfield 291) 3 170 := ⟨by decide +kernel, rfl⟩
theorem dX12_part0_170 : q_at cX12_part0 170 (.iconst 1) 1 171 := ⟨by decide +kernel, rfl⟩
theorem dX12_part0_171 : q_at cX12_part0 171 (.iadd) 1 172 := ⟨by decide +kernel, rfl⟩
theorem dX12_part0_172 : q_at cX12_part0 172 (.putfield 291) 3 175 := ⟨by decide +kernel, rfl⟩
theorem dX12_part0_175 : q_at cX12_part0 175 (.aload_n 0) 1 176 := ⟨by decide +kernel, rfl⟩
theorem dX12_part0_176 : q_at cX12_part0 176 (.invokevirtual 263) 3 179 := ⟨by decide +kernel, rfl⟩
theorem dX12_part0_179 : q_at cX12_part0 179 (.aload_n 0) 1 180 := ⟨by decide +kernel, rfl⟩
theorem dX12_part0_180 : q_at cX12_part0 180 (.iload_n 1) 1 181 := ⟨by decide +kernel, rfl⟩
theorem dX12_part0_181 : q_at cX12_part0 181 (.invokevirtual 294) 3 184 := ⟨by decide +kernel, rfl⟩
theorem dX12_part0_184 : q_at cX12_part0 184 (.ifCond .eq 12) 3 187 := ⟨by decide +kernel, rfl⟩
theorem dX12_part0_187 : q_at cX12_part0 187 (.aload_n 0) 1 188 := ⟨by decide +kernel, rfl⟩
theorem dX12_part0_188 : q_at cX12_part0 188 (.bipush 41) 2 190 := ⟨by decide +kernel, rfl⟩
theorem dX12_part0_190 : q_at cX12_part0 190 (.invokevirtual 260) 3 193 := ⟨by decide +kernel, rfl⟩
theorem dX12_part0_193 : q_at cX12_part0 193 (.ifCond .ne 5) 3 196 := ⟨by decide +kernel, rfl⟩
theorem dX12_part0_196 : q_at cX12_part0 196 (.iconst 0) 1 197 := ⟨by decide +kernel, rfl⟩
theorem dX12_part0_197 : q_at cX12_part0 197 (.ireturn) 1 198 := ⟨by decide +kernel, rfl⟩
theorem dX12_part0_198 : q_at cX12_part0 198 (.aload_n 0) 1 199 := ⟨by decide +kernel, rfl⟩
theorem dX12_part0_199 : q_at cX12_part0 199 (.dup) 1 200 := ⟨by decide +kernel, rfl⟩
theorem dX12_part0_200 : q_at cX12_part0 200 (.getfield 291) 3 203 := ⟨by decide +kernel, rfl⟩
theorem dX12_part0_203 : q_at cX12_part0 203 (.iconst 1) 1 204 := ⟨by decide +kernel, rfl⟩
theorem dX12_part0_204 : q_at cX12_part0 204 (.isub) 1 205 := ⟨by decide +kernel, rfl⟩
theorem dX12_part0_205 : q_at cX12_part0 205 (.putfield 291) 3 208 := ⟨by decide +kernel, rfl⟩
theorem dX12_part0_208 : q_at cX12_part0 208 (.aload_n 0) 1 209 := ⟨by decide +kernel, rfl⟩
theorem dX12_part0_209 : q_at cX12_part0 209 (.invokevirtual 263) 3 212 := ⟨by decide +kernel, rfl⟩
theorem dX12_part0_212 : q_at cX12_part0 212 (.iconst 1) 1 213 := ⟨by decide +kernel, rfl⟩
theorem dX12_part0_213 : q_at cX12_part0 213 (.ireturn) 1 214 := ⟨by decide +kernel, rfl⟩
theorem dX12_sum_0 : q_at cX12_sum 0 (.aload_n 0) 1 1 := ⟨by decide +kernel, rfl⟩
theorem dX12_sum_1 : q_at cX12_sum 1 (.iload_n 1) 1 2 := ⟨by decide +kernel, rfl⟩
theorem dX12_sum_2 : q_at cX12_sum 2 (.invokevirtual 275) 3 5 := ⟨by decide +kernel, rfl⟩
theorem dX12_sum_5 : q_at cX12_sum 5 (.ifCond .ne 5) 3 8 := ⟨by decide +kernel, rfl⟩
theorem dX12_sum_8 : q_at cX12_sum 8 (.iconst 0) 1 9 := ⟨by decide +kernel, rfl⟩
theorem dX12_sum_9 : q_at cX12_sum 9 (.ireturn) 1 10 := ⟨by decide +kernel, rfl⟩
theorem dX12_sum_10 : q_at cX12_sum 10 (.aload_n 0) 1 11 := ⟨by decide +kernel, rfl⟩
theorem dX12_sum_11 : q_at cX12_sum 11 (.bipush 43) 2 13 := ⟨by decide +kernel, rfl⟩
theorem dX12_sum_13 : q_at cX12_sum 13 (.invokevirtual 260) 3 16 := ⟨by decide +kernel, rfl⟩
theorem dX12_sum_16 : q_at cX12_sum 16 (.ifCond .ne 12) 3 19 := ⟨by decide +kernel, rfl⟩
theorem dX12_sum_19 : q_at cX12_sum 19 (.aload_n 0) 1 20 := ⟨by decide +kernel, rfl⟩
theorem dX12_sum_20 : q_at cX12_sum 20 (.bipush 45) 2 22 := ⟨by decide +kernel, rfl⟩
theorem dX12_sum_22 : q_at cX12_sum 22 (.invokevirtual 260) 3 25 := ⟨by decide +kernel, rfl⟩
theorem dX12_sum_25 : q_at cX12_sum 25 (.ifCond .eq 31) 3 28 := ⟨by decide +kernel, rfl⟩
theorem dX12_sum_28 : q_at cX12_sum 28 (.aload_n 0) 1 29 := ⟨by decide +kernel, rfl⟩
theorem dX12_sum_29 : q_at cX12_sum 29 (.getfield 238) 3 32 := ⟨by decide +kernel, rfl⟩
theorem dX12_sum_32 : q_at cX12_sum 32 (.istore_n 2) 1 33 := ⟨by decide +kernel, rfl⟩
theorem dX12_sum_33 : q_at cX12_sum 33 (.aload_n 0) 1 34 := ⟨by decide +kernel, rfl⟩
theorem dX12_sum_34 : q_at cX12_sum 34 (.invokevirtual 263) 3 37 := ⟨by decide +kernel, rfl⟩
theorem dX12_sum_37 : q_at cX12_sum 37 (.aload_n 0) 1 38 := ⟨by decide +kernel, rfl⟩
theorem dX12_sum_38 : q_at cX12_sum 38 (.iload_n 1) 1 39 := ⟨by decide +kernel, rfl⟩
theorem dX12_sum_39 : q_at cX12_sum 39 (.invokevirtual 275) 3 42 := ⟨by decide +kernel, rfl⟩
theorem dX12_sum_42 : q_at cX12_sum 42 (.ifCond .ne 5) 3 45 := ⟨by decide +kernel, rfl⟩
theorem dX12_sum_45 : q_at cX12_sum 45 (.iconst 0) 1 46 := ⟨by decide +kernel, rfl⟩
theorem dX12_sum_46 : q_at cX12_sum 46 (.ireturn) 1 47 := ⟨by decide +kernel, rfl⟩
theorem dX12_sum_47 : q_at cX12_sum 47 (.aload_n 0) 1 48 := ⟨by decide +kernel, rfl⟩
theorem dX12_sum_48 : q_at cX12_sum 48 (.iconst 2) 1 49 := ⟨by decide +kernel, rfl⟩
theorem dX12_sum_49 : q_at cX12_sum 49 (.iload_n 2) 1 50 := ⟨by decide +kernel, rfl⟩
theorem dX12_sum_50 : q_at cX12_sum 50 (.invokevirtual 266) 3 53 := ⟨by decide +kernel, rfl⟩
theorem dX12_sum_53 : q_at cX12_sum 53 (.goto (-43)) 3 56 := ⟨by decide +kernel, rfl⟩
theorem dX12_sum_56 : q_at cX12_sum 56 (.iconst 1) 1 57 := ⟨by decide +kernel, rfl⟩
theorem dX12_sum_57 : q_at cX12_sum 57 (.ireturn) 1 58 := ⟨by decide +kernel, rfl⟩
theorem dX12_term_0 : q_at cX12_term 0 (.aload_n 0) 1 1 := ⟨by decide +kernel, rfl⟩
theorem dX12_term_1 : q_at cX12_term 1 (.iload_n 1) 1 2 := ⟨by decide +kernel, rfl⟩
theorem dX12_term_2 : q_at cX12_term 2 (.invokevirtual 278) 3 5 := ⟨by decide +kernel, rfl⟩
theorem dX12_term_5 : q_at cX12_term 5 (.ifCond .ne 5) 3 8 := ⟨by decide +kernel, rfl⟩
theorem dX12_term_8 : q_at cX12_term 8 (.iconst 0) 1 9 := ⟨by decide +kernel, rfl⟩
theorem dX12_term_9 : q_at cX12_term 9 (.ireturn) 1 10 := ⟨by decide +kernel, rfl⟩
theorem dX12_term_10 : q_at cX12_term 10 (.aload_n 0) 1 11 := ⟨by decide +kernel, rfl⟩
theorem dX12_term_11 : q_at cX12_term 11 (.bipush 42) 2 13 := ⟨by decide +kernel, rfl⟩
theorem dX12_term_13 : q_at cX12_term 13 (.invokevirtual 260) 3 16 := ⟨by decide +kernel, rfl⟩
theorem dX12_term_16 : q_at cX12_term 16 (.ifCond .ne 12) 3 19 := ⟨by decide +kernel, rfl⟩
theorem dX12_term_19 : q_at cX12_term 19 (.aload_n 0) 1 20 := ⟨by decide +kernel, rfl⟩
theorem dX12_term_20 : q_at cX12_term 20 (.bipush 47) 2 22 := ⟨by decide +kernel, rfl⟩
theorem dX12_term_22 : q_at cX12_term 22 (.invokevirtual 260) 3 25 := ⟨by decide +kernel, rfl⟩
theorem dX12_term_25 : q_at cX12_term 25 (.ifCond .eq 31) 3 28 := ⟨by decide +kernel, rfl⟩
theorem dX12_term_28 : q_at cX12_term 28 (.aload_n 0) 1 29 := ⟨by decide +kernel, rfl⟩
theorem dX12_term_29 : q_at cX12_term 29 (.getfield 238) 3 32 := ⟨by decide +kernel, rfl⟩
theorem dX12_term_32 : q_at cX12_term 32 (.istore_n 2) 1 33 := ⟨by decide +kernel, rfl⟩
theorem dX12_term_33 : q_at cX12_term 33 (.aload_n 0) 1 34 := ⟨by decide +kernel, rfl⟩
theorem dX12_term_34 : q_at cX12_term 34 (.invokevirtual 263) 3 37 := ⟨by decide +kernel, rfl⟩
theorem dX12_term_37 : q_at cX12_term 37 (.aload_n 0) 1 38 := ⟨by decide +kernel, rfl⟩
theorem dX12_term_38 : q_at cX12_term 38 (.iload_n 1) 1 39 := ⟨by decide +kernel, rfl⟩
theorem dX12_term_39 : q_at cX12_term 39 (.invokevirtual 278) 3 42 := ⟨by decide +kernel, rfl⟩
theorem dX12_term_42 : q_at cX12_term 42 (.ifCond .ne 5) 3 45 := ⟨by decide +kernel, rfl⟩
theorem dX12_term_45 : q_at cX12_term 45 (.iconst 0) 1 46 := ⟨by decide +kernel, rfl⟩
theorem dX12_term_46 : q_at cX12_term 46 (.ireturn) 1 47 := ⟨by decide +kernel, rfl⟩
theorem dX12_term_47 : q_at cX12_term 47 (.aload_n 0) 1 48 := ⟨by decide +kernel, rfl⟩
theorem dX12_term_48 : q_at cX12_term 48 (.iconst 2) 1 49 := ⟨by decide +kernel, rfl⟩
theorem dX12_term_49 : q_at cX12_term 49 (.iload_n 2) 1 50 := ⟨by decide +kernel, rfl⟩
theorem dX12_term_50 : q_at cX12_term 50 (.invokevirtual 266) 3 53 := ⟨by decide +kernel, rfl⟩
theorem dX12_term_53 : q_at cX12_term 53 (.goto (-43)) 3 56 := ⟨by decide +kernel, rfl⟩
theorem dX12_term_56 : q_at cX12_term 56 (.iconst 1) 1 57 := ⟨by decide +kernel, rfl⟩
theorem dX12_term_57 : q_at cX12_term 57 (.ireturn) 1 58 := ⟨by decide +kernel, rfl⟩
theorem dX12_test_0 : q_at cX12_test 0 (.aload_n 0) 1 1 := ⟨by decide +kernel, rfl⟩
theorem dX12_test_1 : q_at cX12_test 1 (.iload_n 1) 1 2 := ⟨by decide +kernel, rfl⟩
theorem dX12_test_2 : q_at cX12_test 2 (.invokevirtual 272) 3 5 := ⟨by decide +kernel, rfl⟩
theorem dX12_test_5 : q_at cX12_test 5 (.ifCond .ne 5) 3 8 := ⟨by decide +kernel, rfl⟩
theorem dX12_test_8 : q_at cX12_test 8 (.iconst 0) 1 9 := ⟨by decide +kernel, rfl⟩
theorem dX12_test_9 : q_at cX12_test 9 (.ireturn) 1 10 := ⟨by decide +kernel, rfl⟩
theorem dX12_test_10 : q_at cX12_test 10 (.aload_n 0) 1 11 := ⟨by decide +kernel, rfl⟩
theorem dX12_test_11 : q_at cX12_test 11 (.bipush 60) 2 13 := ⟨by decide +kernel, rfl⟩
theorem dX12_test_13 : q_at cX12_test 13 (.invokevirtual 260) 3 16 := ⟨by decide +kernel, rfl⟩
theorem dX12_test_16 : q_at cX12_test 16 (.ifCond .ne 21) 3 19 := ⟨by decide +kernel, rfl⟩
theorem dX12_test_19 : q_at cX12_test 19 (.aload_n 0) 1 20 := ⟨by decide +kernel, rfl⟩
theorem dX12_test_20 : q_at cX12_test 20 (.bipush 61) 2 22 := ⟨by decide +kernel, rfl⟩
theorem dX12_test_22 : q_at cX12_test 22 (.invokevirtual 260) 3 25 := ⟨by decide +kernel, rfl⟩
theorem dX12_test_25 : q_at cX12_test 25 (.ifCond .ne 12) 3 28 := ⟨by decide +kernel, rfl⟩
theorem dX12_test_28 : q_at cX12_test 28 (.aload_n 0) 1 29 := ⟨by decide +kernel, rfl⟩
theorem dX12_test_29 : q_at cX12_test 29 (.bipush 62) 2 31 := ⟨by decide +kernel, rfl⟩
theorem dX12_test_31 : q_at cX12_test 31 (.invokevirtual 260) 3 34 := ⟨by decide +kernel, rfl⟩
theorem dX12_test_34 : q_at cX12_test 34 (.ifCond .eq 28) 3 37 := ⟨by decide +kernel, rfl⟩
theorem dX12_test_37 : q_at cX12_test 37 (.aload_n 0) 1 38 := ⟨by decide +kernel, rfl⟩
theorem dX12_test_38 : q_at cX12_test 38 (.getfield 238) 3 41 := ⟨by decide +kernel, rfl⟩
theorem dX12_test_41 : q_at cX12_test 41 (.istore_n 2) 1 42 := ⟨by decide +kernel, rfl⟩
theorem dX12_test_42 : q_at cX12_test 42 (.aload_n 0) 1 43 := ⟨by decide +kernel, rfl⟩
theorem dX12_test_43 : q_at cX12_test 43 (.invokevirtual 263) 3 46 := ⟨by decide +kernel, rfl⟩
theorem dX12_test_46 : q_at cX12_test 46 (.aload_n 0) 1 47 := ⟨by decide +kernel, rfl⟩
theorem dX12_test_47 : q_at cX12_test 47 (.iload_n 1) 1 48 := ⟨by decide +kernel, rfl⟩
theorem dX12_test_48 : q_at cX12_test 48 (.invokevirtual 272) 3 51 := ⟨by decide +kernel, rfl⟩
theorem dX12_test_51 : q_at cX12_test 51 (.ifCond .ne 5) 3 54 := ⟨by decide +kernel, rfl⟩
theorem dX12_test_54 : q_at cX12_test 54 (.iconst 0) 1 55 := ⟨by decide +kernel, rfl⟩
theorem dX12_test_55 : q_at cX12_test 55 (.ireturn) 1 56 := ⟨by decide +kernel, rfl⟩
theorem dX12_test_56 : q_at cX12_test 56 (.aload_n 0) 1 57 := ⟨by decide +kernel, rfl⟩
theorem dX12_test_57 : q_at cX12_test 57 (.iconst 2) 1 58 := ⟨by decide +kernel, rfl⟩
theorem dX12_test_58 : q_at cX12_test 58 (.iload_n 2) 1 59 := ⟨by decide +kernel, rfl⟩
theorem dX12_test_59 : q_at cX12_test 59 (.invokevirtual 266) 3 62 := ⟨by decide +kernel, rfl⟩
theorem dX12_test_62 : q_at cX12_test 62 (.iconst 1) 1 63 := ⟨by decide +kernel, rfl⟩
theorem dX12_test_63 : q_at cX12_test 63 (.ireturn) 1 64 := ⟨by decide +kernel, rfl⟩
theorem dX12_check_0 : q_at cX12_check 0 (.aload_n 0) 1 1 := ⟨by decide +kernel, rfl⟩
theorem dX12_check_1 : q_at cX12_check 1 (.getfield 431) 3 4 := ⟨by decide +kernel, rfl⟩
theorem dX12_check_4 : q_at cX12_check 4 (.istore 4) 2 6 := ⟨by decide +kernel, rfl⟩
theorem dX12_check_6 : q_at cX12_check 6 (.aload_n 0) 1 7 := ⟨by decide +kernel, rfl⟩
theorem dX12_check_7 : q_at cX12_check 7 (.iconst 0) 1 8 := ⟨by decide +kernel, rfl⟩
theorem dX12_check_8 : q_at cX12_check 8 (.putfield 431) 3 11 := ⟨by decide +kernel, rfl⟩
theorem dX12_check_11 : q_at cX12_check 11 (.aload_n 0) 1 12 := ⟨by decide +kernel, rfl⟩
theorem dX12_check_12 : q_at cX12_check 12 (.iconst 0) 1 13 := ⟨by decide +kernel, rfl⟩
theorem dX12_check_13 : q_at cX12_check 13 (.putfield 434) 3 16 := ⟨by decide +kernel, rfl⟩
theorem dX12_check_16 : q_at cX12_check 16 (.iload_n 1) 1 17 := ⟨by decide +kernel, rfl⟩
theorem dX12_check_17 : q_at cX12_check 17 (.ifCond .ne 12) 3 20 := ⟨by decide +kernel, rfl⟩
theorem dX12_check_20 : q_at cX12_check 20 (.aload_n 0) 1 21 := ⟨by decide +kernel, rfl⟩
theorem dX12_check_21 : q_at cX12_check 21 (.iload_n 2) 1 22 := ⟨by decide +kernel, rfl⟩
theorem dX12_check_22 : q_at cX12_check 22 (.iload_n 3) 1 23 := ⟨by decide +kernel, rfl⟩
theorem dX12_check_23 : q_at cX12_check 23 (.invokevirtual 448) 3 26 := ⟨by decide +kernel, rfl⟩
theorem dX12_check_26 : q_at cX12_check 26 (.goto 18) 3 29 := ⟨by decide +kernel, rfl⟩
theorem dX12_check_29 : q_at cX12_check 29 (.iload_n 1) 1 30 := ⟨by decide +kernel, rfl⟩
theorem dX12_check_30 : q_at cX12_check 30 (.iconst 1) 1 31 := ⟨by decide +kernel, rfl⟩
theorem dX12_check_31 : q_at cX12_check 31 (.if_icmp .ne 11) 3 34 := ⟨by decide +kernel, rfl⟩
theorem dX12_check_34 : q_at cX12_check 34 (.aload_n 0) 1 35 := ⟨by decide +kernel, rfl⟩
theorem dX12_check_35 : q_at cX12_check 35 (.iload_n 2) 1 36 := ⟨by decide +kernel, rfl⟩
theorem dX12_check_36 : q_at cX12_check 36 (.invokevirtual 451) 3 39 := ⟨by decide +kernel, rfl⟩
theorem dX12_check_39 : q_at cX12_check 39 (.goto 5) 3 42 := ⟨by decide +kernel, rfl⟩
theorem dX12_check_42 : q_at cX12_check 42 (.ldc 90) 2 44 := ⟨by decide +kernel, rfl⟩
theorem dX12_check_44 : q_at cX12_check 44 (.istore 5) 2 46 := ⟨by decide +kernel, rfl⟩
theorem dX12_check_46 : q_at cX12_check 46 (.iload 5) 2 48 := ⟨by decide +kernel, rfl⟩
theorem dX12_check_48 : q_at cX12_check 48 (.ifCond .eq 6) 3 51 := ⟨by decide +kernel, rfl⟩
theorem dX12_check_51 : q_at cX12_check 51 (.iload 5) 2 53 := ⟨by decide +kernel, rfl⟩
theorem dX12_check_53 : q_at cX12_check 53 (.ireturn) 1 54 := ⟨by decide +kernel, rfl⟩
theorem dX12_check_54 : q_at cX12_check 54 (.iconst 0) 1 55 := ⟨by decide +kernel, rfl⟩
theorem dX12_check_55 : q_at cX12_check 55 (.istore 6) 2 57 := ⟨by decide +kernel, rfl⟩
theorem dX12_check_57 : q_at cX12_check 57 (.iload 6) 2 59 := ⟨by decide +kernel, rfl⟩
theorem dX12_check_59 : q_at cX12_check 59 (.iload 4) 2 61 := ⟨by decide +kernel, rfl⟩
theorem dX12_check_61 : q_at cX12_check 61 (.if_icmp .ge 35) 3 64 := ⟨by decide +kernel, rfl⟩
theorem dX12_check_64 : q_at cX12_check 64 (.iload 6) 2 66 := ⟨by decide +kernel, rfl⟩
theorem dX12_check_66 : q_at cX12_check 66 (.aload_n 0) 1 67 := ⟨by decide +kernel, rfl⟩
theorem dX12_check_67 : q_at cX12_check 67 (.getfield 434) 3 70 := ⟨by decide +kernel, rfl⟩
theorem dX12_check_70 : q_at cX12_check 70 (.if_icmp .ge 26) 3 73 := ⟨by decide +kernel, rfl⟩
theorem dX12_check_73 : q_at cX12_check 73 (.aload_n 0) 1 74 := ⟨by decide +kernel, rfl⟩
theorem dX12_check_74 : q_at cX12_check 74 (.getfield 55) 3 77 := ⟨by decide +kernel, rfl⟩
theorem dX12_check_77 : q_at cX12_check 77 (.iload 6) 2 79 := ⟨by decide +kernel, rfl⟩
theorem dX12_check_79 : q_at cX12_check 79 (.iaload) 1 80 := ⟨by decide +kernel, rfl⟩
theorem dX12_check_80 : q_at cX12_check 80 (.aload_n 0) 1 81 := ⟨by decide +kernel, rfl⟩
theorem dX12_check_81 : q_at cX12_check 81 (.getfield 58) 3 84 := ⟨by decide +kernel, rfl⟩
theorem dX12_check_84 : q_at cX12_check 84 (.iload 6) 2 86 := ⟨by decide +kernel, rfl⟩
theorem dX12_check_86 : q_at cX12_check 86 (.iaload) 1 87 := ⟨by decide +kernel, rfl⟩
theorem dX12_check_87 : q_at cX12_check 87 (.if_icmp .ne 9) 3 90 := ⟨by decide +kernel, rfl⟩
theorem dX12_check_90 : q_at cX12_check 90 (.iinc 6 1) 3 93 := ⟨by decide +kernel, rfl⟩
theorem dX12_check_93 : q_at cX12_check 93 (.goto (-36)) 3 96 := ⟨by decide +kernel, rfl⟩
theorem dX12_check_96 : q_at cX12_check 96 (.iload 6) 2 98 := ⟨by decide +kernel, rfl⟩
theorem dX12_check_98 : q_at cX12_check 98 (.iload 4) 2 100 := ⟨by decide +kernel, rfl⟩
theorem dX12_check_100 : q_at cX12_check 100 (.if_icmp .ne 16) 3 103 := ⟨by decide +kernel, rfl⟩
theorem dX12_check_103 : q_at cX12_check 103 (.iload 6) 2 105 := ⟨by decide +kernel, rfl⟩
theorem dX12_check_105 : q_at cX12_check 105 (.aload_n 0) 1 106 := ⟨by decide +kernel, rfl⟩
theorem dX12_check_106 : q_at cX12_check 106 (.getfield 434) 3 109 := ⟨by decide +kernel, rfl⟩
theorem dX12_check_109 : q_at cX12_check 109 (.if_icmp .ne 7) 3 112 := ⟨by decide +kernel, rfl⟩
theorem dX12_check_112 : q_at cX12_check 112 (.iconst 0) 1 113 := ⟨by decide +kernel, rfl⟩
theorem dX12_check_113 : q_at cX12_check 113 (.goto 7) 3 116 := ⟨by decide +kernel, rfl⟩
theorem dX12_check_116 : q_at cX12_check 116 (.iconst 1) 1 117 := ⟨by decide +kernel, rfl⟩
theorem dX12_check_117 : q_at cX12_check 117 (.iload 6) 2 119 := ⟨by decide +kernel, rfl⟩
theorem dX12_check_119 : q_at cX12_check 119 (.iadd) 1 120 := ⟨by decide +kernel, rfl⟩
theorem dX12_check_120 : q_at cX12_check 120 (.ireturn) 1 121 := ⟨by decide +kernel, rfl⟩
theorem dX12_parse_0 : q_at cX12_parse 0 (.aload_n 0) 1 1 := ⟨by decide +kernel, rfl⟩
theorem dX12_parse_1 : q_at cX12_parse 1 (.iconst 0) 1 2 := ⟨by decide +kernel, rfl⟩
theorem dX12_parse_2 : q_at cX12_parse 2 (.putfield 226) 3 5 := ⟨by decide +kernel, rfl⟩
theorem dX12_parse_5 : q_at cX12_parse 5 (.aload_n 0) 1 6 := ⟨by decide +kernel, rfl⟩
theorem dX12_parse_6 : q_at cX12_parse 6 (.iconst 3) 1 7 := ⟨by decide +kernel, rfl⟩
theorem dX12_parse_7 : q_at cX12_parse 7 (.putfield 229) 3 10 := ⟨by decide +kernel, rfl⟩
theorem dX12_parse_10 : q_at cX12_parse 10 (.aload_n 0) 1 11 := ⟨by decide +kernel, rfl⟩
theorem dX12_parse_11 : q_at cX12_parse 11 (.iconst 0) 1 12 := ⟨by decide +kernel, rfl⟩
theorem dX12_parse_12 : q_at cX12_parse 12 (.putfield 291) 3 15 := ⟨by decide +kernel, rfl⟩
theorem dX12_parse_15 : q_at cX12_parse 15 (.aload_n 0) 1 16 := ⟨by decide +kernel, rfl⟩
theorem dX12_parse_16 : q_at cX12_parse 16 (.iconst 0) 1 17 := ⟨by decide +kernel, rfl⟩
theorem dX12_parse_17 : q_at cX12_parse 17 (.putfield 288) 3 20 := ⟨by decide +kernel, rfl⟩
theorem dX12_parse_20 : q_at cX12_parse 20 (.aload_n 0) 1 21 := ⟨by decide +kernel, rfl⟩
theorem dX12_parse_21 : q_at cX12_parse 21 (.iconst 0) 1 22 := ⟨by decide +kernel, rfl⟩
theorem dX12_parse_22 : q_at cX12_parse 22 (.putfield 254) 3 25 := ⟨by decide +kernel, rfl⟩
theorem dX12_parse_25 : q_at cX12_parse 25 (.aload_n 0) 1 26 := ⟨by decide +kernel, rfl⟩
theorem dX12_parse_26 : q_at cX12_parse 26 (.iconst 0) 1 27 := ⟨by decide +kernel, rfl⟩
theorem dX12_parse_27 : q_at cX12_parse 27 (.putfield 281) 3 30 := ⟨by decide +kernel, rfl⟩
theorem dX12_parse_30 : q_at cX12_parse 30 (.aload_n 0) 1 31 := ⟨by decide +kernel, rfl⟩
theorem dX12_parse_31 : q_at cX12_parse 31 (.aload_n 0) 1 32 := ⟨by decide +kernel, rfl⟩
theorem dX12_parse_32 : q_at cX12_parse 32 (.getfield 7) 3 35 := ⟨by decide +kernel, rfl⟩
theorem dX12_parse_35 : q_at cX12_parse 35 (.iconst 4) 1 36 := ⟨by decide +kernel, rfl⟩
theorem dX12_parse_36 : q_at cX12_parse 36 (.iaload) 1 37 := ⟨by decide +kernel, rfl⟩
theorem dX12_parse_37 : q_at cX12_parse 37 (.bipush 12) 2 39 := ⟨by decide +kernel, rfl⟩
theorem dX12_parse_39 : q_at cX12_parse 39 (.if_icmp .ge 18) 3 42 := ⟨by decide +kernel, rfl⟩
theorem dX12_parse_42 : q_at cX12_parse 42 (.aload_n 0) 1 43 := ⟨by decide +kernel, rfl⟩
theorem dX12_parse_43 : q_at cX12_parse 43 (.aload_n 0) 1 44 := ⟨by decide +kernel, rfl⟩
theorem dX12_parse_44 : q_at cX12_parse 44 (.getfield 7) 3 47 := ⟨by decide +kernel, rfl⟩
theorem dX12_parse_47 : q_at cX12_parse 47 (.iconst 4) 1 48 := ⟨by decide +kernel, rfl⟩
theorem dX12_parse_48 : q_at cX12_parse 48 (.iaload) 1 49 := ⟨by decide +kernel, rfl⟩
theorem dX12_parse_49 : q_at cX12_parse 49 (.invokevirtual 297) 3 52 := ⟨by decide +kernel, rfl⟩
theorem dX12_parse_52 : q_at cX12_parse 52 (.iconst 4) 1 53 := ⟨by decide +kernel, rfl⟩
theorem dX12_parse_53 : q_at cX12_parse 53 (.iadd) 1 54 := ⟨by decide +kernel, rfl⟩
theorem dX12_parse_54 : q_at cX12_parse 54 (.goto 6) 3 57 := ⟨by decide +kernel, rfl⟩
theorem dX12_parse_57 : q_at cX12_parse 57 (.sipush 3380) 3 60 := ⟨by decide +kernel, rfl⟩
theorem dX12_parse_60 : q_at cX12_parse 60 (.putfield 251) 3 63 := ⟨by decide +kernel, rfl⟩
theorem dX12_parse_63 : q_at cX12_parse 63 (.aload_n 0) 1 64 := ⟨by decide +kernel, rfl⟩
theorem dX12_parse_64 : q_at cX12_parse 64 (.invokevirtual 263) 3 67 := ⟨by decide +kernel, rfl⟩
theorem dX12_parse_67 : q_at cX12_parse 67 (.aload_n 0) 1 68 := ⟨by decide +kernel, rfl⟩
theorem dX12_parse_68 : q_at cX12_parse 68 (.invokevirtual 300) 3 71 := ⟨by decide +kernel, rfl⟩
theorem dX12_parse_71 : q_at cX12_parse 71 (.istore_n 1) 1 72 := ⟨by decide +kernel, rfl⟩
theorem dX12_parse_72 : q_at cX12_parse 72 (.iload_n 1) 1 73 := ⟨by decide +kernel, rfl⟩
theorem dX12_parse_73 : q_at cX12_parse 73 (.ifCond .lt 7) 3 76 := ⟨by decide +kernel, rfl⟩
theorem dX12_parse_76 : q_at cX12_parse 76 (.iconst 1) 1 77 := ⟨by decide +kernel, rfl⟩
theorem dX12_parse_77 : q_at cX12_parse 77 (.goto 4) 3 80 := ⟨by decide +kernel, rfl⟩
theorem dX12_parse_80 : q_at cX12_parse 80 (.iconst 0) 1 81 := ⟨by decide +kernel, rfl⟩
theorem dX12_parse_81 : q_at cX12_parse 81 (.istore_n 2) 1 82 := ⟨by decide +kernel, rfl⟩
theorem dX12_parse_82 : q_at cX12_parse 82 (.iload_n 2) 1 83 := ⟨by decide +kernel, rfl⟩
theorem dX12_parse_83 : q_at cX12_parse 83 (.ifCond .eq 28) 3 86 := ⟨by decide +kernel, rfl⟩
theorem dX12_parse_86 : q_at cX12_parse 86 (.aload_n 0) 1 87 := ⟨by decide +kernel, rfl⟩
theorem dX12_parse_87 : q_at cX12_parse 87 (.invokevirtual 263) 3 90 := ⟨by decide +kernel, rfl⟩
theorem dX12_parse_90 : q_at cX12_parse 90 (.aload_n 0) 1 91 := ⟨by decide +kernel, rfl⟩
theorem dX12_parse_91 : q_at cX12_parse 91 (.iload_n 1) 1 92 := ⟨by decide +kernel, rfl⟩
theorem dX12_parse_92 : q_at cX12_parse 92 (.invokevirtual 294) 3 95 := ⟨by decide +kernel, rfl⟩
theorem dX12_parse_95 : q_at cX12_parse 95 (.ifCond .eq 14) 3 98 := ⟨by decide +kernel, rfl⟩
theorem dX12_parse_98 : q_at cX12_parse 98 (.aload_n 0) 1 99 := ⟨by decide +kernel, rfl⟩
theorem dX12_parse_99 : q_at cX12_parse 99 (.getfield 229) 3 102 := ⟨by decide +kernel, rfl⟩
theorem dX12_parse_102 : q_at cX12_parse 102 (.ifCond .ne 7) 3 105 := ⟨by decide +kernel, rfl⟩
theorem dX12_parse_105 : q_at cX12_parse 105 (.iconst 1) 1 106 := ⟨by decide +kernel, rfl⟩
theorem dX12_parse_106 : q_at cX12_parse 106 (.goto 4) 3 109 := ⟨by decide +kernel, rfl⟩
theorem dX12_parse_109 : q_at cX12_parse 109 (.iconst 0) 1 110 := ⟨by decide +kernel, rfl⟩
theorem dX12_parse_110 : q_at cX12_parse 110 (.istore_n 2) 1 111 := ⟨by decide +kernel, rfl⟩
theorem dX12_parse_111 : q_at cX12_parse 111 (.aload_n 0) 1 112 := ⟨by decide +kernel, rfl⟩
theorem dX12_parse_112 : q_at cX12_parse 112 (.iconst 0) 1 113 := ⟨by decide +kernel, rfl⟩
theorem dX12_parse_113 : q_at cX12_parse 113 (.putfield 215) 3 116 := ⟨by decide +kernel, rfl⟩
theorem dX12_parse_116 : q_at cX12_parse 116 (.iload_n 2) 1 117 := ⟨by decide +kernel, rfl⟩
theorem dX12_parse_117 : q_at cX12_parse 117 (.ifCond .eq 7) 3 120 := ⟨by decide +kernel, rfl⟩
theorem dX12_parse_120 : q_at cX12_parse 120 (.iload_n 1) 1 121 := ⟨by decide +kernel, rfl⟩
theorem dX12_parse_121 : q_at cX12_parse 121 (.goto 4) 3 124 := ⟨by decide +kernel, rfl⟩
theorem dX12_parse_124 : q_at cX12_parse 124 (.iconst (-1)) 1 125 := ⟨by decide +kernel, rfl⟩
theorem dX12_parse_125 : q_at cX12_parse 125 (.ireturn) 1 126 := ⟨by decide +kernel, rfl⟩
theorem dX12_text_0 : q_at cX12_text 0 (.iload_n 1) 1 1 := ⟨by decide +kernel, rfl⟩
theorem dX12_text_1 : q_at cX12_text 1 (.i2l) 1 2 := ⟨by decide +kernel, rfl⟩
theorem dX12_text_2 : q_at cX12_text 2 (.lconst 0) 1 3 := ⟨by decide +kernel, rfl⟩
theorem dX12_text_3 : q_at cX12_text 3 (.ldc2_w 303) 3 6 := ⟨by decide +kernel, rfl⟩
theorem dX12_text_6 : q_at cX12_text 6 (.invokestatic 64) 3 9 := ⟨by decide +kernel, rfl⟩
theorem dX12_text_9 : q_at cX12_text 9 (.istore_n 2) 1 10 := ⟨by decide +kernel, rfl⟩
theorem dX12_text_10 : q_at cX12_text 10 (.aload_n 0) 1 11 := ⟨by decide +kernel, rfl⟩
theorem dX12_text_11 : q_at cX12_text 11 (.invokevirtual 305) 3 14 := ⟨by decide +kernel, rfl⟩
theorem dX12_text_14 : q_at cX12_text 14 (.istore_n 3) 1 15 := ⟨by decide +kernel, rfl⟩
theorem dX12_text_15 : q_at cX12_text 15 (.iload_n 2) 1 16 := ⟨by decide +kernel, rfl⟩
theorem dX12_text_16 : q_at cX12_text 16 (.ifCond .ne 6) 3 19 := ⟨by decide +kernel, rfl⟩
theorem dX12_text_19 : q_at cX12_text 19 (.ldc 90) 2 21 := ⟨by decide +kernel, rfl⟩
theorem dX12_text_21 : q_at cX12_text 21 (.ireturn) 1 22 := ⟨by decide +kernel, rfl⟩
theorem dX12_text_22 : q_at cX12_text 22 (.iload_n 3) 1 23 := ⟨by decide +kernel, rfl⟩
theorem dX12_text_23 : q_at cX12_text 23 (.ifCond .ge 11) 3 26 := ⟨by decide +kernel, rfl⟩
theorem dX12_text_26 : q_at cX12_text 26 (.bipush (-100)) 2 28 := ⟨by decide +kernel, rfl⟩
theorem dX12_text_28 : q_at cX12_text 28 (.aload_n 0) 1 29 := ⟨by decide +kernel, rfl⟩
theorem dX12_text_29 : q_at cX12_text 29 (.getfield 232) 3 32 := ⟨by decide +kernel, rfl⟩
theorem dX12_text_32 : q_at cX12_text 32 (.isub) 1 33 := ⟨by decide +kernel, rfl⟩
theorem dX12_text_33 : q_at cX12_text 33 (.ireturn) 1 34 := ⟨by decide +kernel, rfl⟩
theorem dX12_text_34 : q_at cX12_text 34 (.aload_n 0) 1 35 := ⟨by decide +kernel, rfl⟩
theorem dX12_text_35 : q_at cX12_text 35 (.getfield 7) 3 38 := ⟨by decide +kernel, rfl⟩
theorem dX12_text_38 : q_at cX12_text 38 (.iconst 4) 1 39 := ⟨by decide +kernel, rfl⟩
theorem dX12_text_39 : q_at cX12_text 39 (.iaload) 1 40 := ⟨by decide +kernel, rfl⟩
theorem dX12_text_40 : q_at cX12_text 40 (.bipush 12) 2 42 := ⟨by decide +kernel, rfl⟩
theorem dX12_text_42 : q_at cX12_text 42 (.if_icmp .ne 6) 3 45 := ⟨by decide +kernel, rfl⟩
theorem dX12_text_45 : q_at cX12_text 45 (.ldc 98) 2 47 := ⟨by decide +kernel, rfl⟩
theorem dX12_text_47 : q_at cX12_text 47 (.ireturn) 1 48 := ⟨by decide +kernel, rfl⟩
theorem dX12_text_48 : q_at cX12_text 48 (.aload_n 0) 1 49 := ⟨by decide +kernel, rfl⟩
theorem dX12_text_49 : q_at cX12_text 49 (.aload_n 0) 1 50 := ⟨by decide +kernel, rfl⟩
theorem dX12_text_50 : q_at cX12_text 50 (.getfield 7) 3 53 := ⟨by decide +kernel, rfl⟩
theorem dX12_text_53 : q_at cX12_text 53 (.iconst 4) 1 54 := ⟨by decide +kernel, rfl⟩
theorem dX12_text_54 : q_at cX12_text 54 (.iaload) 1 55 := ⟨by decide +kernel, rfl⟩
theorem dX12_text_55 : q_at cX12_text 55 (.invokevirtual 297) 3 58 := ⟨by decide +kernel, rfl⟩
theorem dX12_text_58 : q_at cX12_text 58 (.istore 4) 2 60 := ⟨by decide +kernel, rfl⟩
theorem dX12_text_60 : q_at cX12_text 60 (.aload_n 0) 1 61 := ⟨by decide +kernel, rfl⟩
theorem dX12_text_61 : q_at cX12_text 61 (.getfield 7) 3 64 := ⟨by decide +kernel, rfl⟩
theorem dX12_text_64 : q_at cX12_text 64 (.iload 4) 2 66 := ⟨by decide +kernel, rfl⟩
theorem dX12_text_66 : q_at cX12_text 66 (.iconst 0) 1 67 := ⟨by decide +kernel, rfl⟩
theorem dX12_text_67 : q_at cX12_text 67 (.iadd) 1 68 := ⟨by decide +kernel, rfl⟩
theorem dX12_text_68 : q_at cX12_text 68 (.iload_n 3) 1 69 := ⟨by decide +kernel, rfl⟩
theorem dX12_text_69 : q_at cX12_text 69 (.iastore) 1 70 := ⟨by decide +kernel, rfl⟩
theorem dX12_text_70 : q_at cX12_text 70 (.aload_n 0) 1 71 := ⟨by decide +kernel, rfl⟩
theorem dX12_text_71 : q_at cX12_text 71 (.getfield 7) 3 74 := ⟨by decide +kernel, rfl⟩
theorem dX12_text_74 : q_at cX12_text 74 (.iload 4) 2 76 := ⟨by decide +kernel, rfl⟩
theorem dX12_text_76 : q_at cX12_text 76 (.iconst 1) 1 77 := ⟨by decide +kernel, rfl⟩
theorem dX12_text_77 : q_at cX12_text 77 (.iadd) 1 78 := ⟨by decide +kernel, rfl⟩
theorem dX12_text_78 : q_at cX12_text 78 (.iload_n 1) 1 79 := ⟨by decide +kernel, rfl⟩
theorem dX12_text_79 : q_at cX12_text 79 (.iastore) 1 80 := ⟨by decide +kernel, rfl⟩
theorem dX12_text_80 : q_at cX12_text 80 (.aload_n 0) 1 81 := ⟨by decide +kernel, rfl⟩
theorem dX12_text_81 : q_at cX12_text 81 (.getfield 7) 3 84 := ⟨by decide +kernel, rfl⟩
theorem dX12_text_84 : q_at cX12_text 84 (.iload 4) 2 86 := ⟨by decide +kernel, rfl⟩
theorem dX12_text_86 : q_at cX12_text 86 (.iconst 2) 1 87 := ⟨by decide +kernel, rfl⟩
theorem dX12_text_87 : q_at cX12_text 87 (.iadd) 1 88 := ⟨by decide +kernel, rfl⟩
theorem dX12_text_88 : q_at cX12_text 88 (.aload_n 0) 1 89 := ⟨by decide +kernel, rfl⟩
theorem dX12_text_89 : q_at cX12_text 89 (.getfield 281) 3 92 := ⟨by decide +kernel, rfl⟩
theorem dX12_text_92 : q_at cX12_text 92 (.iastore) 1 93 := ⟨by decide +kernel, rfl⟩
theorem dX12_text_93 : q_at cX12_text 93 (.aload_n 0) 1 94 := ⟨by decide +kernel, rfl⟩
theorem dX12_text_94 : q_at cX12_text 94 (.getfield 7) 3 97 := ⟨by decide +kernel, rfl⟩
theorem dX12_text_97 : q_at cX12_text 97 (.iload 4) 2 99 := ⟨by decide +kernel, rfl⟩
theorem dX12_text_99 : q_at cX12_text 99 (.iconst 3) 1 100 := ⟨by decide +kernel, rfl⟩
theorem dX12_text_100 : q_at cX12_text 100 (.iadd) 1 101 := ⟨by decide +kernel, rfl⟩
theorem dX12_text_101 : q_at cX12_text 101 (.aload_n 0) 1 102 := ⟨by decide +kernel, rfl⟩
theorem dX12_text_102 : q_at cX12_text 102 (.getfield 254) 3 105 := ⟨by decide +kernel, rfl⟩
theorem dX12_text_105 : q_at cX12_text 105 (.iastore) 1 106 := ⟨by decide +kernel, rfl⟩
theorem dX12_text_106 : q_at cX12_text 106 (.aload_n 0) 1 107 := ⟨by decide +kernel, rfl⟩
theorem dX12_text_107 : q_at cX12_text 107 (.getfield 7) 3 110 := ⟨by decide +kernel, rfl⟩
theorem dX12_text_110 : q_at cX12_text 110 (.iconst 4) 1 111 := ⟨by decide +kernel, rfl⟩
theorem dX12_text_111 : q_at cX12_text 111 (.dup2) 1 112 := ⟨by decide +kernel, rfl⟩
theorem dX12_text_112 : q_at cX12_text 112 (.iaload) 1 113 := ⟨by decide +kernel, rfl⟩
theorem dX12_text_113 : q_at cX12_text 113 (.iconst 1) 1 114 := ⟨by decide +kernel, rfl⟩
theorem dX12_text_114 : q_at cX12_text 114 (.iadd) 1 115 := ⟨by decide +kernel, rfl⟩
theorem dX12_text_115 : q_at cX12_text 115 (.iastore) 1 116 := ⟨by decide +kernel, rfl⟩
theorem dX12_text_116 : q_at cX12_text 116 (.aload_n 0) 1 117 := ⟨by decide +kernel, rfl⟩
theorem dX12_text_117 : q_at cX12_text 117 (.getfield 7) 3 120 := ⟨by decide +kernel, rfl⟩
theorem dX12_text_120 : q_at cX12_text 120 (.iconst 4) 1 121 := ⟨by decide +kernel, rfl⟩
theorem dX12_text_121 : q_at cX12_text 121 (.iaload) 1 122 := ⟨by decide +kernel, rfl⟩
theorem dX12_text_122 : q_at cX12_text 122 (.iconst 1) 1 123 := ⟨by decide +kernel, rfl⟩
theorem dX12_text_123 : q_at cX12_text 123 (.isub) 1 124 := ⟨by decide +kernel, rfl⟩
theorem dX12_text_124 : q_at cX12_text 124 (.ireturn) 1 125 := ⟨by decide +kernel, rfl⟩
def f_X12_isRound (this : Nat) (x1 : Int32) (I : qI) : Option (Int32 × qI) :=
  q_b1 (q_rd I (this + 1) 3580 ((nI 3250) + x1)) fun v2 =>
  if v2 = (nI 1) then
    q_b1 (f_X12_counts this (nI 6) I) fun v5 =>
    q_b2 (f_X12_bars this v5 x1 I) fun v7 I8 =>
    if v7 = 0 then
      some ((nI 1), I8)
    else
      some ((nI 0), I8)
  else
    some ((nI 0), I)
set_option maxRecDepth 100000 in
set_option maxHeartbeats 4000000 in
theorem s_X12_isRound {l : Launch} {Γ : qC} (hΓ : q_gm Γ) {X : qX} (hX : q_Lay X) {this : Nat} {x1 : Int32} (k_this : q_kd X this = some (14, 42)) {I : qI} {z : Int32 × qI} (h : f_X12_isRound this x1 I = some z) : q_Sem l Γ (q_rm 6 0 0) yX12_isRound cX12_isRound 2 (some .boolean) [.ref this, .int x1] I X (some (.int z.1), z.2, X) := by
  refine q_met (by decide) (Nat.le_of_ble_eq_true rfl) (fun g hg hr => ?_)
  unfold f_X12_isRound at h
  show g 0 0 0 [(0, .ref this), (1, .int x1)] [] I X
  refine r_aload_n hg 0 dX12_isRound_0 rfl rfl ?_
  have e1 := ly_12_0 hX k_this
  refine r_getR hg dX12_isRound_1 fl_X12_7 k_this rfl e1.1 ?_
  refine r_sipush hg dX12_isRound_4 cs_3250 ?_
  refine r_iload_n hg 1 dX12_isRound_7 rfl rfl ?_
  refine r_iadd hg dX12_isRound_8 ?_
  obtain ⟨v2, e3, h⟩ := q_b1_some h
  refine r_iald hg dX12_isRound_9 e1.2 e3 ?_
  refine r_iconst hg dX12_isRound_10 ci_1 ?_
  refine r_icmp_ne hg 32 dX12_isRound_11 (by decide) (fun c4 => ?_) (fun c4 => ?_)
  · rw [if_neg c4] at h
    refine r_iconst hg dX12_isRound_32 ci_0 ?_
    exact r_ireturn hr dX12_isRound_33 ⟨Nat.zero_le _, Nat.zero_le _⟩ ⟨_, rfl, bz_0.1⟩ (by cases h; rfl)
  · rw [if_pos (Classical.not_not.mp c4)] at h
    refine r_aload_n hg 0 dX12_isRound_14 rfl rfl ?_
    refine r_aload_n hg 0 dX12_isRound_15 rfl rfl ?_
    refine r_bipush hg dX12_isRound_16 cb_6 ?_
    obtain ⟨v5, e6, h⟩ := q_b1_some h
    refine r_cV1i hg dX12_isRound_18 mt_X12_counts ml_X12_313 mv_X12_counts k_this (s_X12_counts hΓ hX k_this e6) (q_room (Nat.le_of_ble_eq_true rfl) (Nat.le_of_ble_eq_true rfl)) ⟨Nat.zero_le _, Nat.zero_le _⟩ (Nat.le_of_ble_eq_true rfl) ?_
    refine r_iload_n hg 1 dX12_isRound_21 rfl rfl ?_
    obtain ⟨v7, I8, e9, h⟩ := q_b2_some h
    refine r_cV2i hg dX12_isRound_22 mt_X12_bars ml_X12_386 mv_X12_bars k_this (s_X12_bars hΓ hX k_this e9) (q_room (Nat.le_of_ble_eq_true rfl) (Nat.le_of_ble_eq_true rfl)) ⟨Nat.zero_le _, Nat.zero_le _⟩ (Nat.le_of_ble_eq_true rfl) ?_
    refine r_if_ne hg 32 dX12_isRound_25 (by decide) (fun c10 => ?_) (fun c10 => ?_)
    · rw [if_neg c10] at h
      refine r_iconst hg dX12_isRound_32 ci_0 ?_
      exact r_ireturn hr dX12_isRound_33 ⟨Nat.zero_le _, Nat.zero_le _⟩ ⟨_, rfl, bz_0.1⟩ (by cases h; rfl)
    · rw [if_pos (Classical.not_not.mp c10)] at h
      refine r_iconst hg dX12_isRound_28 ci_1 ?_
      refine r_goto hg 33 dX12_isRound_29 (by decide) ?_
      exact r_ireturn hr dX12_isRound_33 ⟨Nat.zero_le _, Nat.zero_le _⟩ ⟨_, rfl, bz_1.1⟩ (by cases h; rfl)

def b_X12_pays_445 (this : Nat) (x1 : Int32) (x2 : Int32) (k318 : Int32 → Int32 → qI → Option (qI)) (x3 : Int32) (x4 : Int32) (I : qI) : Option (qI) :=
  k318 x3 (x4 + (nI 1)) I
set_option maxRecDepth 100000 in
set_option maxHeartbeats 4000000 in
theorem p_X12_pays_445 {l : Launch} {Γ : qC} {g : qG} {z : qI} {this : Nat} {x1 : Int32} {x2 : Int32} {X : qX} (hΓ : q_gm Γ) (hg : q_Ok l Γ RX12 cX12_pays 7 (q_rm 6 0 0) "pays" none g) (hr : q_Rt cX12_pays none (q_rm 6 0 0) (none, z, X) g) (hX : q_Lay X) (k_this : q_kd X this = some (14, 42)) {k318 : Int32 → Int32 → qI → Option (qI)} (hk318 : ∀ (x3 : Int32) (x4 : Int32) (I : qI), k318 x3 x4 I = some z → g 0 0 318 [(0, .ref this), (1, .int x1), (2, .int x2), (3, .int x3), (4, .int x4)] [] I X) (x3 : Int32) (x4 : Int32) (I : qI) (h : b_X12_pays_445 this x1 x2 k318 x3 x4 I = some z) : g 0 0 445 [(0, .ref this), (1, .int x1), (2, .int x2), (3, .int x3), (4, .int x4)] [] I X := by
  unfold b_X12_pays_445 at h
  refine r_iinc hg 4 (v := (x4 + (nI 1))) (L' := [(4, .int (x4 + (nI 1))), (0, .ref this), (1, .int x1), (2, .int x2), (3, .int x3)]) dX12_pays_445 rfl (by rw [ci_1]) (by decide) rfl ?_
  refine r_goto hg 318 dX12_pays_448 (by decide) ?_
  refine r_sub hg [1, 2, 3, 4, 0] rfl ?_
  exact hk318 _ _ _ h
def b_X12_pays_443 (this : Nat) (x1 : Int32) (x2 : Int32) (k318 : Int32 → Int32 → qI → Option (qI)) (x3 : Int32) (x4 : Int32) (s1 : Int32) (s2 : Int32) (s3 : Int32) (I : qI) : Option (qI) :=
  q_b1 (q_wr I (this + 1) 3580 s1 (s2 + s3)) fun I2 =>
  b_X12_pays_445 this x1 x2 k318 x3 x4 I2
set_option maxRecDepth 100000 in
set_option maxHeartbeats 4000000 in
theorem p_X12_pays_443 {l : Launch} {Γ : qC} {g : qG} {z : qI} {this : Nat} {x1 : Int32} {x2 : Int32} {X : qX} (hΓ : q_gm Γ) (hg : q_Ok l Γ RX12 cX12_pays 7 (q_rm 6 0 0) "pays" none g) (hr : q_Rt cX12_pays none (q_rm 6 0 0) (none, z, X) g) (hX : q_Lay X) (k_this : q_kd X this = some (14, 42)) {k318 : Int32 → Int32 → qI → Option (qI)} (hk318 : ∀ (x3 : Int32) (x4 : Int32) (I : qI), k318 x3 x4 I = some z → g 0 0 318 [(0, .ref this), (1, .int x1), (2, .int x2), (3, .int x3), (4, .int x4)] [] I X) (x3 : Int32) (x4 : Int32) (s1 : Int32) (s2 : Int32) (s3 : Int32) (I : qI) (h : b_X12_pays_443 this x1 x2 k318 x3 x4 s1 s2 s3 I = some z) : g 0 0 443 [(0, .ref this), (1, .int x1), (2, .int x2), (3, .int x3), (4, .int x4)] [.int s3, .int s2, .int s1, .ref (this + 1)] I X := by
  unfold b_X12_pays_443 at h
  have e1 := ly_12_0 hX k_this
  refine r_iadd hg dX12_pays_443 ?_
  obtain ⟨I2, e3, h⟩ := q_b1_some h
  refine r_iast hg dX12_pays_444 e1.2 e3 ?_
  exact p_X12_pays_445 hΓ hg hr hX k_this hk318 _ _ _ h
def b_X12_pays_318 (this : Nat) (x1 : Int32) (x2 : Int32) (k318 : Int32 → Int32 → qI → Option (qI)) (x3 : Int32) (x4 : Int32) (I : qI) : Option (qI) :=
  q_b1 (q_rd I (this + 1) 3580 (nI 3)) fun v2 =>
  if v2 ≤ x4 then
    q_b1 (f_X12_owedBy this x1 I) fun v5 =>
    q_b1 (f_X12_least (I this 7) v5) fun v7 =>
    q_b1 (some (q_up I this 12 v7)) fun I9 =>
    q_b1 (some (q_up I9 this 7 ((I9 this 7) - (I9 this 12)))) fun I11 =>
    q_b2 (f_X12_coinOf this (I11 this 7) I11) fun v13 I14 =>
    q_b1 (some (q_up I14 this 8 ((((I11 this 7).toInt64 * v13.toInt64) / (100 : Int64)).toInt32))) fun I16 =>
    if x2 = 0 then
      some (I16)
    else
      q_b1 (f_X12_manAt this x1) fun v19 =>
      q_b1 (q_rd I16 (this + 1) 3580 (v19 + (nI 11))) fun v23 =>
      q_b1 (f_X12_dueAt this v23) fun v25 =>
      q_b1 (q_rd I16 (this + 1) 3580 (v25 + (nI 2))) fun v27 =>
      q_b1 (q_wr I16 (this + 1) 3580 (v25 + (nI 2)) (v27 - (I16 this 12))) fun I29 =>
      q_b1 (q_rd I29 (this + 1) 3580 (v19 + (nI 4))) fun v33 =>
      q_b1 (f_X12_least (nI 99999) (v33 + (I29 this 8))) fun v35 =>
      q_b1 (q_wr I29 (this + 1) 3580 (v19 + (nI 4)) v35) fun I37 =>
      q_b1 (q_rd I37 (this + 1) 3580 (v19 + (nI 5))) fun v41 =>
      q_b1 (f_X12_least (nI 99999) ((v41 + (I37 this 7)) - (I37 this 8))) fun v43 =>
      q_b1 (q_wr I37 (this + 1) 3580 (v19 + (nI 5)) v43) fun I45 =>
      q_b1 (q_rd I45 (this + 1) 3580 (v19 + (nI 10))) fun v49 =>
      q_b1 (f_X12_dueAt this v49) fun v51 =>
      q_b1 (q_wr I45 (this + 1) 3580 (v51 + (nI 2)) (nI 0)) fun I53 =>
      some (I53)
  else
    q_b1 (f_X12_dueAt this x4) fun v55 =>
    q_b1 (q_rd I (this + 1) 3580 (v55 + (nI 1))) fun v58 =>
    if v58 = x1 then
      q_b1 (q_rd I (this + 1) 3580 (v55 + (nI 5))) fun v62 =>
      if v62 = 0 then
        q_b1 (q_rd I (this + 1) 3580 v55) fun v66 =>
        if v66 = (nI 5) then
          q_b1 (q_rd I (this + 1) 3580 (v55 + (nI 2))) fun v70 =>
          q_b1 (f_X12_least (I this 7) v70) fun v72 =>
          q_b1 (f_X12_least v72 (x3 - (I this 11))) fun v74 =>
          q_b1 (some (q_up I this 7 ((I this 7) - v74))) fun I76 =>
          q_b1 (some (q_up I76 this 11 ((I76 this 11) + v74))) fun I78 =>
          q_b1 (q_rd I78 (this + 1) 3580 (v55 + (nI 7))) fun v81 =>
          if x2 = 0 then
            b_X12_pays_443 this x1 x2 k318 x3 x4 (v55 + (nI 7)) v81 (nI 0) I78
          else
            b_X12_pays_443 this x1 x2 k318 x3 x4 (v55 + (nI 7)) v81 v74 I78
        else
          b_X12_pays_445 this x1 x2 k318 x3 x4 I
      else
        b_X12_pays_445 this x1 x2 k318 x3 x4 I
    else
      b_X12_pays_445 this x1 x2 k318 x3 x4 I
set_option maxRecDepth 100000 in
set_option maxHeartbeats 4000000 in
theorem p_X12_pays_318 {l : Launch} {Γ : qC} {g : qG} {z : qI} {this : Nat} {x1 : Int32} {x2 : Int32} {X : qX} (hΓ : q_gm Γ) (hg : q_Ok l Γ RX12 cX12_pays 7 (q_rm 6 0 0) "pays" none g) (hr : q_Rt cX12_pays none (q_rm 6 0 0) (none, z, X) g) (hX : q_Lay X) (k_this : q_kd X this = some (14, 42)) {k318 : Int32 → Int32 → qI → Option (qI)} (hk318 : ∀ (x3 : Int32) (x4 : Int32) (I : qI), k318 x3 x4 I = some z → g 0 0 318 [(0, .ref this), (1, .int x1), (2, .int x2), (3, .int x3), (4, .int x4)] [] I X) (x3 : Int32) (x4 : Int32) (I : qI) (h : b_X12_pays_318 this x1 x2 k318 x3 x4 I = some z) : g 0 0 318 [(0, .ref this), (1, .int x1), (2, .int x2), (3, .int x3), (4, .int x4)] [] I X := by
  unfold b_X12_pays_318 at h
  refine r_iload hg 4 dX12_pays_318 rfl ?_
  refine r_aload_n hg 0 dX12_pays_320 rfl rfl ?_
  have e1 := ly_12_0 hX k_this
  refine r_getR hg dX12_pays_321 fl_X12_7 k_this rfl e1.1 ?_
  refine r_iconst hg dX12_pays_324 ci_3 ?_
  obtain ⟨v2, e3, h⟩ := q_b1_some h
  refine r_iald hg dX12_pays_325 e1.2 e3 ?_
  refine r_icmp_ge hg 451 dX12_pays_326 (by decide) (fun c4 => ?_) (fun c4 => ?_)
  · rw [if_pos c4] at h
    refine r_aload_n hg 0 dX12_pays_451 rfl rfl ?_
    refine r_aload_n hg 0 dX12_pays_452 rfl rfl ?_
    refine r_getI hg dX12_pays_453 fl_X12_156 k_this rfl ?_
    refine r_aload_n hg 0 dX12_pays_456 rfl rfl ?_
    refine r_iload_n hg 1 dX12_pays_457 rfl rfl ?_
    obtain ⟨v5, e6, h⟩ := q_b1_some h
    refine r_cV1i hg dX12_pays_458 mt_X12_owedBy ml_X12_118 mv_X12_owedBy k_this (s_X12_owedBy hΓ hX k_this e6) (q_room (Nat.le_of_ble_eq_true rfl) (Nat.le_of_ble_eq_true rfl)) ⟨Nat.zero_le _, Nat.zero_le _⟩ (Nat.le_of_ble_eq_true rfl) ?_
    obtain ⟨v7, e8, h⟩ := q_b1_some h
    refine r_cS2i hg dX12_pays_461 mt_X12_least ⟨ml_X12_138, mst_X12_least⟩ (s_X12_least hΓ hX e8) (q_room (Nat.le_of_ble_eq_true rfl) (Nat.le_of_ble_eq_true rfl)) ⟨Nat.zero_le _, Nat.zero_le _⟩ (Nat.le_of_ble_eq_true rfl) ?_
    obtain ⟨I9, e10, h⟩ := q_b1_some h
    obtain rfl := Option.some.inj e10
    refine r_putI hg dX12_pays_464 fl_X12_172 k_this rfl ⟨rfl, rfl⟩ ?_
    refine r_aload_n hg 0 dX12_pays_467 rfl rfl ?_
    refine r_dup hg dX12_pays_468 rfl ?_
    refine r_getI hg dX12_pays_469 fl_X12_156 k_this rfl ?_
    refine r_aload_n hg 0 dX12_pays_472 rfl rfl ?_
    refine r_getI hg dX12_pays_473 fl_X12_172 k_this rfl ?_
    refine r_isub hg dX12_pays_476 ?_
    obtain ⟨I11, e12, h⟩ := q_b1_some h
    obtain rfl := Option.some.inj e12
    refine r_putI hg dX12_pays_477 fl_X12_156 k_this rfl ⟨rfl, rfl⟩ ?_
    refine r_aload_n hg 0 dX12_pays_480 rfl rfl ?_
    refine r_aload_n hg 0 dX12_pays_481 rfl rfl ?_
    refine r_getI hg dX12_pays_482 fl_X12_156 k_this rfl ?_
    refine r_i2l hg dX12_pays_485 ?_
    refine r_aload_n hg 0 dX12_pays_486 rfl rfl ?_
    refine r_aload_n hg 0 dX12_pays_487 rfl rfl ?_
    refine r_getI hg dX12_pays_488 fl_X12_156 k_this rfl ?_
    obtain ⟨v13, I14, e15, h⟩ := q_b2_some h
    refine r_cV1i hg dX12_pays_491 mt_X12_coinOf ml_X12_175 mv_X12_coinOf k_this (s_X12_coinOf hΓ hX k_this e15) (q_room (Nat.le_of_ble_eq_true rfl) (Nat.le_of_ble_eq_true rfl)) ⟨Nat.zero_le _, Nat.zero_le _⟩ (Nat.le_of_ble_eq_true rfl) ?_
    refine r_i2l hg dX12_pays_494 ?_
    refine r_lmul hg dX12_pays_495 ?_
    refine r_ldc2 hg dX12_pays_496 kl_X12_178 ?_
    refine r_ldiv hg dX12_pays_499 nzl_100 ?_
    refine r_l2i hg dX12_pays_500 ?_
    obtain ⟨I16, e17, h⟩ := q_b1_some h
    obtain rfl := Option.some.inj e17
    refine r_putI hg dX12_pays_501 fl_X12_180 k_this rfl ⟨rfl, rfl⟩ ?_
    refine r_iload_n hg 2 dX12_pays_504 rfl rfl ?_
    refine r_if_eq hg 626 dX12_pays_505 (by decide) (fun c18 => ?_) (fun c18 => ?_)
    · rw [if_pos c18] at h
      exact r_return hr dX12_pays_626 ⟨Nat.zero_le _, Nat.zero_le _⟩ rfl (by cases h; rfl)
    · rw [if_neg c18] at h
      refine r_aload_n hg 0 dX12_pays_508 rfl rfl ?_
      refine r_iload_n hg 1 dX12_pays_509 rfl rfl ?_
      obtain ⟨v19, e20, h⟩ := q_b1_some h
      refine r_cV1i hg dX12_pays_510 mt_X12_manAt ml_X12_68 mv_X12_manAt k_this (s_X12_manAt hΓ hX k_this e20) (q_room (Nat.le_of_ble_eq_true rfl) (Nat.le_of_ble_eq_true rfl)) ⟨Nat.zero_le _, Nat.zero_le _⟩ (Nat.le_of_ble_eq_true rfl) ?_
      refine r_istore hg (L' := [(4, .int v19), (0, .ref this), (1, .int x1), (2, .int x2), (3, .int x3)]) dX12_pays_513 (by decide) rfl ?_
      refine r_aload_n hg 1 dX12_pays_515 rfl rfl ?_
      have e21 := ly_12_0 hX k_this
      refine r_getR hg dX12_pays_516 fl_X12_7 k_this rfl e21.1 ?_
      refine r_aload_n hg 1 dX12_pays_519 rfl rfl ?_
      refine r_aload_n hg 1 dX12_pays_520 rfl rfl ?_
      have e22 := ly_12_0 hX k_this
      refine r_getR hg dX12_pays_521 fl_X12_7 k_this rfl e22.1 ?_
      refine r_iload hg 0 dX12_pays_524 rfl ?_
      refine r_bipush hg dX12_pays_526 cb_11 ?_
      refine r_iadd hg dX12_pays_528 ?_
      obtain ⟨v23, e24, h⟩ := q_b1_some h
      refine r_iald hg dX12_pays_529 e22.2 e24 ?_
      obtain ⟨v25, e26, h⟩ := q_b1_some h
      refine r_cV1i hg dX12_pays_530 mt_X12_dueAt ml_X12_75 mv_X12_dueAt k_this (s_X12_dueAt hΓ hX k_this e26) (q_room (Nat.le_of_ble_eq_true rfl) (Nat.le_of_ble_eq_true rfl)) ⟨Nat.zero_le _, Nat.zero_le _⟩ (Nat.le_of_ble_eq_true rfl) ?_
      refine r_iconst hg dX12_pays_533 ci_2 ?_
      refine r_iadd hg dX12_pays_534 ?_
      refine r_dup2 hg dX12_pays_535 rfl rfl ?_
      obtain ⟨v27, e28, h⟩ := q_b1_some h
      refine r_iald hg dX12_pays_536 e21.2 e28 ?_
      refine r_aload_n hg 1 dX12_pays_537 rfl rfl ?_
      refine r_getI hg dX12_pays_538 fl_X12_172 k_this rfl ?_
      refine r_isub hg dX12_pays_541 ?_
      obtain ⟨I29, e30, h⟩ := q_b1_some h
      refine r_iast hg dX12_pays_542 e21.2 e30 ?_
      refine r_aload_n hg 1 dX12_pays_543 rfl rfl ?_
      have e31 := ly_12_0 hX k_this
      refine r_getR hg dX12_pays_544 fl_X12_7 k_this rfl e31.1 ?_
      refine r_iload hg 0 dX12_pays_547 rfl ?_
      refine r_iconst hg dX12_pays_549 ci_4 ?_
      refine r_iadd hg dX12_pays_550 ?_
      refine r_ldc hg dX12_pays_551 kc_X12_183 ?_
      refine r_aload_n hg 1 dX12_pays_553 rfl rfl ?_
      have e32 := ly_12_0 hX k_this
      refine r_getR hg dX12_pays_554 fl_X12_7 k_this rfl e32.1 ?_
      refine r_iload hg 0 dX12_pays_557 rfl ?_
      refine r_iconst hg dX12_pays_559 ci_4 ?_
      refine r_iadd hg dX12_pays_560 ?_
      obtain ⟨v33, e34, h⟩ := q_b1_some h
      refine r_iald hg dX12_pays_561 e32.2 e34 ?_
      refine r_aload_n hg 1 dX12_pays_562 rfl rfl ?_
      refine r_getI hg dX12_pays_563 fl_X12_180 k_this rfl ?_
      refine r_iadd hg dX12_pays_566 ?_
      obtain ⟨v35, e36, h⟩ := q_b1_some h
      refine r_cS2i hg dX12_pays_567 mt_X12_least ⟨ml_X12_138, mst_X12_least⟩ (s_X12_least hΓ hX e36) (q_room (Nat.le_of_ble_eq_true rfl) (Nat.le_of_ble_eq_true rfl)) ⟨Nat.zero_le _, Nat.zero_le _⟩ (Nat.le_of_ble_eq_true rfl) ?_
      obtain ⟨I37, e38, h⟩ := q_b1_some h
      refine r_iast hg dX12_pays_570 e31.2 e38 ?_
      refine r_aload_n hg 1 dX12_pays_571 rfl rfl ?_
      have e39 := ly_12_0 hX k_this
      refine r_getR hg dX12_pays_572 fl_X12_7 k_this rfl e39.1 ?_
      refine r_iload hg 0 dX12_pays_575 rfl ?_
      refine r_iconst hg dX12_pays_577 ci_5 ?_
      refine r_iadd hg dX12_pays_578 ?_
      refine r_ldc hg dX12_pays_579 kc_X12_183 ?_
      refine r_aload_n hg 1 dX12_pays_581 rfl rfl ?_
      have e40 := ly_12_0 hX k_this
      refine r_getR hg dX12_pays_582 fl_X12_7 k_this rfl e40.1 ?_
      refine r_iload hg 0 dX12_pays_585 rfl ?_
      refine r_iconst hg dX12_pays_587 ci_5 ?_
      refine r_iadd hg dX12_pays_588 ?_
      obtain ⟨v41, e42, h⟩ := q_b1_some h
      refine r_iald hg dX12_pays_589 e40.2 e42 ?_
      refine r_aload_n hg 1 dX12_pays_590 rfl rfl ?_
      refine r_getI hg dX12_pays_591 fl_X12_156 k_this rfl ?_
      refine r_iadd hg dX12_pays_594 ?_
      refine r_aload_n hg 1 dX12_pays_595 rfl rfl ?_
      refine r_getI hg dX12_pays_596 fl_X12_180 k_this rfl ?_
      refine r_isub hg dX12_pays_599 ?_
      obtain ⟨v43, e44, h⟩ := q_b1_some h
      refine r_cS2i hg dX12_pays_600 mt_X12_least ⟨ml_X12_138, mst_X12_least⟩ (s_X12_least hΓ hX e44) (q_room (Nat.le_of_ble_eq_true rfl) (Nat.le_of_ble_eq_true rfl)) ⟨Nat.zero_le _, Nat.zero_le _⟩ (Nat.le_of_ble_eq_true rfl) ?_
      obtain ⟨I45, e46, h⟩ := q_b1_some h
      refine r_iast hg dX12_pays_603 e39.2 e46 ?_
      refine r_aload_n hg 1 dX12_pays_604 rfl rfl ?_
      have e47 := ly_12_0 hX k_this
      refine r_getR hg dX12_pays_605 fl_X12_7 k_this rfl e47.1 ?_
      refine r_aload_n hg 1 dX12_pays_608 rfl rfl ?_
      refine r_aload_n hg 1 dX12_pays_609 rfl rfl ?_
      have e48 := ly_12_0 hX k_this
      refine r_getR hg dX12_pays_610 fl_X12_7 k_this rfl e48.1 ?_
      refine r_iload hg 0 dX12_pays_613 rfl ?_
      refine r_bipush hg dX12_pays_615 cb_10 ?_
      refine r_iadd hg dX12_pays_617 ?_
      obtain ⟨v49, e50, h⟩ := q_b1_some h
      refine r_iald hg dX12_pays_618 e48.2 e50 ?_
      obtain ⟨v51, e52, h⟩ := q_b1_some h
      refine r_cV1i hg dX12_pays_619 mt_X12_dueAt ml_X12_75 mv_X12_dueAt k_this (s_X12_dueAt hΓ hX k_this e52) (q_room (Nat.le_of_ble_eq_true rfl) (Nat.le_of_ble_eq_true rfl)) ⟨Nat.zero_le _, Nat.zero_le _⟩ (Nat.le_of_ble_eq_true rfl) ?_
      refine r_iconst hg dX12_pays_622 ci_2 ?_
      refine r_iadd hg dX12_pays_623 ?_
      refine r_iconst hg dX12_pays_624 ci_0 ?_
      obtain ⟨I53, e54, h⟩ := q_b1_some h
      refine r_iast hg dX12_pays_625 e47.2 e54 ?_
      exact r_return hr dX12_pays_626 ⟨Nat.zero_le _, Nat.zero_le _⟩ rfl (by cases h; rfl)
  · rw [if_neg c4] at h
    refine r_aload_n hg 0 dX12_pays_329 rfl rfl ?_
    refine r_iload hg 4 dX12_pays_330 rfl ?_
    obtain ⟨v55, e56, h⟩ := q_b1_some h
    refine r_cV1i hg dX12_pays_332 mt_X12_dueAt ml_X12_75 mv_X12_dueAt k_this (s_X12_dueAt hΓ hX k_this e56) (q_room (Nat.le_of_ble_eq_true rfl) (Nat.le_of_ble_eq_true rfl)) ⟨Nat.zero_le _, Nat.zero_le _⟩ (Nat.le_of_ble_eq_true rfl) ?_
    refine r_istore hg (L' := [(5, .int v55), (0, .ref this), (1, .int x1), (2, .int x2), (3, .int x3), (4, .int x4)]) dX12_pays_335 (by decide) rfl ?_
    refine r_aload_n hg 1 dX12_pays_337 rfl rfl ?_
    have e57 := ly_12_0 hX k_this
    refine r_getR hg dX12_pays_338 fl_X12_7 k_this rfl e57.1 ?_
    refine r_iload hg 0 dX12_pays_341 rfl ?_
    refine r_iconst hg dX12_pays_343 ci_1 ?_
    refine r_iadd hg dX12_pays_344 ?_
    obtain ⟨v58, e59, h⟩ := q_b1_some h
    refine r_iald hg dX12_pays_345 e57.2 e59 ?_
    refine r_iload_n hg 2 dX12_pays_346 rfl rfl ?_
    refine r_icmp_ne hg 445 dX12_pays_347 (by decide) (fun c60 => ?_) (fun c60 => ?_)
    · rw [if_neg c60] at h
      refine r_sub hg [1, 2, 3, 4, 5] rfl ?_
      exact p_X12_pays_445 hΓ hg hr hX k_this hk318 _ _ _ h
    · rw [if_pos (Classical.not_not.mp c60)] at h
      refine r_aload_n hg 1 dX12_pays_350 rfl rfl ?_
      have e61 := ly_12_0 hX k_this
      refine r_getR hg dX12_pays_351 fl_X12_7 k_this rfl e61.1 ?_
      refine r_iload hg 0 dX12_pays_354 rfl ?_
      refine r_iconst hg dX12_pays_356 ci_5 ?_
      refine r_iadd hg dX12_pays_357 ?_
      obtain ⟨v62, e63, h⟩ := q_b1_some h
      refine r_iald hg dX12_pays_358 e61.2 e63 ?_
      refine r_if_ne hg 445 dX12_pays_359 (by decide) (fun c64 => ?_) (fun c64 => ?_)
      · rw [if_neg c64] at h
        refine r_sub hg [1, 2, 3, 4, 5] rfl ?_
        exact p_X12_pays_445 hΓ hg hr hX k_this hk318 _ _ _ h
      · rw [if_pos (Classical.not_not.mp c64)] at h
        refine r_aload_n hg 1 dX12_pays_362 rfl rfl ?_
        have e65 := ly_12_0 hX k_this
        refine r_getR hg dX12_pays_363 fl_X12_7 k_this rfl e65.1 ?_
        refine r_iload hg 0 dX12_pays_366 rfl ?_
        obtain ⟨v66, e67, h⟩ := q_b1_some h
        refine r_iald hg dX12_pays_368 e65.2 e67 ?_
        refine r_iconst hg dX12_pays_369 ci_5 ?_
        refine r_icmp_ne hg 445 dX12_pays_370 (by decide) (fun c68 => ?_) (fun c68 => ?_)
        · rw [if_neg c68] at h
          refine r_sub hg [1, 2, 3, 4, 5] rfl ?_
          exact p_X12_pays_445 hΓ hg hr hX k_this hk318 _ _ _ h
        · rw [if_pos (Classical.not_not.mp c68)] at h
          refine r_aload_n hg 1 dX12_pays_373 rfl rfl ?_
          refine r_getI hg dX12_pays_374 fl_X12_156 k_this rfl ?_
          refine r_aload_n hg 1 dX12_pays_377 rfl rfl ?_
          have e69 := ly_12_0 hX k_this
          refine r_getR hg dX12_pays_378 fl_X12_7 k_this rfl e69.1 ?_
          refine r_iload hg 0 dX12_pays_381 rfl ?_
          refine r_iconst hg dX12_pays_383 ci_2 ?_
          refine r_iadd hg dX12_pays_384 ?_
          obtain ⟨v70, e71, h⟩ := q_b1_some h
          refine r_iald hg dX12_pays_385 e69.2 e71 ?_
          obtain ⟨v72, e73, h⟩ := q_b1_some h
          refine r_cS2i hg dX12_pays_386 mt_X12_least ⟨ml_X12_138, mst_X12_least⟩ (s_X12_least hΓ hX e73) (q_room (Nat.le_of_ble_eq_true rfl) (Nat.le_of_ble_eq_true rfl)) ⟨Nat.zero_le _, Nat.zero_le _⟩ (Nat.le_of_ble_eq_true rfl) ?_
          refine r_iload_n hg 4 dX12_pays_389 rfl rfl ?_
          refine r_aload_n hg 1 dX12_pays_390 rfl rfl ?_
          refine r_getI hg dX12_pays_391 fl_X12_169 k_this rfl ?_
          refine r_isub hg dX12_pays_394 ?_
          obtain ⟨v74, e75, h⟩ := q_b1_some h
          refine r_cS2i hg dX12_pays_395 mt_X12_least ⟨ml_X12_138, mst_X12_least⟩ (s_X12_least hΓ hX e75) (q_room (Nat.le_of_ble_eq_true rfl) (Nat.le_of_ble_eq_true rfl)) ⟨Nat.zero_le _, Nat.zero_le _⟩ (Nat.le_of_ble_eq_true rfl) ?_
          refine r_istore hg (L' := [(6, .int v74), (5, .int v55), (0, .ref this), (1, .int x1), (2, .int x2), (3, .int x3), (4, .int x4)]) dX12_pays_398 (by decide) rfl ?_
          refine r_aload_n hg 2 dX12_pays_400 rfl rfl ?_
          refine r_dup hg dX12_pays_401 rfl ?_
          refine r_getI hg dX12_pays_402 fl_X12_156 k_this rfl ?_
          refine r_iload hg 0 dX12_pays_405 rfl ?_
          refine r_isub hg dX12_pays_407 ?_
          obtain ⟨I76, e77, h⟩ := q_b1_some h
          obtain rfl := Option.some.inj e77
          refine r_putI hg dX12_pays_408 fl_X12_156 k_this rfl ⟨rfl, rfl⟩ ?_
          refine r_aload_n hg 2 dX12_pays_411 rfl rfl ?_
          refine r_dup hg dX12_pays_412 rfl ?_
          refine r_getI hg dX12_pays_413 fl_X12_169 k_this rfl ?_
          refine r_iload hg 0 dX12_pays_416 rfl ?_
          refine r_iadd hg dX12_pays_418 ?_
          obtain ⟨I78, e79, h⟩ := q_b1_some h
          obtain rfl := Option.some.inj e79
          refine r_putI hg dX12_pays_419 fl_X12_169 k_this rfl ⟨rfl, rfl⟩ ?_
          refine r_aload_n hg 2 dX12_pays_422 rfl rfl ?_
          have e80 := ly_12_0 hX k_this
          refine r_getR hg dX12_pays_423 fl_X12_7 k_this rfl e80.1 ?_
          refine r_iload hg 1 dX12_pays_426 rfl ?_
          refine r_bipush hg dX12_pays_428 cb_7 ?_
          refine r_iadd hg dX12_pays_430 ?_
          refine r_dup2 hg dX12_pays_431 rfl rfl ?_
          obtain ⟨v81, e82, h⟩ := q_b1_some h
          refine r_iald hg dX12_pays_432 e80.2 e82 ?_
          refine r_iload_n hg 4 dX12_pays_433 rfl rfl ?_
          refine r_if_eq hg 442 dX12_pays_434 (by decide) (fun c83 => ?_) (fun c83 => ?_)
          · rw [if_pos c83] at h
            refine r_iconst hg dX12_pays_442 ci_0 ?_
            refine r_sub hg [2, 3, 4, 5, 6] rfl ?_
            exact p_X12_pays_443 hΓ hg hr hX k_this hk318 _ _ _ _ _ _ h
          · rw [if_neg c83] at h
            refine r_iload hg 0 dX12_pays_437 rfl ?_
            refine r_goto hg 443 dX12_pays_439 (by decide) ?_
            refine r_sub hg [2, 3, 4, 5, 6] rfl ?_
            exact p_X12_pays_443 hΓ hg hr hX k_this hk318 _ _ _ _ _ _ h
theorem pl_X12_pays_318 {l : Launch} {Γ : qC} {g : qG} {z : qI} {this : Nat} {x1 : Int32} {x2 : Int32} {X : qX} (hΓ : q_gm Γ) (hg : q_Ok l Γ RX12 cX12_pays 7 (q_rm 6 0 0) "pays" none g) (hr : q_Rt cX12_pays none (q_rm 6 0 0) (none, z, X) g) (hX : q_Lay X) (k_this : q_kd X this = some (14, 42)) : ∀ (n : Nat) (x3 : Int32) (x4 : Int32) (I : qI), q_fix (fun _ _ _ => none) (b_X12_pays_318 this x1 x2) n x3 x4 I = some z → g 0 0 318 [(0, .ref this), (1, .int x1), (2, .int x2), (3, .int x3), (4, .int x4)] [] I X := by
  intro n
  induction n with
  | zero =>
    intro x3 x4 I h
    cases (show (none : Option (qI)) = some z from h)
  | succ n ih =>
    intro x3 x4 I h
    exact p_X12_pays_318 hΓ hg hr hX k_this ih _ _ _ h
def b_X12_pays_309 (this : Nat) (x1 : Int32) (x2 : Int32) (k169 : Int32 → Int32 → qI → Option (qI)) (x3 : Int32) (x4 : Int32) (I : qI) : Option (qI) :=
  k169 x3 (x4 + (nI 1)) I
set_option maxRecDepth 100000 in
set_option maxHeartbeats 4000000 in
theorem p_X12_pays_309 {l : Launch} {Γ : qC} {g : qG} {z : qI} {this : Nat} {x1 : Int32} {x2 : Int32} {X : qX} (hΓ : q_gm Γ) (hg : q_Ok l Γ RX12 cX12_pays 7 (q_rm 6 0 0) "pays" none g) (hr : q_Rt cX12_pays none (q_rm 6 0 0) (none, z, X) g) (hX : q_Lay X) (k_this : q_kd X this = some (14, 42)) {k169 : Int32 → Int32 → qI → Option (qI)} (hk169 : ∀ (x3 : Int32) (x4 : Int32) (I : qI), k169 x3 x4 I = some z → g 0 0 169 [(0, .ref this), (1, .int x1), (2, .int x2), (3, .int x3), (4, .int x4)] [] I X) (x3 : Int32) (x4 : Int32) (I : qI) (h : b_X12_pays_309 this x1 x2 k169 x3 x4 I = some z) : g 0 0 309 [(0, .ref this), (1, .int x1), (2, .int x2), (3, .int x3), (4, .int x4)] [] I X := by
  unfold b_X12_pays_309 at h
  refine r_iinc hg 4 (v := (x4 + (nI 1))) (L' := [(4, .int (x4 + (nI 1))), (0, .ref this), (1, .int x1), (2, .int x2), (3, .int x3)]) dX12_pays_309 rfl (by rw [ci_1]) (by decide) rfl ?_
  refine r_goto hg 169 dX12_pays_312 (by decide) ?_
  refine r_sub hg [1, 2, 3, 4, 0] rfl ?_
  exact hk169 _ _ _ h
def b_X12_pays_308 (this : Nat) (x1 : Int32) (x2 : Int32) (k169 : Int32 → Int32 → qI → Option (qI)) (x3 : Int32) (x4 : Int32) (s1 : Int32) (s2 : Int32) (I : qI) : Option (qI) :=
  q_b1 (q_wr I (this + 1) 3580 s1 s2) fun I2 =>
  b_X12_pays_309 this x1 x2 k169 x3 x4 I2
set_option maxRecDepth 100000 in
set_option maxHeartbeats 4000000 in
theorem p_X12_pays_308 {l : Launch} {Γ : qC} {g : qG} {z : qI} {this : Nat} {x1 : Int32} {x2 : Int32} {X : qX} (hΓ : q_gm Γ) (hg : q_Ok l Γ RX12 cX12_pays 7 (q_rm 6 0 0) "pays" none g) (hr : q_Rt cX12_pays none (q_rm 6 0 0) (none, z, X) g) (hX : q_Lay X) (k_this : q_kd X this = some (14, 42)) {k169 : Int32 → Int32 → qI → Option (qI)} (hk169 : ∀ (x3 : Int32) (x4 : Int32) (I : qI), k169 x3 x4 I = some z → g 0 0 169 [(0, .ref this), (1, .int x1), (2, .int x2), (3, .int x3), (4, .int x4)] [] I X) (x3 : Int32) (x4 : Int32) (s1 : Int32) (s2 : Int32) (I : qI) (h : b_X12_pays_308 this x1 x2 k169 x3 x4 s1 s2 I = some z) : g 0 0 308 [(0, .ref this), (1, .int x1), (2, .int x2), (3, .int x3), (4, .int x4)] [.int s2, .int s1, .ref (this + 1)] I X := by
  unfold b_X12_pays_308 at h
  have e1 := ly_12_0 hX k_this
  obtain ⟨I2, e3, h⟩ := q_b1_some h
  refine r_iast hg dX12_pays_308 e1.2 e3 ?_
  exact p_X12_pays_309 hΓ hg hr hX k_this hk169 _ _ _ h
def b_X12_pays_281 (this : Nat) (x1 : Int32) (x2 : Int32) (k169 : Int32 → Int32 → qI → Option (qI)) (x3 : Int32) (x4 : Int32) (x5 : Int32) (x6 : Int32) (s1 : Int32) (s2 : Int32) (I : qI) : Option (qI) :=
  q_b1 (q_wr I (this + 1) 3580 s1 s2) fun I2 =>
  if x2 = 0 then
    q_b1 (q_rd I2 (this + 1) 3580 (x5 + (nI 2))) fun v7 =>
    b_X12_pays_308 this x1 x2 k169 x3 x4 (x5 + (nI 2)) v7 I2
  else
    b_X12_pays_308 this x1 x2 k169 x3 x4 (x5 + (nI 2)) x6 I2
set_option maxRecDepth 100000 in
set_option maxHeartbeats 4000000 in
theorem p_X12_pays_281 {l : Launch} {Γ : qC} {g : qG} {z : qI} {this : Nat} {x1 : Int32} {x2 : Int32} {X : qX} (hΓ : q_gm Γ) (hg : q_Ok l Γ RX12 cX12_pays 7 (q_rm 6 0 0) "pays" none g) (hr : q_Rt cX12_pays none (q_rm 6 0 0) (none, z, X) g) (hX : q_Lay X) (k_this : q_kd X this = some (14, 42)) {k169 : Int32 → Int32 → qI → Option (qI)} (hk169 : ∀ (x3 : Int32) (x4 : Int32) (I : qI), k169 x3 x4 I = some z → g 0 0 169 [(0, .ref this), (1, .int x1), (2, .int x2), (3, .int x3), (4, .int x4)] [] I X) (x3 : Int32) (x4 : Int32) (x5 : Int32) (x6 : Int32) (s1 : Int32) (s2 : Int32) (I : qI) (h : b_X12_pays_281 this x1 x2 k169 x3 x4 x5 x6 s1 s2 I = some z) : g 0 0 281 [(0, .ref this), (1, .int x1), (2, .int x2), (3, .int x3), (4, .int x4), (5, .int x5), (6, .int x6)] [.int s2, .int s1, .ref (this + 1)] I X := by
  unfold b_X12_pays_281 at h
  have e1 := ly_12_0 hX k_this
  obtain ⟨I2, e3, h⟩ := q_b1_some h
  refine r_iast hg dX12_pays_281 e1.2 e3 ?_
  refine r_aload_n hg 0 dX12_pays_282 rfl rfl ?_
  have e4 := ly_12_0 hX k_this
  refine r_getR hg dX12_pays_283 fl_X12_7 k_this rfl e4.1 ?_
  refine r_iload hg 5 dX12_pays_286 rfl ?_
  refine r_iconst hg dX12_pays_288 ci_2 ?_
  refine r_iadd hg dX12_pays_289 ?_
  refine r_iload_n hg 2 dX12_pays_290 rfl rfl ?_
  refine r_if_eq hg 299 dX12_pays_291 (by decide) (fun c5 => ?_) (fun c5 => ?_)
  · rw [if_pos c5] at h
    refine r_aload_n hg 0 dX12_pays_299 rfl rfl ?_
    have e6 := ly_12_0 hX k_this
    refine r_getR hg dX12_pays_300 fl_X12_7 k_this rfl e6.1 ?_
    refine r_iload hg 5 dX12_pays_303 rfl ?_
    refine r_iconst hg dX12_pays_305 ci_2 ?_
    refine r_iadd hg dX12_pays_306 ?_
    obtain ⟨v7, e8, h⟩ := q_b1_some h
    refine r_iald hg dX12_pays_307 e6.2 e8 ?_
    refine r_sub hg [0, 1, 2, 3, 4] rfl ?_
    exact p_X12_pays_308 hΓ hg hr hX k_this hk169 _ _ _ _ _ h
  · rw [if_neg c5] at h
    refine r_iload hg 6 dX12_pays_294 rfl ?_
    refine r_goto hg 308 dX12_pays_296 (by decide) ?_
    refine r_sub hg [0, 1, 2, 3, 4] rfl ?_
    exact p_X12_pays_308 hΓ hg hr hX k_this hk169 _ _ _ _ _ h
def b_X12_pays_169 (this : Nat) (x1 : Int32) (x2 : Int32) (k169 : Int32 → Int32 → qI → Option (qI)) (x3 : Int32) (x4 : Int32) (I : qI) : Option (qI) :=
  q_b1 (q_rd I (this + 1) 3580 (nI 3)) fun v2 =>
  if v2 ≤ x4 then
    q_fix (fun _ _ _ => none) (b_X12_pays_318 this x1 x2) q_fu x3 (nI 0) I
  else
    q_b1 (f_X12_dueAt this x4) fun v5 =>
    q_b1 (q_rd I (this + 1) 3580 (v5 + (nI 1))) fun v8 =>
    if v8 = x1 then
      q_b1 (q_rd I (this + 1) 3580 (v5 + (nI 5))) fun v12 =>
      if v12 = 0 then
        q_b1 (q_rd I (this + 1) 3580 v5) fun v16 =>
        if v16 = (nI 4) then
          q_b1 (q_rd I (this + 1) 3580 (v5 + (nI 2))) fun v20 =>
          q_b1 (f_X12_least (I this 7) v20) fun v22 =>
          q_b1 (some (q_up I this 7 ((I this 7) - v22))) fun I24 =>
          q_b1 (some (q_up I24 this 10 ((I24 this 10) + v22))) fun I26 =>
          if x2 = 0 then
            b_X12_pays_281 this x1 x2 k169 x3 x4 v5 v22 (v5 + (nI 5)) (nI 0) I26
          else
            b_X12_pays_281 this x1 x2 k169 x3 x4 v5 v22 (v5 + (nI 5)) (nI 1) I26
        else
          b_X12_pays_309 this x1 x2 k169 x3 x4 I
      else
        b_X12_pays_309 this x1 x2 k169 x3 x4 I
    else
      b_X12_pays_309 this x1 x2 k169 x3 x4 I
set_option maxRecDepth 100000 in
set_option maxHeartbeats 4000000 in
theorem p_X12_pays_169 {l : Launch} {Γ : qC} {g : qG} {z : qI} {this : Nat} {x1 : Int32} {x2 : Int32} {X : qX} (hΓ : q_gm Γ) (hg : q_Ok l Γ RX12 cX12_pays 7 (q_rm 6 0 0) "pays" none g) (hr : q_Rt cX12_pays none (q_rm 6 0 0) (none, z, X) g) (hX : q_Lay X) (k_this : q_kd X this = some (14, 42)) {k169 : Int32 → Int32 → qI → Option (qI)} (hk169 : ∀ (x3 : Int32) (x4 : Int32) (I : qI), k169 x3 x4 I = some z → g 0 0 169 [(0, .ref this), (1, .int x1), (2, .int x2), (3, .int x3), (4, .int x4)] [] I X) (x3 : Int32) (x4 : Int32) (I : qI) (h : b_X12_pays_169 this x1 x2 k169 x3 x4 I = some z) : g 0 0 169 [(0, .ref this), (1, .int x1), (2, .int x2), (3, .int x3), (4, .int x4)] [] I X := by
  unfold b_X12_pays_169 at h
  refine r_iload hg 4 dX12_pays_169 rfl ?_
  refine r_aload_n hg 0 dX12_pays_171 rfl rfl ?_
  have e1 := ly_12_0 hX k_this
  refine r_getR hg dX12_pays_172 fl_X12_7 k_this rfl e1.1 ?_
  refine r_iconst hg dX12_pays_175 ci_3 ?_
  obtain ⟨v2, e3, h⟩ := q_b1_some h
  refine r_iald hg dX12_pays_176 e1.2 e3 ?_
  refine r_icmp_ge hg 315 dX12_pays_177 (by decide) (fun c4 => ?_) (fun c4 => ?_)
  · rw [if_pos c4] at h
    refine r_iconst hg dX12_pays_315 ci_0 ?_
    refine r_istore hg (L' := [(4, .int (nI 0)), (0, .ref this), (1, .int x1), (2, .int x2), (3, .int x3)]) dX12_pays_316 (by decide) rfl ?_
    refine r_sub hg [1, 2, 3, 4, 0] rfl ?_
    exact pl_X12_pays_318 hΓ hg hr hX k_this _ _ _ _ h
  · rw [if_neg c4] at h
    refine r_aload_n hg 0 dX12_pays_180 rfl rfl ?_
    refine r_iload hg 4 dX12_pays_181 rfl ?_
    obtain ⟨v5, e6, h⟩ := q_b1_some h
    refine r_cV1i hg dX12_pays_183 mt_X12_dueAt ml_X12_75 mv_X12_dueAt k_this (s_X12_dueAt hΓ hX k_this e6) (q_room (Nat.le_of_ble_eq_true rfl) (Nat.le_of_ble_eq_true rfl)) ⟨Nat.zero_le _, Nat.zero_le _⟩ (Nat.le_of_ble_eq_true rfl) ?_
    refine r_istore hg (L' := [(5, .int v5), (0, .ref this), (1, .int x1), (2, .int x2), (3, .int x3), (4, .int x4)]) dX12_pays_186 (by decide) rfl ?_
    refine r_aload_n hg 1 dX12_pays_188 rfl rfl ?_
    have e7 := ly_12_0 hX k_this
    refine r_getR hg dX12_pays_189 fl_X12_7 k_this rfl e7.1 ?_
    refine r_iload hg 0 dX12_pays_192 rfl ?_
    refine r_iconst hg dX12_pays_194 ci_1 ?_
    refine r_iadd hg dX12_pays_195 ?_
    obtain ⟨v8, e9, h⟩ := q_b1_some h
    refine r_iald hg dX12_pays_196 e7.2 e9 ?_
    refine r_iload_n hg 2 dX12_pays_197 rfl rfl ?_
    refine r_icmp_ne hg 309 dX12_pays_198 (by decide) (fun c10 => ?_) (fun c10 => ?_)
    · rw [if_neg c10] at h
      refine r_sub hg [1, 2, 3, 4, 5] rfl ?_
      exact p_X12_pays_309 hΓ hg hr hX k_this hk169 _ _ _ h
    · rw [if_pos (Classical.not_not.mp c10)] at h
      refine r_aload_n hg 1 dX12_pays_201 rfl rfl ?_
      have e11 := ly_12_0 hX k_this
      refine r_getR hg dX12_pays_202 fl_X12_7 k_this rfl e11.1 ?_
      refine r_iload hg 0 dX12_pays_205 rfl ?_
      refine r_iconst hg dX12_pays_207 ci_5 ?_
      refine r_iadd hg dX12_pays_208 ?_
      obtain ⟨v12, e13, h⟩ := q_b1_some h
      refine r_iald hg dX12_pays_209 e11.2 e13 ?_
      refine r_if_ne hg 309 dX12_pays_210 (by decide) (fun c14 => ?_) (fun c14 => ?_)
      · rw [if_neg c14] at h
        refine r_sub hg [1, 2, 3, 4, 5] rfl ?_
        exact p_X12_pays_309 hΓ hg hr hX k_this hk169 _ _ _ h
      · rw [if_pos (Classical.not_not.mp c14)] at h
        refine r_aload_n hg 1 dX12_pays_213 rfl rfl ?_
        have e15 := ly_12_0 hX k_this
        refine r_getR hg dX12_pays_214 fl_X12_7 k_this rfl e15.1 ?_
        refine r_iload hg 0 dX12_pays_217 rfl ?_
        obtain ⟨v16, e17, h⟩ := q_b1_some h
        refine r_iald hg dX12_pays_219 e15.2 e17 ?_
        refine r_iconst hg dX12_pays_220 ci_4 ?_
        refine r_icmp_ne hg 309 dX12_pays_221 (by decide) (fun c18 => ?_) (fun c18 => ?_)
        · rw [if_neg c18] at h
          refine r_sub hg [1, 2, 3, 4, 5] rfl ?_
          exact p_X12_pays_309 hΓ hg hr hX k_this hk169 _ _ _ h
        · rw [if_pos (Classical.not_not.mp c18)] at h
          refine r_aload_n hg 1 dX12_pays_224 rfl rfl ?_
          refine r_getI hg dX12_pays_225 fl_X12_156 k_this rfl ?_
          refine r_aload_n hg 1 dX12_pays_228 rfl rfl ?_
          have e19 := ly_12_0 hX k_this
          refine r_getR hg dX12_pays_229 fl_X12_7 k_this rfl e19.1 ?_
          refine r_iload hg 0 dX12_pays_232 rfl ?_
          refine r_iconst hg dX12_pays_234 ci_2 ?_
          refine r_iadd hg dX12_pays_235 ?_
          obtain ⟨v20, e21, h⟩ := q_b1_some h
          refine r_iald hg dX12_pays_236 e19.2 e21 ?_
          obtain ⟨v22, e23, h⟩ := q_b1_some h
          refine r_cS2i hg dX12_pays_237 mt_X12_least ⟨ml_X12_138, mst_X12_least⟩ (s_X12_least hΓ hX e23) (q_room (Nat.le_of_ble_eq_true rfl) (Nat.le_of_ble_eq_true rfl)) ⟨Nat.zero_le _, Nat.zero_le _⟩ (Nat.le_of_ble_eq_true rfl) ?_
          refine r_istore hg (L' := [(6, .int v22), (5, .int v5), (0, .ref this), (1, .int x1), (2, .int x2), (3, .int x3), (4, .int x4)]) dX12_pays_240 (by decide) rfl ?_
          refine r_aload_n hg 2 dX12_pays_242 rfl rfl ?_
          refine r_dup hg dX12_pays_243 rfl ?_
          refine r_getI hg dX12_pays_244 fl_X12_156 k_this rfl ?_
          refine r_iload hg 0 dX12_pays_247 rfl ?_
          refine r_isub hg dX12_pays_249 ?_
          obtain ⟨I24, e25, h⟩ := q_b1_some h
          obtain rfl := Option.some.inj e25
          refine r_putI hg dX12_pays_250 fl_X12_156 k_this rfl ⟨rfl, rfl⟩ ?_
          refine r_aload_n hg 2 dX12_pays_253 rfl rfl ?_
          refine r_dup hg dX12_pays_254 rfl ?_
          refine r_getI hg dX12_pays_255 fl_X12_166 k_this rfl ?_
          refine r_iload hg 0 dX12_pays_258 rfl ?_
          refine r_iadd hg dX12_pays_260 ?_
          obtain ⟨I26, e27, h⟩ := q_b1_some h
          obtain rfl := Option.some.inj e27
          refine r_putI hg dX12_pays_261 fl_X12_166 k_this rfl ⟨rfl, rfl⟩ ?_
          refine r_aload_n hg 2 dX12_pays_264 rfl rfl ?_
          have e28 := ly_12_0 hX k_this
          refine r_getR hg dX12_pays_265 fl_X12_7 k_this rfl e28.1 ?_
          refine r_iload hg 1 dX12_pays_268 rfl ?_
          refine r_iconst hg dX12_pays_270 ci_5 ?_
          refine r_iadd hg dX12_pays_271 ?_
          refine r_iload_n hg 4 dX12_pays_272 rfl rfl ?_
          refine r_if_eq hg 280 dX12_pays_273 (by decide) (fun c29 => ?_) (fun c29 => ?_)
          · rw [if_pos c29] at h
            refine r_iconst hg dX12_pays_280 ci_0 ?_
            refine r_sub hg [2, 3, 4, 5, 6, 1, 0] rfl ?_
            exact p_X12_pays_281 hΓ hg hr hX k_this hk169 _ _ _ _ _ _ _ h
          · rw [if_neg c29] at h
            refine r_iconst hg dX12_pays_276 ci_1 ?_
            refine r_goto hg 281 dX12_pays_277 (by decide) ?_
            refine r_sub hg [2, 3, 4, 5, 6, 1, 0] rfl ?_
            exact p_X12_pays_281 hΓ hg hr hX k_this hk169 _ _ _ _ _ _ _ h
theorem pl_X12_pays_169 {l : Launch} {Γ : qC} {g : qG} {z : qI} {this : Nat} {x1 : Int32} {x2 : Int32} {X : qX} (hΓ : q_gm Γ) (hg : q_Ok l Γ RX12 cX12_pays 7 (q_rm 6 0 0) "pays" none g) (hr : q_Rt cX12_pays none (q_rm 6 0 0) (none, z, X) g) (hX : q_Lay X) (k_this : q_kd X this = some (14, 42)) : ∀ (n : Nat) (x3 : Int32) (x4 : Int32) (I : qI), q_fix (fun _ _ _ => none) (b_X12_pays_169 this x1 x2) n x3 x4 I = some z → g 0 0 169 [(0, .ref this), (1, .int x1), (2, .int x2), (3, .int x3), (4, .int x4)] [] I X := by
  intro n
  induction n with
  | zero =>
    intro x3 x4 I h
    cases (show (none : Option (qI)) = some z from h)
  | succ n ih =>
    intro x3 x4 I h
    exact p_X12_pays_169 hΓ hg hr hX k_this ih _ _ _ h
def b_X12_pays_160 (this : Nat) (x1 : Int32) (x2 : Int32) (k36 : Int32 → Int32 → qI → Option (qI)) (x3 : Int32) (x4 : Int32) (I : qI) : Option (qI) :=
  k36 x3 (x4 + (nI 1)) I
set_option maxRecDepth 100000 in
set_option maxHeartbeats 4000000 in
theorem p_X12_pays_160 {l : Launch} {Γ : qC} {g : qG} {z : qI} {this : Nat} {x1 : Int32} {x2 : Int32} {X : qX} (hΓ : q_gm Γ) (hg : q_Ok l Γ RX12 cX12_pays 7 (q_rm 6 0 0) "pays" none g) (hr : q_Rt cX12_pays none (q_rm 6 0 0) (none, z, X) g) (hX : q_Lay X) (k_this : q_kd X this = some (14, 42)) {k36 : Int32 → Int32 → qI → Option (qI)} (hk36 : ∀ (x3 : Int32) (x4 : Int32) (I : qI), k36 x3 x4 I = some z → g 0 0 36 [(0, .ref this), (1, .int x1), (2, .int x2), (3, .int x3), (4, .int x4)] [] I X) (x3 : Int32) (x4 : Int32) (I : qI) (h : b_X12_pays_160 this x1 x2 k36 x3 x4 I = some z) : g 0 0 160 [(0, .ref this), (1, .int x1), (2, .int x2), (3, .int x3), (4, .int x4)] [] I X := by
  unfold b_X12_pays_160 at h
  refine r_iinc hg 4 (v := (x4 + (nI 1))) (L' := [(4, .int (x4 + (nI 1))), (0, .ref this), (1, .int x1), (2, .int x2), (3, .int x3)]) dX12_pays_160 rfl (by rw [ci_1]) (by decide) rfl ?_
  refine r_goto hg 36 dX12_pays_163 (by decide) ?_
  refine r_sub hg [1, 2, 3, 4, 0] rfl ?_
  exact hk36 _ _ _ h
def b_X12_pays_159 (this : Nat) (x1 : Int32) (x2 : Int32) (k36 : Int32 → Int32 → qI → Option (qI)) (x3 : Int32) (x4 : Int32) (s1 : Int32) (s2 : Int32) (I : qI) : Option (qI) :=
  q_b1 (q_wr I (this + 1) 3580 s1 s2) fun I2 =>
  b_X12_pays_160 this x1 x2 k36 x3 x4 I2
set_option maxRecDepth 100000 in
set_option maxHeartbeats 4000000 in
theorem p_X12_pays_159 {l : Launch} {Γ : qC} {g : qG} {z : qI} {this : Nat} {x1 : Int32} {x2 : Int32} {X : qX} (hΓ : q_gm Γ) (hg : q_Ok l Γ RX12 cX12_pays 7 (q_rm 6 0 0) "pays" none g) (hr : q_Rt cX12_pays none (q_rm 6 0 0) (none, z, X) g) (hX : q_Lay X) (k_this : q_kd X this = some (14, 42)) {k36 : Int32 → Int32 → qI → Option (qI)} (hk36 : ∀ (x3 : Int32) (x4 : Int32) (I : qI), k36 x3 x4 I = some z → g 0 0 36 [(0, .ref this), (1, .int x1), (2, .int x2), (3, .int x3), (4, .int x4)] [] I X) (x3 : Int32) (x4 : Int32) (s1 : Int32) (s2 : Int32) (I : qI) (h : b_X12_pays_159 this x1 x2 k36 x3 x4 s1 s2 I = some z) : g 0 0 159 [(0, .ref this), (1, .int x1), (2, .int x2), (3, .int x3), (4, .int x4)] [.int s2, .int s1, .ref (this + 1)] I X := by
  unfold b_X12_pays_159 at h
  have e1 := ly_12_0 hX k_this
  obtain ⟨I2, e3, h⟩ := q_b1_some h
  refine r_iast hg dX12_pays_159 e1.2 e3 ?_
  exact p_X12_pays_160 hΓ hg hr hX k_this hk36 _ _ _ h
def b_X12_pays_102 (this : Nat) (x1 : Int32) (x2 : Int32) (k36 : Int32 → Int32 → qI → Option (qI)) (x3 : Int32) (x4 : Int32) (x5 : Int32) (I : qI) : Option (qI) :=
  q_b1 (q_rd I (this + 1) 3580 (x5 + (nI 2))) fun v2 =>
  q_b1 (f_X12_least (I this 7) v2) fun v4 =>
  q_b1 (some (q_up I this 7 ((I this 7) - v4))) fun I6 =>
  q_b1 (some (q_up I6 this 9 ((I6 this 9) + v4))) fun I8 =>
  if x2 = 0 then
    b_X12_pays_159 this x1 x2 k36 x3 x4 (x5 + (nI 5)) (nI 0) I8
  else
    b_X12_pays_159 this x1 x2 k36 x3 x4 (x5 + (nI 5)) (nI 1) I8
set_option maxRecDepth 100000 in
set_option maxHeartbeats 4000000 in
theorem p_X12_pays_102 {l : Launch} {Γ : qC} {g : qG} {z : qI} {this : Nat} {x1 : Int32} {x2 : Int32} {X : qX} (hΓ : q_gm Γ) (hg : q_Ok l Γ RX12 cX12_pays 7 (q_rm 6 0 0) "pays" none g) (hr : q_Rt cX12_pays none (q_rm 6 0 0) (none, z, X) g) (hX : q_Lay X) (k_this : q_kd X this = some (14, 42)) {k36 : Int32 → Int32 → qI → Option (qI)} (hk36 : ∀ (x3 : Int32) (x4 : Int32) (I : qI), k36 x3 x4 I = some z → g 0 0 36 [(0, .ref this), (1, .int x1), (2, .int x2), (3, .int x3), (4, .int x4)] [] I X) (x3 : Int32) (x4 : Int32) (x5 : Int32) (I : qI) (h : b_X12_pays_102 this x1 x2 k36 x3 x4 x5 I = some z) : g 0 0 102 [(0, .ref this), (1, .int x1), (2, .int x2), (3, .int x3), (4, .int x4), (5, .int x5)] [] I X := by
  unfold b_X12_pays_102 at h
  refine r_aload_n hg 0 dX12_pays_102 rfl rfl ?_
  refine r_getI hg dX12_pays_103 fl_X12_156 k_this rfl ?_
  refine r_aload_n hg 0 dX12_pays_106 rfl rfl ?_
  have e1 := ly_12_0 hX k_this
  refine r_getR hg dX12_pays_107 fl_X12_7 k_this rfl e1.1 ?_
  refine r_iload hg 5 dX12_pays_110 rfl ?_
  refine r_iconst hg dX12_pays_112 ci_2 ?_
  refine r_iadd hg dX12_pays_113 ?_
  obtain ⟨v2, e3, h⟩ := q_b1_some h
  refine r_iald hg dX12_pays_114 e1.2 e3 ?_
  obtain ⟨v4, e5, h⟩ := q_b1_some h
  refine r_cS2i hg dX12_pays_115 mt_X12_least ⟨ml_X12_138, mst_X12_least⟩ (s_X12_least hΓ hX e5) (q_room (Nat.le_of_ble_eq_true rfl) (Nat.le_of_ble_eq_true rfl)) ⟨Nat.zero_le _, Nat.zero_le _⟩ (Nat.le_of_ble_eq_true rfl) ?_
  refine r_istore hg (L' := [(6, .int v4), (0, .ref this), (1, .int x1), (2, .int x2), (3, .int x3), (4, .int x4), (5, .int x5)]) dX12_pays_118 (by decide) rfl ?_
  refine r_aload_n hg 1 dX12_pays_120 rfl rfl ?_
  refine r_dup hg dX12_pays_121 rfl ?_
  refine r_getI hg dX12_pays_122 fl_X12_156 k_this rfl ?_
  refine r_iload hg 0 dX12_pays_125 rfl ?_
  refine r_isub hg dX12_pays_127 ?_
  obtain ⟨I6, e7, h⟩ := q_b1_some h
  obtain rfl := Option.some.inj e7
  refine r_putI hg dX12_pays_128 fl_X12_156 k_this rfl ⟨rfl, rfl⟩ ?_
  refine r_aload_n hg 1 dX12_pays_131 rfl rfl ?_
  refine r_dup hg dX12_pays_132 rfl ?_
  refine r_getI hg dX12_pays_133 fl_X12_163 k_this rfl ?_
  refine r_iload hg 0 dX12_pays_136 rfl ?_
  refine r_iadd hg dX12_pays_138 ?_
  obtain ⟨I8, e9, h⟩ := q_b1_some h
  obtain rfl := Option.some.inj e9
  refine r_putI hg dX12_pays_139 fl_X12_163 k_this rfl ⟨rfl, rfl⟩ ?_
  refine r_aload_n hg 1 dX12_pays_142 rfl rfl ?_
  have e10 := ly_12_0 hX k_this
  refine r_getR hg dX12_pays_143 fl_X12_7 k_this rfl e10.1 ?_
  refine r_iload hg 6 dX12_pays_146 rfl ?_
  refine r_iconst hg dX12_pays_148 ci_5 ?_
  refine r_iadd hg dX12_pays_149 ?_
  refine r_iload_n hg 3 dX12_pays_150 rfl rfl ?_
  refine r_if_eq hg 158 dX12_pays_151 (by decide) (fun c11 => ?_) (fun c11 => ?_)
  · rw [if_pos c11] at h
    refine r_iconst hg dX12_pays_158 ci_0 ?_
    refine r_sub hg [1, 2, 3, 4, 5] rfl ?_
    exact p_X12_pays_159 hΓ hg hr hX k_this hk36 _ _ _ _ _ h
  · rw [if_neg c11] at h
    refine r_iconst hg dX12_pays_154 ci_1 ?_
    refine r_goto hg 159 dX12_pays_155 (by decide) ?_
    refine r_sub hg [1, 2, 3, 4, 5] rfl ?_
    exact p_X12_pays_159 hΓ hg hr hX k_this hk36 _ _ _ _ _ h
def b_X12_pays_36 (this : Nat) (x1 : Int32) (x2 : Int32) (k36 : Int32 → Int32 → qI → Option (qI)) (x3 : Int32) (x4 : Int32) (I : qI) : Option (qI) :=
  q_b1 (q_rd I (this + 1) 3580 (nI 3)) fun v2 =>
  if v2 ≤ x4 then
    q_fix (fun _ _ _ => none) (b_X12_pays_169 this x1 x2) q_fu x3 (nI 0) I
  else
    q_b1 (f_X12_dueAt this x4) fun v5 =>
    q_b1 (q_rd I (this + 1) 3580 (v5 + (nI 1))) fun v8 =>
    if v8 = x1 then
      q_b1 (q_rd I (this + 1) 3580 (v5 + (nI 5))) fun v12 =>
      if v12 = 0 then
        q_b1 (q_rd I (this + 1) 3580 v5) fun v16 =>
        if v16 = (nI 2) then
          b_X12_pays_102 this x1 x2 k36 x3 x4 v5 I
        else
          q_b1 (q_rd I (this + 1) 3580 v5) fun v20 =>
          if v20 = (nI 3) then
            b_X12_pays_102 this x1 x2 k36 x3 x4 v5 I
          else
            b_X12_pays_160 this x1 x2 k36 x3 x4 I
      else
        b_X12_pays_160 this x1 x2 k36 x3 x4 I
    else
      b_X12_pays_160 this x1 x2 k36 x3 x4 I
set_option maxRecDepth 100000 in
set_option maxHeartbeats 4000000 in
theorem p_X12_pays_36 {l : Launch} {Γ : qC} {g : qG} {z : qI} {this : Nat} {x1 : Int32} {x2 : Int32} {X : qX} (hΓ : q_gm Γ) (hg : q_Ok l Γ RX12 cX12_pays 7 (q_rm 6 0 0) "pays" none g) (hr : q_Rt cX12_pays none (q_rm 6 0 0) (none, z, X) g) (hX : q_Lay X) (k_this : q_kd X this = some (14, 42)) {k36 : Int32 → Int32 → qI → Option (qI)} (hk36 : ∀ (x3 : Int32) (x4 : Int32) (I : qI), k36 x3 x4 I = some z → g 0 0 36 [(0, .ref this), (1, .int x1), (2, .int x2), (3, .int x3), (4, .int x4)] [] I X) (x3 : Int32) (x4 : Int32) (I : qI) (h : b_X12_pays_36 this x1 x2 k36 x3 x4 I = some z) : g 0 0 36 [(0, .ref this), (1, .int x1), (2, .int x2), (3, .int x3), (4, .int x4)] [] I X := by
  unfold b_X12_pays_36 at h
  refine r_iload hg 4 dX12_pays_36 rfl ?_
  refine r_aload_n hg 0 dX12_pays_38 rfl rfl ?_
  have e1 := ly_12_0 hX k_this
  refine r_getR hg dX12_pays_39 fl_X12_7 k_this rfl e1.1 ?_
  refine r_iconst hg dX12_pays_42 ci_3 ?_
  obtain ⟨v2, e3, h⟩ := q_b1_some h
  refine r_iald hg dX12_pays_43 e1.2 e3 ?_
  refine r_icmp_ge hg 166 dX12_pays_44 (by decide) (fun c4 => ?_) (fun c4 => ?_)
  · rw [if_pos c4] at h
    refine r_iconst hg dX12_pays_166 ci_0 ?_
    refine r_istore hg (L' := [(4, .int (nI 0)), (0, .ref this), (1, .int x1), (2, .int x2), (3, .int x3)]) dX12_pays_167 (by decide) rfl ?_
    refine r_sub hg [1, 2, 3, 4, 0] rfl ?_
    exact pl_X12_pays_169 hΓ hg hr hX k_this _ _ _ _ h
  · rw [if_neg c4] at h
    refine r_aload_n hg 0 dX12_pays_47 rfl rfl ?_
    refine r_iload hg 4 dX12_pays_48 rfl ?_
    obtain ⟨v5, e6, h⟩ := q_b1_some h
    refine r_cV1i hg dX12_pays_50 mt_X12_dueAt ml_X12_75 mv_X12_dueAt k_this (s_X12_dueAt hΓ hX k_this e6) (q_room (Nat.le_of_ble_eq_true rfl) (Nat.le_of_ble_eq_true rfl)) ⟨Nat.zero_le _, Nat.zero_le _⟩ (Nat.le_of_ble_eq_true rfl) ?_
    refine r_istore hg (L' := [(5, .int v5), (0, .ref this), (1, .int x1), (2, .int x2), (3, .int x3), (4, .int x4)]) dX12_pays_53 (by decide) rfl ?_
    refine r_aload_n hg 1 dX12_pays_55 rfl rfl ?_
    have e7 := ly_12_0 hX k_this
    refine r_getR hg dX12_pays_56 fl_X12_7 k_this rfl e7.1 ?_
    refine r_iload hg 0 dX12_pays_59 rfl ?_
    refine r_iconst hg dX12_pays_61 ci_1 ?_
    refine r_iadd hg dX12_pays_62 ?_
    obtain ⟨v8, e9, h⟩ := q_b1_some h
    refine r_iald hg dX12_pays_63 e7.2 e9 ?_
    refine r_iload_n hg 2 dX12_pays_64 rfl rfl ?_
    refine r_icmp_ne hg 160 dX12_pays_65 (by decide) (fun c10 => ?_) (fun c10 => ?_)
    · rw [if_neg c10] at h
      refine r_sub hg [1, 2, 3, 4, 5] rfl ?_
      exact p_X12_pays_160 hΓ hg hr hX k_this hk36 _ _ _ h
    · rw [if_pos (Classical.not_not.mp c10)] at h
      refine r_aload_n hg 1 dX12_pays_68 rfl rfl ?_
      have e11 := ly_12_0 hX k_this
      refine r_getR hg dX12_pays_69 fl_X12_7 k_this rfl e11.1 ?_
      refine r_iload hg 0 dX12_pays_72 rfl ?_
      refine r_iconst hg dX12_pays_74 ci_5 ?_
      refine r_iadd hg dX12_pays_75 ?_
      obtain ⟨v12, e13, h⟩ := q_b1_some h
      refine r_iald hg dX12_pays_76 e11.2 e13 ?_
      refine r_if_ne hg 160 dX12_pays_77 (by decide) (fun c14 => ?_) (fun c14 => ?_)
      · rw [if_neg c14] at h
        refine r_sub hg [1, 2, 3, 4, 5] rfl ?_
        exact p_X12_pays_160 hΓ hg hr hX k_this hk36 _ _ _ h
      · rw [if_pos (Classical.not_not.mp c14)] at h
        refine r_aload_n hg 1 dX12_pays_80 rfl rfl ?_
        have e15 := ly_12_0 hX k_this
        refine r_getR hg dX12_pays_81 fl_X12_7 k_this rfl e15.1 ?_
        refine r_iload hg 0 dX12_pays_84 rfl ?_
        obtain ⟨v16, e17, h⟩ := q_b1_some h
        refine r_iald hg dX12_pays_86 e15.2 e17 ?_
        refine r_iconst hg dX12_pays_87 ci_2 ?_
        refine r_icmp_eq hg 102 dX12_pays_88 (by decide) (fun c18 => ?_) (fun c18 => ?_)
        · rw [if_pos c18] at h
          refine r_sub hg [1, 2, 3, 4, 5, 0] rfl ?_
          exact p_X12_pays_102 hΓ hg hr hX k_this hk36 _ _ _ _ h
        · rw [if_neg c18] at h
          refine r_aload_n hg 1 dX12_pays_91 rfl rfl ?_
          have e19 := ly_12_0 hX k_this
          refine r_getR hg dX12_pays_92 fl_X12_7 k_this rfl e19.1 ?_
          refine r_iload hg 0 dX12_pays_95 rfl ?_
          obtain ⟨v20, e21, h⟩ := q_b1_some h
          refine r_iald hg dX12_pays_97 e19.2 e21 ?_
          refine r_iconst hg dX12_pays_98 ci_3 ?_
          refine r_icmp_ne hg 160 dX12_pays_99 (by decide) (fun c22 => ?_) (fun c22 => ?_)
          · rw [if_neg c22] at h
            refine r_sub hg [1, 2, 3, 4, 5] rfl ?_
            exact p_X12_pays_160 hΓ hg hr hX k_this hk36 _ _ _ h
          · rw [if_pos (Classical.not_not.mp c22)] at h
            refine r_sub hg [1, 2, 3, 4, 5, 0] rfl ?_
            exact p_X12_pays_102 hΓ hg hr hX k_this hk36 _ _ _ _ h
theorem pl_X12_pays_36 {l : Launch} {Γ : qC} {g : qG} {z : qI} {this : Nat} {x1 : Int32} {x2 : Int32} {X : qX} (hΓ : q_gm Γ) (hg : q_Ok l Γ RX12 cX12_pays 7 (q_rm 6 0 0) "pays" none g) (hr : q_Rt cX12_pays none (q_rm 6 0 0) (none, z, X) g) (hX : q_Lay X) (k_this : q_kd X this = some (14, 42)) : ∀ (n : Nat) (x3 : Int32) (x4 : Int32) (I : qI), q_fix (fun _ _ _ => none) (b_X12_pays_36 this x1 x2) n x3 x4 I = some z → g 0 0 36 [(0, .ref this), (1, .int x1), (2, .int x2), (3, .int x3), (4, .int x4)] [] I X := by
  intro n
  induction n with
  | zero =>
    intro x3 x4 I h
    cases (show (none : Option (qI)) = some z from h)
  | succ n ih =>
    intro x3 x4 I h
    exact p_X12_pays_36 hΓ hg hr hX k_this ih _ _ _ h
def f_X12_pays (this : Nat) (x1 : Int32) (x2 : Int32) (I : qI) : Option (qI) :=
  q_b1 (f_X12_earned this x1 I) fun v1 =>
  q_b1 (some (q_up I this 7 v1)) fun I3 =>
  q_b2 (f_X12_stopOf this (I3 this 7) I3) fun v5 I6 =>
  q_b1 (some (q_up I6 this 9 (nI 0))) fun I8 =>
  q_b1 (some (q_up I8 this 10 (nI 0))) fun I10 =>
  q_b1 (some (q_up I10 this 11 (nI 0))) fun I12 =>
  q_fix (fun _ _ _ => none) (b_X12_pays_36 this x1 x2) q_fu v5 (nI 0) I12
set_option maxRecDepth 100000 in
set_option maxHeartbeats 4000000 in
theorem s_X12_pays {l : Launch} {Γ : qC} (hΓ : q_gm Γ) {X : qX} (hX : q_Lay X) {this : Nat} {x1 : Int32} {x2 : Int32} (k_this : q_kd X this = some (14, 42)) {I : qI} {z : qI} (h : f_X12_pays this x1 x2 I = some z) : q_Sem l Γ (q_rm 6 0 0) yX12_pays cX12_pays 7 none [.ref this, .int x1, .int x2] I X (none, z, X) := by
  refine q_met (by decide) (Nat.le_of_ble_eq_true rfl) (fun g hg hr => ?_)
  unfold f_X12_pays at h
  show g 0 0 0 [(0, .ref this), (1, .int x1), (2, .int x2)] [] I X
  refine r_aload_n hg 0 dX12_pays_0 rfl rfl ?_
  refine r_aload_n hg 0 dX12_pays_1 rfl rfl ?_
  refine r_iload_n hg 1 dX12_pays_2 rfl rfl ?_
  obtain ⟨v1, e2, h⟩ := q_b1_some h
  refine r_cV1i hg dX12_pays_3 mt_X12_earned ml_X12_115 mv_X12_earned k_this (s_X12_earned hΓ hX k_this e2) (q_room (Nat.le_of_ble_eq_true rfl) (Nat.le_of_ble_eq_true rfl)) ⟨Nat.zero_le _, Nat.zero_le _⟩ (Nat.le_of_ble_eq_true rfl) ?_
  obtain ⟨I3, e4, h⟩ := q_b1_some h
  obtain rfl := Option.some.inj e4
  refine r_putI hg dX12_pays_6 fl_X12_156 k_this rfl ⟨rfl, rfl⟩ ?_
  refine r_aload_n hg 0 dX12_pays_9 rfl rfl ?_
  refine r_aload_n hg 0 dX12_pays_10 rfl rfl ?_
  refine r_getI hg dX12_pays_11 fl_X12_156 k_this rfl ?_
  obtain ⟨v5, I6, e7, h⟩ := q_b2_some h
  refine r_cV1i hg dX12_pays_14 mt_X12_stopOf ml_X12_160 mv_X12_stopOf k_this (s_X12_stopOf hΓ hX k_this e7) (q_room (Nat.le_of_ble_eq_true rfl) (Nat.le_of_ble_eq_true rfl)) ⟨Nat.zero_le _, Nat.zero_le _⟩ (Nat.le_of_ble_eq_true rfl) ?_
  refine r_istore_n hg (L' := [(3, .int v5), (0, .ref this), (1, .int x1), (2, .int x2)]) dX12_pays_17 rfl (by decide) rfl ?_
  refine r_aload_n hg 1 dX12_pays_18 rfl rfl ?_
  refine r_iconst hg dX12_pays_19 ci_0 ?_
  obtain ⟨I8, e9, h⟩ := q_b1_some h
  obtain rfl := Option.some.inj e9
  refine r_putI hg dX12_pays_20 fl_X12_163 k_this rfl ⟨rfl, rfl⟩ ?_
  refine r_aload_n hg 1 dX12_pays_23 rfl rfl ?_
  refine r_iconst hg dX12_pays_24 ci_0 ?_
  obtain ⟨I10, e11, h⟩ := q_b1_some h
  obtain rfl := Option.some.inj e11
  refine r_putI hg dX12_pays_25 fl_X12_166 k_this rfl ⟨rfl, rfl⟩ ?_
  refine r_aload_n hg 1 dX12_pays_28 rfl rfl ?_
  refine r_iconst hg dX12_pays_29 ci_0 ?_
  obtain ⟨I12, e13, h⟩ := q_b1_some h
  obtain rfl := Option.some.inj e13
  refine r_putI hg dX12_pays_30 fl_X12_169 k_this rfl ⟨rfl, rfl⟩ ?_
  refine r_iconst hg dX12_pays_33 ci_0 ?_
  refine r_istore hg (L' := [(4, .int (nI 0)), (3, .int v5), (0, .ref this), (1, .int x1), (2, .int x2)]) dX12_pays_34 (by decide) rfl ?_
  refine r_sub hg [2, 3, 4, 1, 0] rfl ?_
  exact pl_X12_pays_36 hΓ hg hr hX k_this _ _ _ _ h

def b_X12_wrong_51 (this : Nat) (x1 : Int32) (k15 : Int32 → Int32 → qI → Option (Int32 × qI)) (x3 : Int32) (s0 : Int32) (s1 : Int32) (I : qI) : Option (Int32 × qI) :=
  k15 (s0 + s1) (x3 + (nI 1)) I
set_option maxRecDepth 100000 in
set_option maxHeartbeats 4000000 in
theorem p_X12_wrong_51 {l : Launch} {Γ : qC} {g : qG} {z : Int32 × qI} {this : Nat} {x1 : Int32} {X : qX} (hΓ : q_gm Γ) (hg : q_Ok l Γ RX12 cX12_wrong 4 (q_rm 6 0 0) "wrong" (some .int) g) (hr : q_Rt cX12_wrong (some .int) (q_rm 6 0 0) (some (.int z.1), z.2, X) g) (hX : q_Lay X) (k_this : q_kd X this = some (14, 42)) {k15 : Int32 → Int32 → qI → Option (Int32 × qI)} (hk15 : ∀ (x2 : Int32) (x3 : Int32) (I : qI), k15 x2 x3 I = some z → g 0 0 15 [(0, .ref this), (1, .int x1), (2, .int x2), (3, .int x3)] [] I X) (x3 : Int32) (s0 : Int32) (s1 : Int32) (I : qI) (h : b_X12_wrong_51 this x1 k15 x3 s0 s1 I = some z) : g 0 0 51 [(0, .ref this), (1, .int x1), (3, .int x3)] [.int s1, .int s0] I X := by
  unfold b_X12_wrong_51 at h
  refine r_iadd hg dX12_wrong_51 ?_
  refine r_istore_n hg (L' := [(2, .int (s0 + s1)), (0, .ref this), (1, .int x1), (3, .int x3)]) dX12_wrong_52 rfl (by decide) rfl ?_
  refine r_iinc hg 3 (v := (x3 + (nI 1))) (L' := [(3, .int (x3 + (nI 1))), (2, .int (s0 + s1)), (0, .ref this), (1, .int x1)]) dX12_wrong_53 rfl (by rw [ci_1]) (by decide) rfl ?_
  refine r_goto hg 15 dX12_wrong_56 (by decide) ?_
  refine r_sub hg [2, 3, 1, 0] rfl ?_
  exact hk15 _ _ _ h
def b_X12_wrong_15 (this : Nat) (x1 : Int32) (k15 : Int32 → Int32 → qI → Option (Int32 × qI)) (x2 : Int32) (x3 : Int32) (I : qI) : Option (Int32 × qI) :=
  q_b1 (q_rd I (this + 1) 3580 (nI 3)) fun v2 =>
  if v2 ≤ x3 then
    some (x2, I)
  else
    q_b2 (f_X12_isWrong this x3 x1 I) fun v5 I6 =>
    if v5 = 0 then
      b_X12_wrong_51 this x1 k15 x3 x2 (nI 0) I6
    else
      q_b1 (f_X12_dueAt this x3) fun v10 =>
      q_b1 (q_rd I6 (this + 1) 3580 (v10 + (nI 2))) fun v12 =>
      b_X12_wrong_51 this x1 k15 x3 x2 v12 I6
set_option maxRecDepth 100000 in
set_option maxHeartbeats 4000000 in
theorem p_X12_wrong_15 {l : Launch} {Γ : qC} {g : qG} {z : Int32 × qI} {this : Nat} {x1 : Int32} {X : qX} (hΓ : q_gm Γ) (hg : q_Ok l Γ RX12 cX12_wrong 4 (q_rm 6 0 0) "wrong" (some .int) g) (hr : q_Rt cX12_wrong (some .int) (q_rm 6 0 0) (some (.int z.1), z.2, X) g) (hX : q_Lay X) (k_this : q_kd X this = some (14, 42)) {k15 : Int32 → Int32 → qI → Option (Int32 × qI)} (hk15 : ∀ (x2 : Int32) (x3 : Int32) (I : qI), k15 x2 x3 I = some z → g 0 0 15 [(0, .ref this), (1, .int x1), (2, .int x2), (3, .int x3)] [] I X) (x2 : Int32) (x3 : Int32) (I : qI) (h : b_X12_wrong_15 this x1 k15 x2 x3 I = some z) : g 0 0 15 [(0, .ref this), (1, .int x1), (2, .int x2), (3, .int x3)] [] I X := by
  unfold b_X12_wrong_15 at h
  refine r_iload_n hg 3 dX12_wrong_15 rfl rfl ?_
  refine r_aload_n hg 0 dX12_wrong_16 rfl rfl ?_
  have e1 := ly_12_0 hX k_this
  refine r_getR hg dX12_wrong_17 fl_X12_7 k_this rfl e1.1 ?_
  refine r_iconst hg dX12_wrong_20 ci_3 ?_
  obtain ⟨v2, e3, h⟩ := q_b1_some h
  refine r_iald hg dX12_wrong_21 e1.2 e3 ?_
  refine r_icmp_ge hg 59 dX12_wrong_22 (by decide) (fun c4 => ?_) (fun c4 => ?_)
  · rw [if_pos c4] at h
    refine r_iload_n hg 2 dX12_wrong_59 rfl rfl ?_
    exact r_ireturn hr dX12_wrong_60 ⟨Nat.zero_le _, Nat.zero_le _⟩ ⟨_, rfl, rfl⟩ (by cases h; rfl)
  · rw [if_neg c4] at h
    refine r_iload_n hg 2 dX12_wrong_25 rfl rfl ?_
    refine r_aload_n hg 0 dX12_wrong_26 rfl rfl ?_
    refine r_iload_n hg 3 dX12_wrong_27 rfl rfl ?_
    refine r_iload_n hg 1 dX12_wrong_28 rfl rfl ?_
    obtain ⟨v5, I6, e7, h⟩ := q_b2_some h
    refine r_cV2i hg dX12_wrong_29 mt_X12_isWrong ml_X12_357 mv_X12_isWrong k_this (s_X12_isWrong hΓ hX k_this e7) (q_room (Nat.le_of_ble_eq_true rfl) (Nat.le_of_ble_eq_true rfl)) ⟨Nat.zero_le _, Nat.zero_le _⟩ (Nat.le_of_ble_eq_true rfl) ?_
    refine r_if_eq hg 50 dX12_wrong_32 (by decide) (fun c8 => ?_) (fun c8 => ?_)
    · rw [if_pos c8] at h
      refine r_iconst hg dX12_wrong_50 ci_0 ?_
      refine r_sub hg [0, 1, 3] rfl ?_
      exact p_X12_wrong_51 hΓ hg hr hX k_this hk15 _ _ _ _ h
    · rw [if_neg c8] at h
      refine r_aload_n hg 0 dX12_wrong_35 rfl rfl ?_
      have e9 := ly_12_0 hX k_this
      refine r_getR hg dX12_wrong_36 fl_X12_7 k_this rfl e9.1 ?_
      refine r_aload_n hg 0 dX12_wrong_39 rfl rfl ?_
      refine r_iload_n hg 3 dX12_wrong_40 rfl rfl ?_
      obtain ⟨v10, e11, h⟩ := q_b1_some h
      refine r_cV1i hg dX12_wrong_41 mt_X12_dueAt ml_X12_75 mv_X12_dueAt k_this (s_X12_dueAt hΓ hX k_this e11) (q_room (Nat.le_of_ble_eq_true rfl) (Nat.le_of_ble_eq_true rfl)) ⟨Nat.zero_le _, Nat.zero_le _⟩ (Nat.le_of_ble_eq_true rfl) ?_
      refine r_iconst hg dX12_wrong_44 ci_2 ?_
      refine r_iadd hg dX12_wrong_45 ?_
      obtain ⟨v12, e13, h⟩ := q_b1_some h
      refine r_iald hg dX12_wrong_46 e9.2 e13 ?_
      refine r_goto hg 51 dX12_wrong_47 (by decide) ?_
      refine r_sub hg [0, 1, 3] rfl ?_
      exact p_X12_wrong_51 hΓ hg hr hX k_this hk15 _ _ _ _ h
theorem pl_X12_wrong_15 {l : Launch} {Γ : qC} {g : qG} {z : Int32 × qI} {this : Nat} {x1 : Int32} {X : qX} (hΓ : q_gm Γ) (hg : q_Ok l Γ RX12 cX12_wrong 4 (q_rm 6 0 0) "wrong" (some .int) g) (hr : q_Rt cX12_wrong (some .int) (q_rm 6 0 0) (some (.int z.1), z.2, X) g) (hX : q_Lay X) (k_this : q_kd X this = some (14, 42)) : ∀ (n : Nat) (x2 : Int32) (x3 : Int32) (I : qI), q_fix (fun _ _ _ => none) (b_X12_wrong_15 this x1) n x2 x3 I = some z → g 0 0 15 [(0, .ref this), (1, .int x1), (2, .int x2), (3, .int x3)] [] I X := by
  intro n
  induction n with
  | zero =>
    intro x2 x3 I h
    cases (show (none : Option (Int32 × qI)) = some z from h)
  | succ n ih =>
    intro x2 x3 I h
    exact p_X12_wrong_15 hΓ hg hr hX k_this ih _ _ _ h
def f_X12_wrong (this : Nat) (x1 : Int32) (I : qI) : Option (Int32 × qI) :=
  q_b1 (f_X12_isMan this x1 I) fun v1 =>
  if v1 = 0 then
    some ((-1000000001), I)
  else
    q_fix (fun _ _ _ => none) (b_X12_wrong_15 this x1) q_fu (nI 0) (nI 0) I
set_option maxRecDepth 100000 in
set_option maxHeartbeats 4000000 in
theorem s_X12_wrong {l : Launch} {Γ : qC} (hΓ : q_gm Γ) {X : qX} (hX : q_Lay X) {this : Nat} {x1 : Int32} (k_this : q_kd X this = some (14, 42)) {I : qI} {z : Int32 × qI} (h : f_X12_wrong this x1 I = some z) : q_Sem l Γ (q_rm 6 0 0) yX12_wrong cX12_wrong 4 (some .int) [.ref this, .int x1] I X (some (.int z.1), z.2, X) := by
  refine q_met (by decide) (Nat.le_of_ble_eq_true rfl) (fun g hg hr => ?_)
  unfold f_X12_wrong at h
  show g 0 0 0 [(0, .ref this), (1, .int x1)] [] I X
  refine r_aload_n hg 0 dX12_wrong_0 rfl rfl ?_
  refine r_iload_n hg 1 dX12_wrong_1 rfl rfl ?_
  obtain ⟨v1, e2, h⟩ := q_b1_some h
  refine r_cV1i hg dX12_wrong_2 mt_X12_isMan ml_X12_110 mv_X12_isMan k_this (s_X12_isMan hΓ hX k_this e2) (q_room (Nat.le_of_ble_eq_true rfl) (Nat.le_of_ble_eq_true rfl)) ⟨Nat.zero_le _, Nat.zero_le _⟩ (Nat.le_of_ble_eq_true rfl) ?_
  refine r_if_ne hg 11 dX12_wrong_5 (by decide) (fun c3 => ?_) (fun c3 => ?_)
  · rw [if_neg c3] at h
    refine r_iconst hg dX12_wrong_11 ci_0 ?_
    refine r_istore_n hg (L' := [(2, .int (nI 0)), (0, .ref this), (1, .int x1)]) dX12_wrong_12 rfl (by decide) rfl ?_
    refine r_iconst hg dX12_wrong_13 ci_0 ?_
    refine r_istore_n hg (L' := [(3, .int (nI 0)), (2, .int (nI 0)), (0, .ref this), (1, .int x1)]) dX12_wrong_14 rfl (by decide) rfl ?_
    refine r_sub hg [2, 3, 1, 0] rfl ?_
    exact pl_X12_wrong_15 hΓ hg hr hX k_this _ _ _ _ h
  · rw [if_pos (Classical.not_not.mp c3)] at h
    refine r_ldc hg dX12_wrong_8 kc_X12_90 ?_
    exact r_ireturn hr dX12_wrong_10 ⟨Nat.zero_le _, Nat.zero_le _⟩ ⟨_, rfl, rfl⟩ (by cases h; rfl)

def b_X12_endWeek_123 (this : Nat) (k123 : Int32 → qI → Option (qI)) (x2 : Int32) (I : qI) : Option (qI) :=
  q_b1 (q_rd I (this + 1) 3580 (nI 2)) fun v2 =>
  if v2 ≤ x2 then
    some (I)
  else
    q_b1 (f_X12_manAt this x2) fun v6 =>
    q_b1 (q_wr I (this + 1) 3580 (v6 + (nI 7)) (nI 0)) fun I8 =>
    k123 (x2 + (nI 1)) I8
set_option maxRecDepth 100000 in
set_option maxHeartbeats 4000000 in
theorem p_X12_endWeek_123 {l : Launch} {Γ : qC} {g : qG} {z : qI} {this : Nat} {X : qX} (hΓ : q_gm Γ) (hg : q_Ok l Γ RX12 cX12_endWeek 3 (q_rm 7 0 0) "endWeek" none g) (hr : q_Rt cX12_endWeek none (q_rm 7 0 0) (none, z, X) g) (hX : q_Lay X) (k_this : q_kd X this = some (14, 42)) {k123 : Int32 → qI → Option (qI)} (hk123 : ∀ (x2 : Int32) (I : qI), k123 x2 I = some z → g 0 0 123 [(0, .ref this), (2, .int x2)] [] I X) (x2 : Int32) (I : qI) (h : b_X12_endWeek_123 this k123 x2 I = some z) : g 0 0 123 [(0, .ref this), (2, .int x2)] [] I X := by
  unfold b_X12_endWeek_123 at h
  refine r_iload_n hg 1 dX12_endWeek_123 rfl rfl ?_
  refine r_aload_n hg 0 dX12_endWeek_124 rfl rfl ?_
  have e1 := ly_12_0 hX k_this
  refine r_getR hg dX12_endWeek_125 fl_X12_7 k_this rfl e1.1 ?_
  refine r_iconst hg dX12_endWeek_128 ci_2 ?_
  obtain ⟨v2, e3, h⟩ := q_b1_some h
  refine r_iald hg dX12_endWeek_129 e1.2 e3 ?_
  refine r_icmp_ge hg 153 dX12_endWeek_130 (by decide) (fun c4 => ?_) (fun c4 => ?_)
  · rw [if_pos c4] at h
    exact r_return hr dX12_endWeek_153 ⟨Nat.zero_le _, Nat.zero_le _⟩ rfl (by cases h; rfl)
  · rw [if_neg c4] at h
    refine r_aload_n hg 0 dX12_endWeek_133 rfl rfl ?_
    have e5 := ly_12_0 hX k_this
    refine r_getR hg dX12_endWeek_134 fl_X12_7 k_this rfl e5.1 ?_
    refine r_aload_n hg 0 dX12_endWeek_137 rfl rfl ?_
    refine r_iload_n hg 1 dX12_endWeek_138 rfl rfl ?_
    obtain ⟨v6, e7, h⟩ := q_b1_some h
    refine r_cV1i hg dX12_endWeek_139 mt_X12_manAt ml_X12_68 mv_X12_manAt k_this (s_X12_manAt hΓ hX k_this e7) (q_room (Nat.le_of_ble_eq_true rfl) (Nat.le_of_ble_eq_true rfl)) ⟨Nat.zero_le _, Nat.zero_le _⟩ (Nat.le_of_ble_eq_true rfl) ?_
    refine r_bipush hg dX12_endWeek_142 cb_7 ?_
    refine r_iadd hg dX12_endWeek_144 ?_
    refine r_iconst hg dX12_endWeek_145 ci_0 ?_
    obtain ⟨I8, e9, h⟩ := q_b1_some h
    refine r_iast hg dX12_endWeek_146 e5.2 e9 ?_
    refine r_iinc hg 1 (v := (x2 + (nI 1))) (L' := [(2, .int (x2 + (nI 1))), (0, .ref this)]) dX12_endWeek_147 rfl (by rw [ci_1]) (by decide) rfl ?_
    refine r_goto hg 123 dX12_endWeek_150 (by decide) ?_
    refine r_sub hg [1, 0] rfl ?_
    exact hk123 _ _ h
theorem pl_X12_endWeek_123 {l : Launch} {Γ : qC} {g : qG} {z : qI} {this : Nat} {X : qX} (hΓ : q_gm Γ) (hg : q_Ok l Γ RX12 cX12_endWeek 3 (q_rm 7 0 0) "endWeek" none g) (hr : q_Rt cX12_endWeek none (q_rm 7 0 0) (none, z, X) g) (hX : q_Lay X) (k_this : q_kd X this = some (14, 42)) : ∀ (n : Nat) (x2 : Int32) (I : qI), q_fix (fun _ _ => none) (b_X12_endWeek_123 this) n x2 I = some z → g 0 0 123 [(0, .ref this), (2, .int x2)] [] I X := by
  intro n
  induction n with
  | zero =>
    intro x2 I h
    cases (show (none : Option (qI)) = some z from h)
  | succ n ih =>
    intro x2 I h
    exact p_X12_endWeek_123 hΓ hg hr hX k_this ih _ _ h
def b_X12_endWeek_115 (this : Nat) (k58 : Int32 → qI → Option (qI)) (x2 : Int32) (I : qI) : Option (qI) :=
  k58 (x2 + (nI 1)) I
set_option maxRecDepth 100000 in
set_option maxHeartbeats 4000000 in
theorem p_X12_endWeek_115 {l : Launch} {Γ : qC} {g : qG} {z : qI} {this : Nat} {X : qX} (hΓ : q_gm Γ) (hg : q_Ok l Γ RX12 cX12_endWeek 3 (q_rm 7 0 0) "endWeek" none g) (hr : q_Rt cX12_endWeek none (q_rm 7 0 0) (none, z, X) g) (hX : q_Lay X) (k_this : q_kd X this = some (14, 42)) {k58 : Int32 → qI → Option (qI)} (hk58 : ∀ (x2 : Int32) (I : qI), k58 x2 I = some z → g 0 0 58 [(0, .ref this), (2, .int x2)] [] I X) (x2 : Int32) (I : qI) (h : b_X12_endWeek_115 this k58 x2 I = some z) : g 0 0 115 [(0, .ref this), (2, .int x2)] [] I X := by
  unfold b_X12_endWeek_115 at h
  refine r_iinc hg 1 (v := (x2 + (nI 1))) (L' := [(2, .int (x2 + (nI 1))), (0, .ref this)]) dX12_endWeek_115 rfl (by rw [ci_1]) (by decide) rfl ?_
  refine r_goto hg 58 dX12_endWeek_118 (by decide) ?_
  refine r_sub hg [1, 0] rfl ?_
  exact hk58 _ _ h
def b_X12_endWeek_58 (this : Nat) (k58 : Int32 → qI → Option (qI)) (x2 : Int32) (I : qI) : Option (qI) :=
  q_b1 (q_rd I (this + 1) 3580 (nI 2)) fun v2 =>
  if v2 ≤ x2 then
    q_fix (fun _ _ => none) (b_X12_endWeek_123 this) q_fu (nI 0) I
  else
    q_b1 (f_X12_isGone this x2 I) fun v5 =>
    if v5 = 0 then
      q_b1 (f_X12_manAt this x2) fun v9 =>
      q_b1 (q_rd I (this + 1) 3580 (v9 + (nI 7))) fun v11 =>
      q_b1 (f_X12_owedBy this x2 I) fun v13 =>
      q_b2 (f_X12_keepOf this v11 v13 I) fun v15 I16 =>
      if v15 = 0 then
        q_b1 (f_X12_manAt this x2) fun v20 =>
        q_b1 (q_wr I16 (this + 1) 3580 (v20 + (nI 9)) (nI 1)) fun I22 =>
        b_X12_endWeek_115 this k58 x2 I22
      else
        b_X12_endWeek_115 this k58 x2 I16
    else
      b_X12_endWeek_115 this k58 x2 I
set_option maxRecDepth 100000 in
set_option maxHeartbeats 4000000 in
theorem p_X12_endWeek_58 {l : Launch} {Γ : qC} {g : qG} {z : qI} {this : Nat} {X : qX} (hΓ : q_gm Γ) (hg : q_Ok l Γ RX12 cX12_endWeek 3 (q_rm 7 0 0) "endWeek" none g) (hr : q_Rt cX12_endWeek none (q_rm 7 0 0) (none, z, X) g) (hX : q_Lay X) (k_this : q_kd X this = some (14, 42)) {k58 : Int32 → qI → Option (qI)} (hk58 : ∀ (x2 : Int32) (I : qI), k58 x2 I = some z → g 0 0 58 [(0, .ref this), (2, .int x2)] [] I X) (x2 : Int32) (I : qI) (h : b_X12_endWeek_58 this k58 x2 I = some z) : g 0 0 58 [(0, .ref this), (2, .int x2)] [] I X := by
  unfold b_X12_endWeek_58 at h
  refine r_iload_n hg 1 dX12_endWeek_58 rfl rfl ?_
  refine r_aload_n hg 0 dX12_endWeek_59 rfl rfl ?_
  have e1 := ly_12_0 hX k_this
  refine r_getR hg dX12_endWeek_60 fl_X12_7 k_this rfl e1.1 ?_
  refine r_iconst hg dX12_endWeek_63 ci_2 ?_
  obtain ⟨v2, e3, h⟩ := q_b1_some h
  refine r_iald hg dX12_endWeek_64 e1.2 e3 ?_
  refine r_icmp_ge hg 121 dX12_endWeek_65 (by decide) (fun c4 => ?_) (fun c4 => ?_)
  · rw [if_pos c4] at h
    refine r_iconst hg dX12_endWeek_121 ci_0 ?_
    refine r_istore_n hg (L' := [(2, .int (nI 0)), (0, .ref this)]) dX12_endWeek_122 rfl (by decide) rfl ?_
    refine r_sub hg [1, 0] rfl ?_
    exact pl_X12_endWeek_123 hΓ hg hr hX k_this _ _ _ h
  · rw [if_neg c4] at h
    refine r_aload_n hg 0 dX12_endWeek_68 rfl rfl ?_
    refine r_iload_n hg 1 dX12_endWeek_69 rfl rfl ?_
    obtain ⟨v5, e6, h⟩ := q_b1_some h
    refine r_cV1i hg dX12_endWeek_70 mt_X12_isGone ml_X12_93 mv_X12_isGone k_this (s_X12_isGone hΓ hX k_this e6) (q_room (Nat.le_of_ble_eq_true rfl) (Nat.le_of_ble_eq_true rfl)) ⟨Nat.zero_le _, Nat.zero_le _⟩ (Nat.le_of_ble_eq_true rfl) ?_
    refine r_if_ne hg 115 dX12_endWeek_73 (by decide) (fun c7 => ?_) (fun c7 => ?_)
    · rw [if_neg c7] at h
      exact p_X12_endWeek_115 hΓ hg hr hX k_this hk58 _ _ h
    · rw [if_pos (Classical.not_not.mp c7)] at h
      refine r_aload_n hg 0 dX12_endWeek_76 rfl rfl ?_
      refine r_aload_n hg 0 dX12_endWeek_77 rfl rfl ?_
      have e8 := ly_12_0 hX k_this
      refine r_getR hg dX12_endWeek_78 fl_X12_7 k_this rfl e8.1 ?_
      refine r_aload_n hg 0 dX12_endWeek_81 rfl rfl ?_
      refine r_iload_n hg 1 dX12_endWeek_82 rfl rfl ?_
      obtain ⟨v9, e10, h⟩ := q_b1_some h
      refine r_cV1i hg dX12_endWeek_83 mt_X12_manAt ml_X12_68 mv_X12_manAt k_this (s_X12_manAt hΓ hX k_this e10) (q_room (Nat.le_of_ble_eq_true rfl) (Nat.le_of_ble_eq_true rfl)) ⟨Nat.zero_le _, Nat.zero_le _⟩ (Nat.le_of_ble_eq_true rfl) ?_
      refine r_bipush hg dX12_endWeek_86 cb_7 ?_
      refine r_iadd hg dX12_endWeek_88 ?_
      obtain ⟨v11, e12, h⟩ := q_b1_some h
      refine r_iald hg dX12_endWeek_89 e8.2 e12 ?_
      refine r_aload_n hg 0 dX12_endWeek_90 rfl rfl ?_
      refine r_iload_n hg 1 dX12_endWeek_91 rfl rfl ?_
      obtain ⟨v13, e14, h⟩ := q_b1_some h
      refine r_cV1i hg dX12_endWeek_92 mt_X12_owedBy ml_X12_118 mv_X12_owedBy k_this (s_X12_owedBy hΓ hX k_this e14) (q_room (Nat.le_of_ble_eq_true rfl) (Nat.le_of_ble_eq_true rfl)) ⟨Nat.zero_le _, Nat.zero_le _⟩ (Nat.le_of_ble_eq_true rfl) ?_
      obtain ⟨v15, I16, e17, h⟩ := q_b2_some h
      refine r_cV2i hg dX12_endWeek_95 mt_X12_keepOf ml_X12_195 mv_X12_keepOf k_this (s_X12_keepOf hΓ hX k_this e17) (q_room (Nat.le_of_ble_eq_true rfl) (Nat.le_of_ble_eq_true rfl)) ⟨Nat.zero_le _, Nat.zero_le _⟩ (Nat.le_of_ble_eq_true rfl) ?_
      refine r_if_ne hg 115 dX12_endWeek_98 (by decide) (fun c18 => ?_) (fun c18 => ?_)
      · rw [if_neg c18] at h
        exact p_X12_endWeek_115 hΓ hg hr hX k_this hk58 _ _ h
      · rw [if_pos (Classical.not_not.mp c18)] at h
        refine r_aload_n hg 0 dX12_endWeek_101 rfl rfl ?_
        have e19 := ly_12_0 hX k_this
        refine r_getR hg dX12_endWeek_102 fl_X12_7 k_this rfl e19.1 ?_
        refine r_aload_n hg 0 dX12_endWeek_105 rfl rfl ?_
        refine r_iload_n hg 1 dX12_endWeek_106 rfl rfl ?_
        obtain ⟨v20, e21, h⟩ := q_b1_some h
        refine r_cV1i hg dX12_endWeek_107 mt_X12_manAt ml_X12_68 mv_X12_manAt k_this (s_X12_manAt hΓ hX k_this e21) (q_room (Nat.le_of_ble_eq_true rfl) (Nat.le_of_ble_eq_true rfl)) ⟨Nat.zero_le _, Nat.zero_le _⟩ (Nat.le_of_ble_eq_true rfl) ?_
        refine r_bipush hg dX12_endWeek_110 cb_9 ?_
        refine r_iadd hg dX12_endWeek_112 ?_
        refine r_iconst hg dX12_endWeek_113 ci_1 ?_
        obtain ⟨I22, e23, h⟩ := q_b1_some h
        refine r_iast hg dX12_endWeek_114 e19.2 e23 ?_
        exact p_X12_endWeek_115 hΓ hg hr hX k_this hk58 _ _ h
theorem pl_X12_endWeek_58 {l : Launch} {Γ : qC} {g : qG} {z : qI} {this : Nat} {X : qX} (hΓ : q_gm Γ) (hg : q_Ok l Γ RX12 cX12_endWeek 3 (q_rm 7 0 0) "endWeek" none g) (hr : q_Rt cX12_endWeek none (q_rm 7 0 0) (none, z, X) g) (hX : q_Lay X) (k_this : q_kd X this = some (14, 42)) : ∀ (n : Nat) (x2 : Int32) (I : qI), q_fix (fun _ _ => none) (b_X12_endWeek_58 this) n x2 I = some z → g 0 0 58 [(0, .ref this), (2, .int x2)] [] I X := by
  intro n
  induction n with
  | zero =>
    intro x2 I h
    cases (show (none : Option (qI)) = some z from h)
  | succ n ih =>
    intro x2 I h
    exact p_X12_endWeek_58 hΓ hg hr hX k_this ih _ _ h
def b_X12_endWeek_56 (this : Nat) (I : qI) : Option (qI) :=
  q_fix (fun _ _ => none) (b_X12_endWeek_58 this) q_fu (nI 0) I
set_option maxRecDepth 100000 in
set_option maxHeartbeats 4000000 in
theorem p_X12_endWeek_56 {l : Launch} {Γ : qC} {g : qG} {z : qI} {this : Nat} {X : qX} (hΓ : q_gm Γ) (hg : q_Ok l Γ RX12 cX12_endWeek 3 (q_rm 7 0 0) "endWeek" none g) (hr : q_Rt cX12_endWeek none (q_rm 7 0 0) (none, z, X) g) (hX : q_Lay X) (k_this : q_kd X this = some (14, 42)) (I : qI) (h : b_X12_endWeek_56 this I = some z) : g 0 0 56 [(0, .ref this)] [] I X := by
  unfold b_X12_endWeek_56 at h
  refine r_iconst hg dX12_endWeek_56 ci_0 ?_
  refine r_istore_n hg (L' := [(2, .int (nI 0)), (0, .ref this)]) dX12_endWeek_57 rfl (by decide) rfl ?_
  refine r_sub hg [1, 0] rfl ?_
  exact pl_X12_endWeek_58 hΓ hg hr hX k_this _ _ _ h
def b_X12_endWeek_50 (this : Nat) (k22 : Int32 → Int32 → qI → Option (qI)) (x1 : Int32) (x2 : Int32) (I : qI) : Option (qI) :=
  k22 x1 (x2 + (nI 1)) I
set_option maxRecDepth 100000 in
set_option maxHeartbeats 4000000 in
theorem p_X12_endWeek_50 {l : Launch} {Γ : qC} {g : qG} {z : qI} {this : Nat} {X : qX} (hΓ : q_gm Γ) (hg : q_Ok l Γ RX12 cX12_endWeek 3 (q_rm 7 0 0) "endWeek" none g) (hr : q_Rt cX12_endWeek none (q_rm 7 0 0) (none, z, X) g) (hX : q_Lay X) (k_this : q_kd X this = some (14, 42)) {k22 : Int32 → Int32 → qI → Option (qI)} (hk22 : ∀ (x1 : Int32) (x2 : Int32) (I : qI), k22 x1 x2 I = some z → g 0 0 22 [(0, .ref this), (1, .int x1), (2, .int x2)] [] I X) (x1 : Int32) (x2 : Int32) (I : qI) (h : b_X12_endWeek_50 this k22 x1 x2 I = some z) : g 0 0 50 [(0, .ref this), (1, .int x1), (2, .int x2)] [] I X := by
  unfold b_X12_endWeek_50 at h
  refine r_iinc hg 2 (v := (x2 + (nI 1))) (L' := [(2, .int (x2 + (nI 1))), (0, .ref this), (1, .int x1)]) dX12_endWeek_50 rfl (by rw [ci_1]) (by decide) rfl ?_
  refine r_goto hg 22 dX12_endWeek_53 (by decide) ?_
  refine r_sub hg [1, 2, 0] rfl ?_
  exact hk22 _ _ _ h
def b_X12_endWeek_22 (this : Nat) (k22 : Int32 → Int32 → qI → Option (qI)) (x1 : Int32) (x2 : Int32) (I : qI) : Option (qI) :=
  q_b1 (q_rd I (this + 1) 3580 (nI 2)) fun v2 =>
  if v2 ≤ x2 then
    b_X12_endWeek_56 this I
  else
    if x1 = 0 then
      b_X12_endWeek_56 this I
    else
      q_b1 (f_X12_isGone this x2 I) fun v6 =>
      if v6 = 0 then
        q_b1 (f_X12_pays this x2 (nI 1) I) fun I9 =>
        b_X12_endWeek_50 this k22 x1 x2 I9
      else
        b_X12_endWeek_50 this k22 x1 x2 I
set_option maxRecDepth 100000 in
set_option maxHeartbeats 4000000 in
theorem p_X12_endWeek_22 {l : Launch} {Γ : qC} {g : qG} {z : qI} {this : Nat} {X : qX} (hΓ : q_gm Γ) (hg : q_Ok l Γ RX12 cX12_endWeek 3 (q_rm 7 0 0) "endWeek" none g) (hr : q_Rt cX12_endWeek none (q_rm 7 0 0) (none, z, X) g) (hX : q_Lay X) (k_this : q_kd X this = some (14, 42)) {k22 : Int32 → Int32 → qI → Option (qI)} (hk22 : ∀ (x1 : Int32) (x2 : Int32) (I : qI), k22 x1 x2 I = some z → g 0 0 22 [(0, .ref this), (1, .int x1), (2, .int x2)] [] I X) (x1 : Int32) (x2 : Int32) (I : qI) (h : b_X12_endWeek_22 this k22 x1 x2 I = some z) : g 0 0 22 [(0, .ref this), (1, .int x1), (2, .int x2)] [] I X := by
  unfold b_X12_endWeek_22 at h
  refine r_iload_n hg 2 dX12_endWeek_22 rfl rfl ?_
  refine r_aload_n hg 0 dX12_endWeek_23 rfl rfl ?_
  have e1 := ly_12_0 hX k_this
  refine r_getR hg dX12_endWeek_24 fl_X12_7 k_this rfl e1.1 ?_
  refine r_iconst hg dX12_endWeek_27 ci_2 ?_
  obtain ⟨v2, e3, h⟩ := q_b1_some h
  refine r_iald hg dX12_endWeek_28 e1.2 e3 ?_
  refine r_icmp_ge hg 56 dX12_endWeek_29 (by decide) (fun c4 => ?_) (fun c4 => ?_)
  · rw [if_pos c4] at h
    refine r_sub hg [0] rfl ?_
    exact p_X12_endWeek_56 hΓ hg hr hX k_this _ h
  · rw [if_neg c4] at h
    refine r_iload_n hg 1 dX12_endWeek_32 rfl rfl ?_
    refine r_if_eq hg 56 dX12_endWeek_33 (by decide) (fun c5 => ?_) (fun c5 => ?_)
    · rw [if_pos c5] at h
      refine r_sub hg [0] rfl ?_
      exact p_X12_endWeek_56 hΓ hg hr hX k_this _ h
    · rw [if_neg c5] at h
      refine r_aload_n hg 0 dX12_endWeek_36 rfl rfl ?_
      refine r_iload_n hg 2 dX12_endWeek_37 rfl rfl ?_
      obtain ⟨v6, e7, h⟩ := q_b1_some h
      refine r_cV1i hg dX12_endWeek_38 mt_X12_isGone ml_X12_93 mv_X12_isGone k_this (s_X12_isGone hΓ hX k_this e7) (q_room (Nat.le_of_ble_eq_true rfl) (Nat.le_of_ble_eq_true rfl)) ⟨Nat.zero_le _, Nat.zero_le _⟩ (Nat.le_of_ble_eq_true rfl) ?_
      refine r_if_ne hg 50 dX12_endWeek_41 (by decide) (fun c8 => ?_) (fun c8 => ?_)
      · rw [if_neg c8] at h
        exact p_X12_endWeek_50 hΓ hg hr hX k_this hk22 _ _ _ h
      · rw [if_pos (Classical.not_not.mp c8)] at h
        refine r_aload_n hg 0 dX12_endWeek_44 rfl rfl ?_
        refine r_iload_n hg 2 dX12_endWeek_45 rfl rfl ?_
        refine r_iconst hg dX12_endWeek_46 ci_1 ?_
        obtain ⟨I9, e10, h⟩ := q_b1_some h
        refine r_cV2v hg dX12_endWeek_47 mt_X12_pays ml_X12_191 mv_X12_pays k_this (s_X12_pays hΓ hX k_this e10) (q_room (Nat.le_of_ble_eq_true rfl) (Nat.le_of_ble_eq_true rfl)) ⟨Nat.zero_le _, Nat.zero_le _⟩ (Nat.le_of_ble_eq_true rfl) ?_
        exact p_X12_endWeek_50 hΓ hg hr hX k_this hk22 _ _ _ h
theorem pl_X12_endWeek_22 {l : Launch} {Γ : qC} {g : qG} {z : qI} {this : Nat} {X : qX} (hΓ : q_gm Γ) (hg : q_Ok l Γ RX12 cX12_endWeek 3 (q_rm 7 0 0) "endWeek" none g) (hr : q_Rt cX12_endWeek none (q_rm 7 0 0) (none, z, X) g) (hX : q_Lay X) (k_this : q_kd X this = some (14, 42)) : ∀ (n : Nat) (x1 : Int32) (x2 : Int32) (I : qI), q_fix (fun _ _ _ => none) (b_X12_endWeek_22 this) n x1 x2 I = some z → g 0 0 22 [(0, .ref this), (1, .int x1), (2, .int x2)] [] I X := by
  intro n
  induction n with
  | zero =>
    intro x1 x2 I h
    cases (show (none : Option (qI)) = some z from h)
  | succ n ih =>
    intro x1 x2 I h
    exact p_X12_endWeek_22 hΓ hg hr hX k_this ih _ _ _ h
def b_X12_endWeek_19 (this : Nat) (s0 : Int32) (I : qI) : Option (qI) :=
  q_fix (fun _ _ _ => none) (b_X12_endWeek_22 this) q_fu s0 (nI 0) I
set_option maxRecDepth 100000 in
set_option maxHeartbeats 4000000 in
theorem p_X12_endWeek_19 {l : Launch} {Γ : qC} {g : qG} {z : qI} {this : Nat} {X : qX} (hΓ : q_gm Γ) (hg : q_Ok l Γ RX12 cX12_endWeek 3 (q_rm 7 0 0) "endWeek" none g) (hr : q_Rt cX12_endWeek none (q_rm 7 0 0) (none, z, X) g) (hX : q_Lay X) (k_this : q_kd X this = some (14, 42)) (s0 : Int32) (I : qI) (h : b_X12_endWeek_19 this s0 I = some z) : g 0 0 19 [(0, .ref this)] [.int s0] I X := by
  unfold b_X12_endWeek_19 at h
  refine r_istore_n hg (L' := [(1, .int s0), (0, .ref this)]) dX12_endWeek_19 rfl (by decide) rfl ?_
  refine r_iconst hg dX12_endWeek_20 ci_0 ?_
  refine r_istore_n hg (L' := [(2, .int (nI 0)), (1, .int s0), (0, .ref this)]) dX12_endWeek_21 rfl (by decide) rfl ?_
  refine r_sub hg [2, 1, 0] rfl ?_
  exact pl_X12_endWeek_22 hΓ hg hr hX k_this _ _ _ _ h
def f_X12_endWeek (this : Nat) (I : qI) : Option (qI) :=
  q_b1 (f_X12_week this I) fun v1 =>
  q_b2 (f_X12_dueOf this I) fun v3 I4 =>
  if v3 = 0 then none else
  if (q_rem (v1 + (nI 1)) v3) = 0 then
    b_X12_endWeek_19 this (nI 1) I4
  else
    b_X12_endWeek_19 this (nI 0) I4
set_option maxRecDepth 100000 in
set_option maxHeartbeats 4000000 in
theorem s_X12_endWeek {l : Launch} {Γ : qC} (hΓ : q_gm Γ) {X : qX} (hX : q_Lay X) {this : Nat} (k_this : q_kd X this = some (14, 42)) {I : qI} {z : qI} (h : f_X12_endWeek this I = some z) : q_Sem l Γ (q_rm 7 0 0) yX12_endWeek cX12_endWeek 3 none [.ref this] I X (none, z, X) := by
  refine q_met (by decide) (Nat.le_of_ble_eq_true rfl) (fun g hg hr => ?_)
  unfold f_X12_endWeek at h
  show g 0 0 0 [(0, .ref this)] [] I X
  refine r_aload_n hg 0 dX12_endWeek_0 rfl rfl ?_
  obtain ⟨v1, e2, h⟩ := q_b1_some h
  refine r_cV0i hg dX12_endWeek_1 mt_X12_week ml_X12_184 mv_X12_week k_this (s_X12_week hΓ hX k_this e2) (q_room (Nat.le_of_ble_eq_true rfl) (Nat.le_of_ble_eq_true rfl)) ⟨Nat.zero_le _, Nat.zero_le _⟩ (Nat.le_of_ble_eq_true rfl) ?_
  refine r_iconst hg dX12_endWeek_4 ci_1 ?_
  refine r_iadd hg dX12_endWeek_5 ?_
  refine r_aload_n hg 0 dX12_endWeek_6 rfl rfl ?_
  obtain ⟨v3, I4, e5, h⟩ := q_b2_some h
  refine r_cV0i hg dX12_endWeek_7 mt_X12_dueOf ml_X12_188 mv_X12_dueOf k_this (s_X12_dueOf hΓ hX k_this e5) (q_room (Nat.le_of_ble_eq_true rfl) (Nat.le_of_ble_eq_true rfl)) ⟨Nat.zero_le _, Nat.zero_le _⟩ (Nat.le_of_ble_eq_true rfl) ?_
  by_cases c6 : v3 = 0
  · rw [if_pos c6] at h; cases h
  rw [if_neg c6] at h
  refine r_iremq hg dX12_endWeek_10 c6 ?_
  refine r_if_ne hg 18 dX12_endWeek_11 (by decide) (fun c7 => ?_) (fun c7 => ?_)
  · rw [if_neg c7] at h
    refine r_iconst hg dX12_endWeek_18 ci_0 ?_
    exact p_X12_endWeek_19 hΓ hg hr hX k_this _ _ h
  · rw [if_pos (Classical.not_not.mp c7)] at h
    refine r_iconst hg dX12_endWeek_14 ci_1 ?_
    refine r_goto hg 19 dX12_endWeek_15 (by decide) ?_
    exact p_X12_endWeek_19 hΓ hg hr hX k_this _ _ h

def b_X12_give_71 (this : Nat) (x1 : Int32) (k25 : Int32 → Int32 → qI → Option (Int32 × qI)) (x2 : Int32) (x3 : Int32) (s1 : Int32) (s2 : Int32) (I : qI) : Option (Int32 × qI) :=
  q_b1 (q_wr I (this + 1) 3580 s1 s2) fun I2 =>
  k25 x2 (x3 + (nI 1)) I2
set_option maxRecDepth 100000 in
set_option maxHeartbeats 4000000 in
theorem p_X12_give_71 {l : Launch} {Γ : qC} {g : qG} {z : Int32 × qI} {this : Nat} {x1 : Int32} {X : qX} (hΓ : q_gm Γ) (hg : q_Ok l Γ RX12 cX12_give 4 (q_rm 7 0 0) "give" (some .int) g) (hr : q_Rt cX12_give (some .int) (q_rm 7 0 0) (some (.int z.1), z.2, X) g) (hX : q_Lay X) (k_this : q_kd X this = some (14, 42)) {k25 : Int32 → Int32 → qI → Option (Int32 × qI)} (hk25 : ∀ (x2 : Int32) (x3 : Int32) (I : qI), k25 x2 x3 I = some z → g 0 0 25 [(0, .ref this), (1, .int x1), (2, .int x2), (3, .int x3)] [] I X) (x2 : Int32) (x3 : Int32) (s1 : Int32) (s2 : Int32) (I : qI) (h : b_X12_give_71 this x1 k25 x2 x3 s1 s2 I = some z) : g 0 0 71 [(0, .ref this), (1, .int x1), (2, .int x2), (3, .int x3)] [.int s2, .int s1, .ref (this + 1)] I X := by
  unfold b_X12_give_71 at h
  have e1 := ly_12_0 hX k_this
  obtain ⟨I2, e3, h⟩ := q_b1_some h
  refine r_iast hg dX12_give_71 e1.2 e3 ?_
  refine r_iinc hg 3 (v := (x3 + (nI 1))) (L' := [(3, .int (x3 + (nI 1))), (0, .ref this), (1, .int x1), (2, .int x2)]) dX12_give_72 rfl (by rw [ci_1]) (by decide) rfl ?_
  refine r_goto hg 25 dX12_give_75 (by decide) ?_
  refine r_sub hg [1, 2, 3, 0] rfl ?_
  exact hk25 _ _ _ h
def b_X12_give_25 (this : Nat) (x1 : Int32) (k25 : Int32 → Int32 → qI → Option (Int32 × qI)) (x2 : Int32) (x3 : Int32) (I : qI) : Option (Int32 × qI) :=
  q_b1 (q_rd I (this + 1) 3580 (nI 3)) fun v2 =>
  if v2 ≤ x3 then
    q_b1 (f_X12_gets this x1 (nI 4) x2 I) fun I5 =>
    some (x2, I5)
  else
    q_b1 (f_X12_dueAt this x3) fun v8 =>
    q_b2 (f_X12_isWrong this x3 x1 I) fun v10 I11 =>
    if v10 = 0 then
      q_b1 (f_X12_dueAt this x3) fun v15 =>
      q_b1 (q_rd I11 (this + 1) 3580 (v15 + (nI 5))) fun v17 =>
      b_X12_give_71 this x1 k25 x2 x3 (v8 + (nI 5)) v17 I11
    else
      b_X12_give_71 this x1 k25 x2 x3 (v8 + (nI 5)) (nI 2) I11
set_option maxRecDepth 100000 in
set_option maxHeartbeats 4000000 in
theorem p_X12_give_25 {l : Launch} {Γ : qC} {g : qG} {z : Int32 × qI} {this : Nat} {x1 : Int32} {X : qX} (hΓ : q_gm Γ) (hg : q_Ok l Γ RX12 cX12_give 4 (q_rm 7 0 0) "give" (some .int) g) (hr : q_Rt cX12_give (some .int) (q_rm 7 0 0) (some (.int z.1), z.2, X) g) (hX : q_Lay X) (k_this : q_kd X this = some (14, 42)) {k25 : Int32 → Int32 → qI → Option (Int32 × qI)} (hk25 : ∀ (x2 : Int32) (x3 : Int32) (I : qI), k25 x2 x3 I = some z → g 0 0 25 [(0, .ref this), (1, .int x1), (2, .int x2), (3, .int x3)] [] I X) (x2 : Int32) (x3 : Int32) (I : qI) (h : b_X12_give_25 this x1 k25 x2 x3 I = some z) : g 0 0 25 [(0, .ref this), (1, .int x1), (2, .int x2), (3, .int x3)] [] I X := by
  unfold b_X12_give_25 at h
  refine r_iload_n hg 3 dX12_give_25 rfl rfl ?_
  refine r_aload_n hg 0 dX12_give_26 rfl rfl ?_
  have e1 := ly_12_0 hX k_this
  refine r_getR hg dX12_give_27 fl_X12_7 k_this rfl e1.1 ?_
  refine r_iconst hg dX12_give_30 ci_3 ?_
  obtain ⟨v2, e3, h⟩ := q_b1_some h
  refine r_iald hg dX12_give_31 e1.2 e3 ?_
  refine r_icmp_ge hg 78 dX12_give_32 (by decide) (fun c4 => ?_) (fun c4 => ?_)
  · rw [if_pos c4] at h
    refine r_aload_n hg 0 dX12_give_78 rfl rfl ?_
    refine r_iload_n hg 1 dX12_give_79 rfl rfl ?_
    refine r_iconst hg dX12_give_80 ci_4 ?_
    refine r_iload_n hg 2 dX12_give_81 rfl rfl ?_
    obtain ⟨I5, e6, h⟩ := q_b1_some h
    refine r_cV3v hg dX12_give_82 mt_X12_gets ml_X12_350 mv_X12_gets k_this (s_X12_gets hΓ hX k_this e6) (q_room (Nat.le_of_ble_eq_true rfl) (Nat.le_of_ble_eq_true rfl)) ⟨Nat.zero_le _, Nat.zero_le _⟩ (Nat.le_of_ble_eq_true rfl) ?_
    refine r_iload_n hg 2 dX12_give_85 rfl rfl ?_
    exact r_ireturn hr dX12_give_86 ⟨Nat.zero_le _, Nat.zero_le _⟩ ⟨_, rfl, rfl⟩ (by cases h; rfl)
  · rw [if_neg c4] at h
    refine r_aload_n hg 0 dX12_give_35 rfl rfl ?_
    have e7 := ly_12_0 hX k_this
    refine r_getR hg dX12_give_36 fl_X12_7 k_this rfl e7.1 ?_
    refine r_aload_n hg 0 dX12_give_39 rfl rfl ?_
    refine r_iload_n hg 3 dX12_give_40 rfl rfl ?_
    obtain ⟨v8, e9, h⟩ := q_b1_some h
    refine r_cV1i hg dX12_give_41 mt_X12_dueAt ml_X12_75 mv_X12_dueAt k_this (s_X12_dueAt hΓ hX k_this e9) (q_room (Nat.le_of_ble_eq_true rfl) (Nat.le_of_ble_eq_true rfl)) ⟨Nat.zero_le _, Nat.zero_le _⟩ (Nat.le_of_ble_eq_true rfl) ?_
    refine r_iconst hg dX12_give_44 ci_5 ?_
    refine r_iadd hg dX12_give_45 ?_
    refine r_aload_n hg 0 dX12_give_46 rfl rfl ?_
    refine r_iload_n hg 3 dX12_give_47 rfl rfl ?_
    refine r_iload_n hg 1 dX12_give_48 rfl rfl ?_
    obtain ⟨v10, I11, e12, h⟩ := q_b2_some h
    refine r_cV2i hg dX12_give_49 mt_X12_isWrong ml_X12_357 mv_X12_isWrong k_this (s_X12_isWrong hΓ hX k_this e12) (q_room (Nat.le_of_ble_eq_true rfl) (Nat.le_of_ble_eq_true rfl)) ⟨Nat.zero_le _, Nat.zero_le _⟩ (Nat.le_of_ble_eq_true rfl) ?_
    refine r_if_eq hg 59 dX12_give_52 (by decide) (fun c13 => ?_) (fun c13 => ?_)
    · rw [if_pos c13] at h
      refine r_aload_n hg 0 dX12_give_59 rfl rfl ?_
      have e14 := ly_12_0 hX k_this
      refine r_getR hg dX12_give_60 fl_X12_7 k_this rfl e14.1 ?_
      refine r_aload_n hg 0 dX12_give_63 rfl rfl ?_
      refine r_iload_n hg 3 dX12_give_64 rfl rfl ?_
      obtain ⟨v15, e16, h⟩ := q_b1_some h
      refine r_cV1i hg dX12_give_65 mt_X12_dueAt ml_X12_75 mv_X12_dueAt k_this (s_X12_dueAt hΓ hX k_this e16) (q_room (Nat.le_of_ble_eq_true rfl) (Nat.le_of_ble_eq_true rfl)) ⟨Nat.zero_le _, Nat.zero_le _⟩ (Nat.le_of_ble_eq_true rfl) ?_
      refine r_iconst hg dX12_give_68 ci_5 ?_
      refine r_iadd hg dX12_give_69 ?_
      obtain ⟨v17, e18, h⟩ := q_b1_some h
      refine r_iald hg dX12_give_70 e14.2 e18 ?_
      exact p_X12_give_71 hΓ hg hr hX k_this hk25 _ _ _ _ _ h
    · rw [if_neg c13] at h
      refine r_iconst hg dX12_give_55 ci_2 ?_
      refine r_goto hg 71 dX12_give_56 (by decide) ?_
      exact p_X12_give_71 hΓ hg hr hX k_this hk25 _ _ _ _ _ h
theorem pl_X12_give_25 {l : Launch} {Γ : qC} {g : qG} {z : Int32 × qI} {this : Nat} {x1 : Int32} {X : qX} (hΓ : q_gm Γ) (hg : q_Ok l Γ RX12 cX12_give 4 (q_rm 7 0 0) "give" (some .int) g) (hr : q_Rt cX12_give (some .int) (q_rm 7 0 0) (some (.int z.1), z.2, X) g) (hX : q_Lay X) (k_this : q_kd X this = some (14, 42)) : ∀ (n : Nat) (x2 : Int32) (x3 : Int32) (I : qI), q_fix (fun _ _ _ => none) (b_X12_give_25 this x1) n x2 x3 I = some z → g 0 0 25 [(0, .ref this), (1, .int x1), (2, .int x2), (3, .int x3)] [] I X := by
  intro n
  induction n with
  | zero =>
    intro x2 x3 I h
    cases (show (none : Option (Int32 × qI)) = some z from h)
  | succ n ih =>
    intro x2 x3 I h
    exact p_X12_give_25 hΓ hg hr hX k_this ih _ _ _ h
def f_X12_give (this : Nat) (x1 : Int32) (I : qI) : Option (Int32 × qI) :=
  q_b2 (f_X12_wrong this x1 I) fun v1 I2 =>
  if 0 < v1 then
    q_fix (fun _ _ _ => none) (b_X12_give_25 this x1) q_fu v1 (nI 0) I2
  else
    if v1 = 0 then
      some ((-1000000002), I2)
    else
      some ((-1000000001), I2)
set_option maxRecDepth 100000 in
set_option maxHeartbeats 4000000 in
theorem s_X12_give {l : Launch} {Γ : qC} (hΓ : q_gm Γ) {X : qX} (hX : q_Lay X) {this : Nat} {x1 : Int32} (k_this : q_kd X this = some (14, 42)) {I : qI} {z : Int32 × qI} (h : f_X12_give this x1 I = some z) : q_Sem l Γ (q_rm 7 0 0) yX12_give cX12_give 4 (some .int) [.ref this, .int x1] I X (some (.int z.1), z.2, X) := by
  refine q_met (by decide) (Nat.le_of_ble_eq_true rfl) (fun g hg hr => ?_)
  unfold f_X12_give at h
  show g 0 0 0 [(0, .ref this), (1, .int x1)] [] I X
  refine r_aload_n hg 0 dX12_give_0 rfl rfl ?_
  refine r_iload_n hg 1 dX12_give_1 rfl rfl ?_
  obtain ⟨v1, I2, e3, h⟩ := q_b2_some h
  refine r_cV1i hg dX12_give_2 mt_X12_wrong ml_X12_360 mv_X12_wrong k_this (s_X12_wrong hΓ hX k_this e3) (q_room (Nat.le_of_ble_eq_true rfl) (Nat.le_of_ble_eq_true rfl)) ⟨Nat.zero_le _, Nat.zero_le _⟩ (Nat.le_of_ble_eq_true rfl) ?_
  refine r_istore_n hg (L' := [(2, .int v1), (0, .ref this), (1, .int x1)]) dX12_give_5 rfl (by decide) rfl ?_
  refine r_iload_n hg 0 dX12_give_6 rfl rfl ?_
  refine r_if_gt hg 23 dX12_give_7 (by decide) (fun c4 => ?_) (fun c4 => ?_)
  · rw [if_pos c4] at h
    refine r_iconst hg dX12_give_23 ci_0 ?_
    refine r_istore_n hg (L' := [(3, .int (nI 0)), (2, .int v1), (0, .ref this), (1, .int x1)]) dX12_give_24 rfl (by decide) rfl ?_
    refine r_sub hg [2, 3, 1, 0] rfl ?_
    exact pl_X12_give_25 hΓ hg hr hX k_this _ _ _ _ h
  · rw [if_neg c4] at h
    refine r_iload_n hg 0 dX12_give_10 rfl rfl ?_
    refine r_if_ne hg 20 dX12_give_11 (by decide) (fun c5 => ?_) (fun c5 => ?_)
    · rw [if_neg c5] at h
      refine r_ldc hg dX12_give_20 kc_X12_90 ?_
      exact r_ireturn hr dX12_give_22 ⟨Nat.zero_le _, Nat.zero_le _⟩ ⟨_, rfl, rfl⟩ (by cases h; rfl)
    · rw [if_pos (Classical.not_not.mp c5)] at h
      refine r_ldcw hg dX12_give_14 kc_X12_346 ?_
      refine r_goto hg 22 dX12_give_17 (by decide) ?_
      exact r_ireturn hr dX12_give_22 ⟨Nat.zero_le _, Nat.zero_le _⟩ ⟨_, rfl, rfl⟩ (by cases h; rfl)

def b_X12_round_24 (this : Nat) (k4 : Int32 → Int32 → qI → Option (Int32 × qI)) (x2 : Int32) (s0 : Int32) (s1 : Int32) (I : qI) : Option (Int32 × qI) :=
  k4 (s0 + s1) (x2 + (nI 1)) I
set_option maxRecDepth 100000 in
set_option maxHeartbeats 4000000 in
theorem p_X12_round_24 {l : Launch} {Γ : qC} {g : qG} {z : Int32 × qI} {this : Nat} {X : qX} (hΓ : q_gm Γ) (hg : q_Ok l Γ RX12 cX12_round 3 (q_rm 7 0 0) "round" (some .int) g) (hr : q_Rt cX12_round (some .int) (q_rm 7 0 0) (some (.int z.1), z.2, X) g) (hX : q_Lay X) (k_this : q_kd X this = some (14, 42)) {k4 : Int32 → Int32 → qI → Option (Int32 × qI)} (hk4 : ∀ (x1 : Int32) (x2 : Int32) (I : qI), k4 x1 x2 I = some z → g 0 0 4 [(0, .ref this), (1, .int x1), (2, .int x2)] [] I X) (x2 : Int32) (s0 : Int32) (s1 : Int32) (I : qI) (h : b_X12_round_24 this k4 x2 s0 s1 I = some z) : g 0 0 24 [(0, .ref this), (2, .int x2)] [.int s1, .int s0] I X := by
  unfold b_X12_round_24 at h
  refine r_iadd hg dX12_round_24 ?_
  refine r_istore_n hg (L' := [(1, .int (s0 + s1)), (0, .ref this), (2, .int x2)]) dX12_round_25 rfl (by decide) rfl ?_
  refine r_iinc hg 2 (v := (x2 + (nI 1))) (L' := [(2, .int (x2 + (nI 1))), (1, .int (s0 + s1)), (0, .ref this)]) dX12_round_26 rfl (by rw [ci_1]) (by decide) rfl ?_
  refine r_goto hg 4 dX12_round_29 (by decide) ?_
  refine r_sub hg [2, 1, 0] rfl ?_
  exact hk4 _ _ _ h
def b_X12_round_4 (this : Nat) (k4 : Int32 → Int32 → qI → Option (Int32 × qI)) (x1 : Int32) (x2 : Int32) (I : qI) : Option (Int32 × qI) :=
  if (nI 48) ≤ x2 then
    some (x1, I)
  else
    q_b2 (f_X12_isRound this x2 I) fun v2 I3 =>
    if v2 = 0 then
      b_X12_round_24 this k4 x2 x1 (nI 0) I3
    else
      b_X12_round_24 this k4 x2 x1 (nI 1) I3
set_option maxRecDepth 100000 in
set_option maxHeartbeats 4000000 in
theorem p_X12_round_4 {l : Launch} {Γ : qC} {g : qG} {z : Int32 × qI} {this : Nat} {X : qX} (hΓ : q_gm Γ) (hg : q_Ok l Γ RX12 cX12_round 3 (q_rm 7 0 0) "round" (some .int) g) (hr : q_Rt cX12_round (some .int) (q_rm 7 0 0) (some (.int z.1), z.2, X) g) (hX : q_Lay X) (k_this : q_kd X this = some (14, 42)) {k4 : Int32 → Int32 → qI → Option (Int32 × qI)} (hk4 : ∀ (x1 : Int32) (x2 : Int32) (I : qI), k4 x1 x2 I = some z → g 0 0 4 [(0, .ref this), (1, .int x1), (2, .int x2)] [] I X) (x1 : Int32) (x2 : Int32) (I : qI) (h : b_X12_round_4 this k4 x1 x2 I = some z) : g 0 0 4 [(0, .ref this), (1, .int x1), (2, .int x2)] [] I X := by
  unfold b_X12_round_4 at h
  refine r_iload_n hg 2 dX12_round_4 rfl rfl ?_
  refine r_bipush hg dX12_round_5 cb_48 ?_
  refine r_icmp_ge hg 32 dX12_round_7 (by decide) (fun c1 => ?_) (fun c1 => ?_)
  · rw [if_pos c1] at h
    refine r_iload_n hg 1 dX12_round_32 rfl rfl ?_
    exact r_ireturn hr dX12_round_33 ⟨Nat.zero_le _, Nat.zero_le _⟩ ⟨_, rfl, rfl⟩ (by cases h; rfl)
  · rw [if_neg c1] at h
    refine r_iload_n hg 1 dX12_round_10 rfl rfl ?_
    refine r_aload_n hg 0 dX12_round_11 rfl rfl ?_
    refine r_iload_n hg 2 dX12_round_12 rfl rfl ?_
    obtain ⟨v2, I3, e4, h⟩ := q_b2_some h
    refine r_cV1i hg dX12_round_13 mt_X12_isRound ml_X12_389 mv_X12_isRound k_this (s_X12_isRound hΓ hX k_this e4) (q_room (Nat.le_of_ble_eq_true rfl) (Nat.le_of_ble_eq_true rfl)) ⟨Nat.zero_le _, Nat.zero_le _⟩ (Nat.le_of_ble_eq_true rfl) ?_
    refine r_if_eq hg 23 dX12_round_16 (by decide) (fun c5 => ?_) (fun c5 => ?_)
    · rw [if_pos c5] at h
      refine r_iconst hg dX12_round_23 ci_0 ?_
      refine r_sub hg [0, 2] rfl ?_
      exact p_X12_round_24 hΓ hg hr hX k_this hk4 _ _ _ _ h
    · rw [if_neg c5] at h
      refine r_iconst hg dX12_round_19 ci_1 ?_
      refine r_goto hg 24 dX12_round_20 (by decide) ?_
      refine r_sub hg [0, 2] rfl ?_
      exact p_X12_round_24 hΓ hg hr hX k_this hk4 _ _ _ _ h
theorem pl_X12_round_4 {l : Launch} {Γ : qC} {g : qG} {z : Int32 × qI} {this : Nat} {X : qX} (hΓ : q_gm Γ) (hg : q_Ok l Γ RX12 cX12_round 3 (q_rm 7 0 0) "round" (some .int) g) (hr : q_Rt cX12_round (some .int) (q_rm 7 0 0) (some (.int z.1), z.2, X) g) (hX : q_Lay X) (k_this : q_kd X this = some (14, 42)) : ∀ (n : Nat) (x1 : Int32) (x2 : Int32) (I : qI), q_fix (fun _ _ _ => none) (b_X12_round_4 this) n x1 x2 I = some z → g 0 0 4 [(0, .ref this), (1, .int x1), (2, .int x2)] [] I X := by
  intro n
  induction n with
  | zero =>
    intro x1 x2 I h
    cases (show (none : Option (Int32 × qI)) = some z from h)
  | succ n ih =>
    intro x1 x2 I h
    exact p_X12_round_4 hΓ hg hr hX k_this ih _ _ _ h
def f_X12_round (this : Nat) (I : qI) : Option (Int32 × qI) :=
  q_fix (fun _ _ _ => none) (b_X12_round_4 this) q_fu (nI 0) (nI 0) I
set_option maxRecDepth 100000 in
set_option maxHeartbeats 4000000 in
theorem s_X12_round {l : Launch} {Γ : qC} (hΓ : q_gm Γ) {X : qX} (hX : q_Lay X) {this : Nat} (k_this : q_kd X this = some (14, 42)) {I : qI} {z : Int32 × qI} (h : f_X12_round this I = some z) : q_Sem l Γ (q_rm 7 0 0) yX12_round cX12_round 3 (some .int) [.ref this] I X (some (.int z.1), z.2, X) := by
  refine q_met (by decide) (Nat.le_of_ble_eq_true rfl) (fun g hg hr => ?_)
  unfold f_X12_round at h
  show g 0 0 0 [(0, .ref this)] [] I X
  refine r_iconst hg dX12_round_0 ci_0 ?_
  refine r_istore_n hg (L' := [(1, .int (nI 0)), (0, .ref this)]) dX12_round_1 rfl (by decide) rfl ?_
  refine r_iconst hg dX12_round_2 ci_0 ?_
  refine r_istore_n hg (L' := [(2, .int (nI 0)), (1, .int (nI 0)), (0, .ref this)]) dX12_round_3 rfl (by decide) rfl ?_
  refine r_sub hg [2, 1, 0] rfl ?_
  exact pl_X12_round_4 hΓ hg hr hX k_this _ _ _ _ h

def b_X12_way_54 (this : Nat) (x1 : Int32) (k11 : Int32 → Int32 → qI → Option (Int32 × qI)) (x2 : Int32) (x3 : Int32) (I : qI) : Option (Int32 × qI) :=
  k11 x2 (x3 + (nI 1)) I
set_option maxRecDepth 100000 in
set_option maxHeartbeats 4000000 in
theorem p_X12_way_54 {l : Launch} {Γ : qC} {g : qG} {z : Int32 × qI} {this : Nat} {x1 : Int32} {X : qX} (hΓ : q_gm Γ) (hg : q_Ok l Γ RX12 cX12_way 4 (q_rm 7 0 0) "way" (some .int) g) (hr : q_Rt cX12_way (some .int) (q_rm 7 0 0) (some (.int z.1), z.2, X) g) (hX : q_Lay X) (k_this : q_kd X this = some (14, 42)) {k11 : Int32 → Int32 → qI → Option (Int32 × qI)} (hk11 : ∀ (x2 : Int32) (x3 : Int32) (I : qI), k11 x2 x3 I = some z → g 0 0 11 [(0, .ref this), (1, .int x1), (2, .int x2), (3, .int x3)] [] I X) (x2 : Int32) (x3 : Int32) (I : qI) (h : b_X12_way_54 this x1 k11 x2 x3 I = some z) : g 0 0 54 [(0, .ref this), (1, .int x1), (2, .int x2), (3, .int x3)] [] I X := by
  unfold b_X12_way_54 at h
  refine r_iinc hg 3 (v := (x3 + (nI 1))) (L' := [(3, .int (x3 + (nI 1))), (0, .ref this), (1, .int x1), (2, .int x2)]) dX12_way_54 rfl (by rw [ci_1]) (by decide) rfl ?_
  refine r_goto hg 11 dX12_way_57 (by decide) ?_
  refine r_sub hg [1, 2, 3, 0] rfl ?_
  exact hk11 _ _ _ h
def b_X12_way_11 (this : Nat) (x1 : Int32) (k11 : Int32 → Int32 → qI → Option (Int32 × qI)) (x2 : Int32) (x3 : Int32) (I : qI) : Option (Int32 × qI) :=
  if (nI 48) ≤ x3 then
    some ((-1000000005), I)
  else
    q_b2 (f_X12_isRound this x3 I) fun v2 I3 =>
    if v2 = 0 then
      b_X12_way_54 this x1 k11 x2 x3 I3
    else
      if x2 = x1 then
        some (((((nI 100) * (x3 / (nI 12))) + ((nI 10) * (q_rem (x3 / (nI 3)) (nI 4)))) + (q_rem x3 (nI 3))), I3)
      else
        b_X12_way_54 this x1 k11 (x2 + (nI 1)) x3 I3
set_option maxRecDepth 100000 in
set_option maxHeartbeats 4000000 in
theorem p_X12_way_11 {l : Launch} {Γ : qC} {g : qG} {z : Int32 × qI} {this : Nat} {x1 : Int32} {X : qX} (hΓ : q_gm Γ) (hg : q_Ok l Γ RX12 cX12_way 4 (q_rm 7 0 0) "way" (some .int) g) (hr : q_Rt cX12_way (some .int) (q_rm 7 0 0) (some (.int z.1), z.2, X) g) (hX : q_Lay X) (k_this : q_kd X this = some (14, 42)) {k11 : Int32 → Int32 → qI → Option (Int32 × qI)} (hk11 : ∀ (x2 : Int32) (x3 : Int32) (I : qI), k11 x2 x3 I = some z → g 0 0 11 [(0, .ref this), (1, .int x1), (2, .int x2), (3, .int x3)] [] I X) (x2 : Int32) (x3 : Int32) (I : qI) (h : b_X12_way_11 this x1 k11 x2 x3 I = some z) : g 0 0 11 [(0, .ref this), (1, .int x1), (2, .int x2), (3, .int x3)] [] I X := by
  unfold b_X12_way_11 at h
  refine r_iload_n hg 3 dX12_way_11 rfl rfl ?_
  refine r_bipush hg dX12_way_12 cb_48 ?_
  refine r_icmp_ge hg 60 dX12_way_14 (by decide) (fun c1 => ?_) (fun c1 => ?_)
  · rw [if_pos c1] at h
    refine r_ldc hg dX12_way_60 kc_X12_61 ?_
    exact r_ireturn hr dX12_way_62 ⟨Nat.zero_le _, Nat.zero_le _⟩ ⟨_, rfl, rfl⟩ (by cases h; rfl)
  · rw [if_neg c1] at h
    refine r_aload_n hg 0 dX12_way_17 rfl rfl ?_
    refine r_iload_n hg 3 dX12_way_18 rfl rfl ?_
    obtain ⟨v2, I3, e4, h⟩ := q_b2_some h
    refine r_cV1i hg dX12_way_19 mt_X12_isRound ml_X12_389 mv_X12_isRound k_this (s_X12_isRound hΓ hX k_this e4) (q_room (Nat.le_of_ble_eq_true rfl) (Nat.le_of_ble_eq_true rfl)) ⟨Nat.zero_le _, Nat.zero_le _⟩ (Nat.le_of_ble_eq_true rfl) ?_
    refine r_if_eq hg 54 dX12_way_22 (by decide) (fun c5 => ?_) (fun c5 => ?_)
    · rw [if_pos c5] at h
      exact p_X12_way_54 hΓ hg hr hX k_this hk11 _ _ _ h
    · rw [if_neg c5] at h
      refine r_iload_n hg 2 dX12_way_25 rfl rfl ?_
      refine r_iload_n hg 1 dX12_way_26 rfl rfl ?_
      refine r_icmp_ne hg 51 dX12_way_27 (by decide) (fun c6 => ?_) (fun c6 => ?_)
      · rw [if_neg c6] at h
        refine r_iinc hg 2 (v := (x2 + (nI 1))) (L' := [(2, .int (x2 + (nI 1))), (0, .ref this), (1, .int x1), (3, .int x3)]) dX12_way_51 rfl (by rw [ci_1]) (by decide) rfl ?_
        refine r_sub hg [1, 2, 0, 3] rfl ?_
        exact p_X12_way_54 hΓ hg hr hX k_this hk11 _ _ _ h
      · rw [if_pos (Classical.not_not.mp c6)] at h
        refine r_bipush hg dX12_way_30 cb_100 ?_
        refine r_iload_n hg 3 dX12_way_32 rfl rfl ?_
        refine r_bipush hg dX12_way_33 cb_12 ?_
        refine r_idiv hg dX12_way_35 nz_12 ?_
        refine r_imul hg dX12_way_36 ?_
        refine r_bipush hg dX12_way_37 cb_10 ?_
        refine r_iload_n hg 3 dX12_way_39 rfl rfl ?_
        refine r_iconst hg dX12_way_40 ci_3 ?_
        refine r_idiv hg dX12_way_41 nz_3 ?_
        refine r_iconst hg dX12_way_42 ci_4 ?_
        refine r_iremq hg dX12_way_43 nz_4 ?_
        refine r_imul hg dX12_way_44 ?_
        refine r_iadd hg dX12_way_45 ?_
        refine r_iload_n hg 3 dX12_way_46 rfl rfl ?_
        refine r_iconst hg dX12_way_47 ci_3 ?_
        refine r_iremq hg dX12_way_48 nz_3 ?_
        refine r_iadd hg dX12_way_49 ?_
        exact r_ireturn hr dX12_way_50 ⟨Nat.zero_le _, Nat.zero_le _⟩ ⟨_, rfl, rfl⟩ (by cases h; rfl)
theorem pl_X12_way_11 {l : Launch} {Γ : qC} {g : qG} {z : Int32 × qI} {this : Nat} {x1 : Int32} {X : qX} (hΓ : q_gm Γ) (hg : q_Ok l Γ RX12 cX12_way 4 (q_rm 7 0 0) "way" (some .int) g) (hr : q_Rt cX12_way (some .int) (q_rm 7 0 0) (some (.int z.1), z.2, X) g) (hX : q_Lay X) (k_this : q_kd X this = some (14, 42)) : ∀ (n : Nat) (x2 : Int32) (x3 : Int32) (I : qI), q_fix (fun _ _ _ => none) (b_X12_way_11 this x1) n x2 x3 I = some z → g 0 0 11 [(0, .ref this), (1, .int x1), (2, .int x2), (3, .int x3)] [] I X := by
  intro n
  induction n with
  | zero =>
    intro x2 x3 I h
    cases (show (none : Option (Int32 × qI)) = some z from h)
  | succ n ih =>
    intro x2 x3 I h
    exact p_X12_way_11 hΓ hg hr hX k_this ih _ _ _ h
def f_X12_way (this : Nat) (x1 : Int32) (I : qI) : Option (Int32 × qI) :=
  if 0 ≤ x1 then
    q_fix (fun _ _ _ => none) (b_X12_way_11 this x1) q_fu (nI 0) (nI 0) I
  else
    some ((-1000000001), I)
set_option maxRecDepth 100000 in
set_option maxHeartbeats 4000000 in
theorem s_X12_way {l : Launch} {Γ : qC} (hΓ : q_gm Γ) {X : qX} (hX : q_Lay X) {this : Nat} {x1 : Int32} (k_this : q_kd X this = some (14, 42)) {I : qI} {z : Int32 × qI} (h : f_X12_way this x1 I = some z) : q_Sem l Γ (q_rm 7 0 0) yX12_way cX12_way 4 (some .int) [.ref this, .int x1] I X (some (.int z.1), z.2, X) := by
  refine q_met (by decide) (Nat.le_of_ble_eq_true rfl) (fun g hg hr => ?_)
  unfold f_X12_way at h
  show g 0 0 0 [(0, .ref this), (1, .int x1)] [] I X
  refine r_iload_n hg 1 dX12_way_0 rfl rfl ?_
  refine r_if_ge hg 7 dX12_way_1 (by decide) (fun c1 => ?_) (fun c1 => ?_)
  · rw [if_pos c1] at h
    refine r_iconst hg dX12_way_7 ci_0 ?_
    refine r_istore_n hg (L' := [(2, .int (nI 0)), (0, .ref this), (1, .int x1)]) dX12_way_8 rfl (by decide) rfl ?_
    refine r_iconst hg dX12_way_9 ci_0 ?_
    refine r_istore_n hg (L' := [(3, .int (nI 0)), (2, .int (nI 0)), (0, .ref this), (1, .int x1)]) dX12_way_10 rfl (by decide) rfl ?_
    refine r_sub hg [2, 3, 1, 0] rfl ?_
    exact pl_X12_way_11 hΓ hg hr hX k_this _ _ _ _ h
  · rw [if_neg c1] at h
    refine r_ldc hg dX12_way_4 kc_X12_90 ?_
    exact r_ireturn hr dX12_way_6 ⟨Nat.zero_le _, Nat.zero_le _⟩ ⟨_, rfl, rfl⟩ (by cases h; rfl)

def b_X12_worth_151 (this : Nat) (x1 : Int32) (x2 : Int32) (k37 : Int32 → Int32 → Int32 → qI → Option (Int32 × qI)) (x3 : Int32) (x5 : Int32) (s0 : Int32) (I : qI) : Option (Int32 × qI) :=
  k37 x3 s0 (x5 + (nI 1)) I
set_option maxRecDepth 100000 in
set_option maxHeartbeats 4000000 in
theorem p_X12_worth_151 {l : Launch} {Γ : qC} {g : qG} {z : Int32 × qI} {this : Nat} {x1 : Int32} {x2 : Int32} {X : qX} (hΓ : q_gm Γ) (hg : q_Ok l Γ RX12 cX12_worth 7 (q_rm 7 0 0) "worth" (some .int) g) (hr : q_Rt cX12_worth (some .int) (q_rm 7 0 0) (some (.int z.1), z.2, X) g) (hX : q_Lay X) (k_this : q_kd X this = some (14, 42)) {k37 : Int32 → Int32 → Int32 → qI → Option (Int32 × qI)} (hk37 : ∀ (x3 : Int32) (x4 : Int32) (x5 : Int32) (I : qI), k37 x3 x4 x5 I = some z → g 0 0 37 [(0, .ref this), (2, .int x2), (3, .int x3), (4, .int x4), (5, .int x5)] [] I X) (x3 : Int32) (x5 : Int32) (s0 : Int32) (I : qI) (h : b_X12_worth_151 this x1 x2 k37 x3 x5 s0 I = some z) : g 0 0 151 [(0, .ref this), (2, .int x2), (3, .int x3), (5, .int x5)] [.int s0] I X := by
  unfold b_X12_worth_151 at h
  refine r_istore hg (L' := [(4, .int s0), (0, .ref this), (2, .int x2), (3, .int x3), (5, .int x5)]) dX12_worth_151 (by decide) rfl ?_
  refine r_iinc hg 4 (v := (x5 + (nI 1))) (L' := [(5, .int (x5 + (nI 1))), (4, .int s0), (0, .ref this), (2, .int x2), (3, .int x3)]) dX12_worth_153 rfl (by rw [ci_1]) (by decide) rfl ?_
  refine r_goto hg 37 dX12_worth_156 (by decide) ?_
  refine r_sub hg [2, 3, 4, 1, 0] rfl ?_
  exact hk37 _ _ _ _ h
def b_X12_worth_149 (this : Nat) (x1 : Int32) (x2 : Int32) (k37 : Int32 → Int32 → Int32 → qI → Option (Int32 × qI)) (x3 : Int32) (x4 : Int32) (x5 : Int32) (I : qI) : Option (Int32 × qI) :=
  b_X12_worth_151 this x1 x2 k37 x3 x5 x4 I
set_option maxRecDepth 100000 in
set_option maxHeartbeats 4000000 in
theorem p_X12_worth_149 {l : Launch} {Γ : qC} {g : qG} {z : Int32 × qI} {this : Nat} {x1 : Int32} {x2 : Int32} {X : qX} (hΓ : q_gm Γ) (hg : q_Ok l Γ RX12 cX12_worth 7 (q_rm 7 0 0) "worth" (some .int) g) (hr : q_Rt cX12_worth (some .int) (q_rm 7 0 0) (some (.int z.1), z.2, X) g) (hX : q_Lay X) (k_this : q_kd X this = some (14, 42)) {k37 : Int32 → Int32 → Int32 → qI → Option (Int32 × qI)} (hk37 : ∀ (x3 : Int32) (x4 : Int32) (x5 : Int32) (I : qI), k37 x3 x4 x5 I = some z → g 0 0 37 [(0, .ref this), (2, .int x2), (3, .int x3), (4, .int x4), (5, .int x5)] [] I X) (x3 : Int32) (x4 : Int32) (x5 : Int32) (I : qI) (h : b_X12_worth_149 this x1 x2 k37 x3 x4 x5 I = some z) : g 0 0 149 [(0, .ref this), (2, .int x2), (3, .int x3), (4, .int x4), (5, .int x5)] [] I X := by
  unfold b_X12_worth_149 at h
  refine r_iload hg 3 dX12_worth_149 rfl ?_
  refine r_sub hg [0, 1, 2, 4] rfl ?_
  exact p_X12_worth_151 hΓ hg hr hX k_this hk37 _ _ _ _ h
def b_X12_worth_127 (this : Nat) (x1 : Int32) (x2 : Int32) (k37 : Int32 → Int32 → Int32 → qI → Option (Int32 × qI)) (x4 : Int32) (x5 : Int32) (x6 : Int32) (s0 : Int32) (I : qI) : Option (Int32 × qI) :=
  q_b1 (f_X12_isTown this x5 I) fun v1 =>
  if v1 = 0 then
    b_X12_worth_149 this x1 x2 k37 s0 x4 x5 I
  else
    if x6 ≤ x4 then
      b_X12_worth_149 this x1 x2 k37 s0 x4 x5 I
    else
      b_X12_worth_151 this x1 x2 k37 s0 x5 x6 I
set_option maxRecDepth 100000 in
set_option maxHeartbeats 4000000 in
theorem p_X12_worth_127 {l : Launch} {Γ : qC} {g : qG} {z : Int32 × qI} {this : Nat} {x1 : Int32} {x2 : Int32} {X : qX} (hΓ : q_gm Γ) (hg : q_Ok l Γ RX12 cX12_worth 7 (q_rm 7 0 0) "worth" (some .int) g) (hr : q_Rt cX12_worth (some .int) (q_rm 7 0 0) (some (.int z.1), z.2, X) g) (hX : q_Lay X) (k_this : q_kd X this = some (14, 42)) {k37 : Int32 → Int32 → Int32 → qI → Option (Int32 × qI)} (hk37 : ∀ (x3 : Int32) (x4 : Int32) (x5 : Int32) (I : qI), k37 x3 x4 x5 I = some z → g 0 0 37 [(0, .ref this), (2, .int x2), (3, .int x3), (4, .int x4), (5, .int x5)] [] I X) (x4 : Int32) (x5 : Int32) (x6 : Int32) (s0 : Int32) (I : qI) (h : b_X12_worth_127 this x1 x2 k37 x4 x5 x6 s0 I = some z) : g 0 0 127 [(0, .ref this), (2, .int x2), (4, .int x4), (5, .int x5), (6, .int x6)] [.int s0] I X := by
  unfold b_X12_worth_127 at h
  refine r_istore_n hg (L' := [(3, .int s0), (0, .ref this), (2, .int x2), (4, .int x4), (5, .int x5), (6, .int x6)]) dX12_worth_127 rfl (by decide) rfl ?_
  refine r_aload_n hg 1 dX12_worth_128 rfl rfl ?_
  refine r_iload hg 4 dX12_worth_129 rfl ?_
  obtain ⟨v1, e2, h⟩ := q_b1_some h
  refine r_cV1i hg dX12_worth_131 mt_X12_isTown ml_X12_132 mv_X12_isTown k_this (s_X12_isTown hΓ hX k_this e2) (q_room (Nat.le_of_ble_eq_true rfl) (Nat.le_of_ble_eq_true rfl)) ⟨Nat.zero_le _, Nat.zero_le _⟩ (Nat.le_of_ble_eq_true rfl) ?_
  refine r_if_eq hg 149 dX12_worth_134 (by decide) (fun c3 => ?_) (fun c3 => ?_)
  · rw [if_pos c3] at h
    refine r_sub hg [1, 2, 0, 3, 4] rfl ?_
    exact p_X12_worth_149 hΓ hg hr hX k_this hk37 _ _ _ _ h
  · rw [if_neg c3] at h
    refine r_iload hg 5 dX12_worth_137 rfl ?_
    refine r_iload hg 3 dX12_worth_139 rfl ?_
    refine r_icmp_le hg 149 dX12_worth_141 (by decide) (fun c4 => ?_) (fun c4 => ?_)
    · rw [if_pos c4] at h
      refine r_sub hg [1, 2, 0, 3, 4] rfl ?_
      exact p_X12_worth_149 hΓ hg hr hX k_this hk37 _ _ _ _ h
    · rw [if_neg c4] at h
      refine r_iload hg 5 dX12_worth_144 rfl ?_
      refine r_goto hg 151 dX12_worth_146 (by decide) ?_
      refine r_sub hg [1, 2, 0, 4] rfl ?_
      exact p_X12_worth_151 hΓ hg hr hX k_this hk37 _ _ _ _ h
def b_X12_worth_126 (this : Nat) (x1 : Int32) (x2 : Int32) (k37 : Int32 → Int32 → Int32 → qI → Option (Int32 × qI)) (x3 : Int32) (x4 : Int32) (x5 : Int32) (x6 : Int32) (I : qI) : Option (Int32 × qI) :=
  b_X12_worth_127 this x1 x2 k37 x4 x5 x6 x3 I
set_option maxRecDepth 100000 in
set_option maxHeartbeats 4000000 in
theorem p_X12_worth_126 {l : Launch} {Γ : qC} {g : qG} {z : Int32 × qI} {this : Nat} {x1 : Int32} {x2 : Int32} {X : qX} (hΓ : q_gm Γ) (hg : q_Ok l Γ RX12 cX12_worth 7 (q_rm 7 0 0) "worth" (some .int) g) (hr : q_Rt cX12_worth (some .int) (q_rm 7 0 0) (some (.int z.1), z.2, X) g) (hX : q_Lay X) (k_this : q_kd X this = some (14, 42)) {k37 : Int32 → Int32 → Int32 → qI → Option (Int32 × qI)} (hk37 : ∀ (x3 : Int32) (x4 : Int32) (x5 : Int32) (I : qI), k37 x3 x4 x5 I = some z → g 0 0 37 [(0, .ref this), (2, .int x2), (3, .int x3), (4, .int x4), (5, .int x5)] [] I X) (x3 : Int32) (x4 : Int32) (x5 : Int32) (x6 : Int32) (I : qI) (h : b_X12_worth_126 this x1 x2 k37 x3 x4 x5 x6 I = some z) : g 0 0 126 [(0, .ref this), (2, .int x2), (3, .int x3), (4, .int x4), (5, .int x5), (6, .int x6)] [] I X := by
  unfold b_X12_worth_126 at h
  refine r_iload_n hg 2 dX12_worth_126 rfl rfl ?_
  refine r_sub hg [0, 1, 3, 4, 5] rfl ?_
  exact p_X12_worth_127 hΓ hg hr hX k_this hk37 _ _ _ _ _ h
def b_X12_worth_104 (this : Nat) (x1 : Int32) (x2 : Int32) (k37 : Int32 → Int32 → Int32 → qI → Option (Int32 × qI)) (x3 : Int32) (x4 : Int32) (x5 : Int32) (s0 : Int32) (I : qI) : Option (Int32 × qI) :=
  q_b1 (f_X12_isTown this x5 I) fun v1 =>
  if v1 = 0 then
    if s0 ≤ x3 then
      b_X12_worth_126 this x1 x2 k37 x3 x4 x5 s0 I
    else
      b_X12_worth_127 this x1 x2 k37 x4 x5 s0 s0 I
  else
    b_X12_worth_126 this x1 x2 k37 x3 x4 x5 s0 I
set_option maxRecDepth 100000 in
set_option maxHeartbeats 4000000 in
theorem p_X12_worth_104 {l : Launch} {Γ : qC} {g : qG} {z : Int32 × qI} {this : Nat} {x1 : Int32} {x2 : Int32} {X : qX} (hΓ : q_gm Γ) (hg : q_Ok l Γ RX12 cX12_worth 7 (q_rm 7 0 0) "worth" (some .int) g) (hr : q_Rt cX12_worth (some .int) (q_rm 7 0 0) (some (.int z.1), z.2, X) g) (hX : q_Lay X) (k_this : q_kd X this = some (14, 42)) {k37 : Int32 → Int32 → Int32 → qI → Option (Int32 × qI)} (hk37 : ∀ (x3 : Int32) (x4 : Int32) (x5 : Int32) (I : qI), k37 x3 x4 x5 I = some z → g 0 0 37 [(0, .ref this), (2, .int x2), (3, .int x3), (4, .int x4), (5, .int x5)] [] I X) (x3 : Int32) (x4 : Int32) (x5 : Int32) (s0 : Int32) (I : qI) (h : b_X12_worth_104 this x1 x2 k37 x3 x4 x5 s0 I = some z) : g 0 0 104 [(0, .ref this), (2, .int x2), (3, .int x3), (4, .int x4), (5, .int x5)] [.int s0] I X := by
  unfold b_X12_worth_104 at h
  refine r_istore hg (L' := [(6, .int s0), (0, .ref this), (2, .int x2), (3, .int x3), (4, .int x4), (5, .int x5)]) dX12_worth_104 (by decide) rfl ?_
  refine r_aload_n hg 1 dX12_worth_106 rfl rfl ?_
  refine r_iload hg 5 dX12_worth_107 rfl ?_
  obtain ⟨v1, e2, h⟩ := q_b1_some h
  refine r_cV1i hg dX12_worth_109 mt_X12_isTown ml_X12_132 mv_X12_isTown k_this (s_X12_isTown hΓ hX k_this e2) (q_room (Nat.le_of_ble_eq_true rfl) (Nat.le_of_ble_eq_true rfl)) ⟨Nat.zero_le _, Nat.zero_le _⟩ (Nat.le_of_ble_eq_true rfl) ?_
  refine r_if_ne hg 126 dX12_worth_112 (by decide) (fun c3 => ?_) (fun c3 => ?_)
  · rw [if_neg c3] at h
    refine r_sub hg [1, 2, 3, 4, 5, 0] rfl ?_
    exact p_X12_worth_126 hΓ hg hr hX k_this hk37 _ _ _ _ _ h
  · rw [if_pos (Classical.not_not.mp c3)] at h
    refine r_iload hg 0 dX12_worth_115 rfl ?_
    refine r_iload_n hg 3 dX12_worth_117 rfl rfl ?_
    refine r_icmp_le hg 126 dX12_worth_118 (by decide) (fun c4 => ?_) (fun c4 => ?_)
    · rw [if_pos c4] at h
      refine r_sub hg [1, 2, 3, 4, 5, 0] rfl ?_
      exact p_X12_worth_126 hΓ hg hr hX k_this hk37 _ _ _ _ _ h
    · rw [if_neg c4] at h
      refine r_iload hg 0 dX12_worth_121 rfl ?_
      refine r_goto hg 127 dX12_worth_123 (by decide) ?_
      refine r_sub hg [1, 2, 4, 5, 0] rfl ?_
      exact p_X12_worth_127 hΓ hg hr hX k_this hk37 _ _ _ _ _ h
def b_X12_worth_37 (this : Nat) (x1 : Int32) (x2 : Int32) (k37 : Int32 → Int32 → Int32 → qI → Option (Int32 × qI)) (x3 : Int32) (x4 : Int32) (x5 : Int32) (I : qI) : Option (Int32 × qI) :=
  q_b1 (q_rd I (this + 1) 3580 (nI 1)) fun v2 =>
  if v2 ≤ x5 then
    if x2 = (nI 0) then
      some ((I this 7), I)
    else
    if x2 = (nI 1) then
      some ((I this 8), I)
    else
    if x2 = (nI 2) then
      some (((I this 7) - (I this 8)), I)
    else
    if x2 = (nI 3) then
      some ((I this 9), I)
    else
    if x2 = (nI 4) then
      some ((I this 10), I)
    else
    if x2 = (nI 5) then
      some ((I this 11), I)
    else
    if x2 = (nI 6) then
      some ((I this 12), I)
    else
    if x2 = (nI 7) then
      some (x3, I)
    else
      some (x4, I)
  else
    q_b1 (f_X12_shopAt this x5) fun v14 =>
    q_b1 (q_rd I (this + 1) 3580 (v14 + (nI 3))) fun v16 =>
    if v16 ≤ (I this 7) then
      q_b1 (f_X12_shopAt this x5) fun v20 =>
      q_b1 (q_rd I (this + 1) 3580 (v20 + (nI 3))) fun v22 =>
      q_b1 (f_X12_shopAt this x5) fun v25 =>
      q_b1 (q_rd I (this + 1) 3580 (v25 + (nI 1))) fun v27 =>
      if v27 = 0 then none else
      b_X12_worth_104 this x1 x2 k37 x3 x4 x5 (((I this 7) - v22) / v27) I
    else
      b_X12_worth_104 this x1 x2 k37 x3 x4 x5 (nI 0) I
set_option maxRecDepth 100000 in
set_option maxHeartbeats 4000000 in
theorem p_X12_worth_37 {l : Launch} {Γ : qC} {g : qG} {z : Int32 × qI} {this : Nat} {x1 : Int32} {x2 : Int32} {X : qX} (hΓ : q_gm Γ) (hg : q_Ok l Γ RX12 cX12_worth 7 (q_rm 7 0 0) "worth" (some .int) g) (hr : q_Rt cX12_worth (some .int) (q_rm 7 0 0) (some (.int z.1), z.2, X) g) (hX : q_Lay X) (k_this : q_kd X this = some (14, 42)) {k37 : Int32 → Int32 → Int32 → qI → Option (Int32 × qI)} (hk37 : ∀ (x3 : Int32) (x4 : Int32) (x5 : Int32) (I : qI), k37 x3 x4 x5 I = some z → g 0 0 37 [(0, .ref this), (2, .int x2), (3, .int x3), (4, .int x4), (5, .int x5)] [] I X) (x3 : Int32) (x4 : Int32) (x5 : Int32) (I : qI) (h : b_X12_worth_37 this x1 x2 k37 x3 x4 x5 I = some z) : g 0 0 37 [(0, .ref this), (2, .int x2), (3, .int x3), (4, .int x4), (5, .int x5)] [] I X := by
  unfold b_X12_worth_37 at h
  refine r_iload hg 4 dX12_worth_37 rfl ?_
  refine r_aload_n hg 0 dX12_worth_39 rfl rfl ?_
  have e1 := ly_12_0 hX k_this
  refine r_getR hg dX12_worth_40 fl_X12_7 k_this rfl e1.1 ?_
  refine r_iconst hg dX12_worth_43 ci_1 ?_
  obtain ⟨v2, e3, h⟩ := q_b1_some h
  refine r_iald hg dX12_worth_44 e1.2 e3 ?_
  refine r_icmp_ge hg 159 dX12_worth_45 (by decide) (fun c4 => ?_) (fun c4 => ?_)
  · rw [if_pos c4] at h
    refine r_iload_n hg 1 dX12_worth_159 rfl rfl ?_
    by_cases c5 : x2 = (nI 0)
    · rw [if_pos c5] at h
      refine r_tab hg 204 dX12_worth_160 rfl (by rw [c5] <;> decide +kernel) (by decide) ?_
      refine r_aload_n hg 0 dX12_worth_204 rfl rfl ?_
      refine r_getI hg dX12_worth_205 fl_X12_156 k_this rfl ?_
      exact r_ireturn hr dX12_worth_208 ⟨Nat.zero_le _, Nat.zero_le _⟩ ⟨_, rfl, rfl⟩ (by cases h; rfl)
    rw [if_neg c5] at h
    by_cases c6 : x2 = (nI 1)
    · rw [if_pos c6] at h
      refine r_tab hg 209 dX12_worth_160 rfl (by rw [c6] <;> decide +kernel) (by decide) ?_
      refine r_aload_n hg 0 dX12_worth_209 rfl rfl ?_
      refine r_getI hg dX12_worth_210 fl_X12_180 k_this rfl ?_
      exact r_ireturn hr dX12_worth_213 ⟨Nat.zero_le _, Nat.zero_le _⟩ ⟨_, rfl, rfl⟩ (by cases h; rfl)
    rw [if_neg c6] at h
    by_cases c7 : x2 = (nI 2)
    · rw [if_pos c7] at h
      refine r_tab hg 214 dX12_worth_160 rfl (by rw [c7] <;> decide +kernel) (by decide) ?_
      refine r_aload_n hg 0 dX12_worth_214 rfl rfl ?_
      refine r_getI hg dX12_worth_215 fl_X12_156 k_this rfl ?_
      refine r_aload_n hg 0 dX12_worth_218 rfl rfl ?_
      refine r_getI hg dX12_worth_219 fl_X12_180 k_this rfl ?_
      refine r_isub hg dX12_worth_222 ?_
      exact r_ireturn hr dX12_worth_223 ⟨Nat.zero_le _, Nat.zero_le _⟩ ⟨_, rfl, rfl⟩ (by cases h; rfl)
    rw [if_neg c7] at h
    by_cases c8 : x2 = (nI 3)
    · rw [if_pos c8] at h
      refine r_tab hg 224 dX12_worth_160 rfl (by rw [c8] <;> decide +kernel) (by decide) ?_
      refine r_aload_n hg 0 dX12_worth_224 rfl rfl ?_
      refine r_getI hg dX12_worth_225 fl_X12_163 k_this rfl ?_
      exact r_ireturn hr dX12_worth_228 ⟨Nat.zero_le _, Nat.zero_le _⟩ ⟨_, rfl, rfl⟩ (by cases h; rfl)
    rw [if_neg c8] at h
    by_cases c9 : x2 = (nI 4)
    · rw [if_pos c9] at h
      refine r_tab hg 229 dX12_worth_160 rfl (by rw [c9] <;> decide +kernel) (by decide) ?_
      refine r_aload_n hg 0 dX12_worth_229 rfl rfl ?_
      refine r_getI hg dX12_worth_230 fl_X12_166 k_this rfl ?_
      exact r_ireturn hr dX12_worth_233 ⟨Nat.zero_le _, Nat.zero_le _⟩ ⟨_, rfl, rfl⟩ (by cases h; rfl)
    rw [if_neg c9] at h
    by_cases c10 : x2 = (nI 5)
    · rw [if_pos c10] at h
      refine r_tab hg 234 dX12_worth_160 rfl (by rw [c10] <;> decide +kernel) (by decide) ?_
      refine r_aload_n hg 0 dX12_worth_234 rfl rfl ?_
      refine r_getI hg dX12_worth_235 fl_X12_169 k_this rfl ?_
      exact r_ireturn hr dX12_worth_238 ⟨Nat.zero_le _, Nat.zero_le _⟩ ⟨_, rfl, rfl⟩ (by cases h; rfl)
    rw [if_neg c10] at h
    by_cases c11 : x2 = (nI 6)
    · rw [if_pos c11] at h
      refine r_tab hg 239 dX12_worth_160 rfl (by rw [c11] <;> decide +kernel) (by decide) ?_
      refine r_aload_n hg 0 dX12_worth_239 rfl rfl ?_
      refine r_getI hg dX12_worth_240 fl_X12_172 k_this rfl ?_
      exact r_ireturn hr dX12_worth_243 ⟨Nat.zero_le _, Nat.zero_le _⟩ ⟨_, rfl, rfl⟩ (by cases h; rfl)
    rw [if_neg c11] at h
    refine r_tab hg 244 dX12_worth_160 rfl (q_tab_d (fun k hk ho => ?_)) (by decide) ?_
    · have hk : k < 7 := hk
      rcases (show k = 0 ∨ k = 1 ∨ k = 2 ∨ k = 3 ∨ k = 4 ∨ k = 5 ∨ k = 6 by omega) with rfl | rfl | rfl | rfl | rfl | rfl | rfl
      · exact lv_neT c5 (by decide +kernel)
      · exact lv_neT c6 (by decide +kernel)
      · exact lv_neT c7 (by decide +kernel)
      · exact lv_neT c8 (by decide +kernel)
      · exact lv_neT c9 (by decide +kernel)
      · exact lv_neT c10 (by decide +kernel)
      · exact lv_neT c11 (by decide +kernel)
    refine r_iload_n hg 1 dX12_worth_244 rfl rfl ?_
    refine r_bipush hg dX12_worth_245 cb_7 ?_
    refine r_icmp_ne hg 254 dX12_worth_247 (by decide) (fun c12 => ?_) (fun c12 => ?_)
    · rw [if_neg c12] at h
      refine r_iload hg 3 dX12_worth_254 rfl ?_
      exact r_ireturn hr dX12_worth_256 ⟨Nat.zero_le _, Nat.zero_le _⟩ ⟨_, rfl, rfl⟩ (by cases h; rfl)
    · rw [if_pos (Classical.not_not.mp c12)] at h
      refine r_iload_n hg 2 dX12_worth_250 rfl rfl ?_
      refine r_goto hg 256 dX12_worth_251 (by decide) ?_
      exact r_ireturn hr dX12_worth_256 ⟨Nat.zero_le _, Nat.zero_le _⟩ ⟨_, rfl, rfl⟩ (by cases h; rfl)
  · rw [if_neg c4] at h
    refine r_aload_n hg 0 dX12_worth_48 rfl rfl ?_
    refine r_getI hg dX12_worth_49 fl_X12_156 k_this rfl ?_
    refine r_aload_n hg 0 dX12_worth_52 rfl rfl ?_
    have e13 := ly_12_0 hX k_this
    refine r_getR hg dX12_worth_53 fl_X12_7 k_this rfl e13.1 ?_
    refine r_aload_n hg 0 dX12_worth_56 rfl rfl ?_
    refine r_iload hg 4 dX12_worth_57 rfl ?_
    obtain ⟨v14, e15, h⟩ := q_b1_some h
    refine r_cV1i hg dX12_worth_59 mt_X12_shopAt ml_X12_72 mv_X12_shopAt k_this (s_X12_shopAt hΓ hX k_this e15) (q_room (Nat.le_of_ble_eq_true rfl) (Nat.le_of_ble_eq_true rfl)) ⟨Nat.zero_le _, Nat.zero_le _⟩ (Nat.le_of_ble_eq_true rfl) ?_
    refine r_iconst hg dX12_worth_62 ci_3 ?_
    refine r_iadd hg dX12_worth_63 ?_
    obtain ⟨v16, e17, h⟩ := q_b1_some h
    refine r_iald hg dX12_worth_64 e13.2 e17 ?_
    refine r_icmp_ge hg 72 dX12_worth_65 (by decide) (fun c18 => ?_) (fun c18 => ?_)
    · rw [if_pos c18] at h
      refine r_aload_n hg 0 dX12_worth_72 rfl rfl ?_
      refine r_getI hg dX12_worth_73 fl_X12_156 k_this rfl ?_
      refine r_aload_n hg 0 dX12_worth_76 rfl rfl ?_
      have e19 := ly_12_0 hX k_this
      refine r_getR hg dX12_worth_77 fl_X12_7 k_this rfl e19.1 ?_
      refine r_aload_n hg 0 dX12_worth_80 rfl rfl ?_
      refine r_iload hg 4 dX12_worth_81 rfl ?_
      obtain ⟨v20, e21, h⟩ := q_b1_some h
      refine r_cV1i hg dX12_worth_83 mt_X12_shopAt ml_X12_72 mv_X12_shopAt k_this (s_X12_shopAt hΓ hX k_this e21) (q_room (Nat.le_of_ble_eq_true rfl) (Nat.le_of_ble_eq_true rfl)) ⟨Nat.zero_le _, Nat.zero_le _⟩ (Nat.le_of_ble_eq_true rfl) ?_
      refine r_iconst hg dX12_worth_86 ci_3 ?_
      refine r_iadd hg dX12_worth_87 ?_
      obtain ⟨v22, e23, h⟩ := q_b1_some h
      refine r_iald hg dX12_worth_88 e19.2 e23 ?_
      refine r_isub hg dX12_worth_89 ?_
      refine r_aload_n hg 0 dX12_worth_90 rfl rfl ?_
      have e24 := ly_12_0 hX k_this
      refine r_getR hg dX12_worth_91 fl_X12_7 k_this rfl e24.1 ?_
      refine r_aload_n hg 0 dX12_worth_94 rfl rfl ?_
      refine r_iload hg 4 dX12_worth_95 rfl ?_
      obtain ⟨v25, e26, h⟩ := q_b1_some h
      refine r_cV1i hg dX12_worth_97 mt_X12_shopAt ml_X12_72 mv_X12_shopAt k_this (s_X12_shopAt hΓ hX k_this e26) (q_room (Nat.le_of_ble_eq_true rfl) (Nat.le_of_ble_eq_true rfl)) ⟨Nat.zero_le _, Nat.zero_le _⟩ (Nat.le_of_ble_eq_true rfl) ?_
      refine r_iconst hg dX12_worth_100 ci_1 ?_
      refine r_iadd hg dX12_worth_101 ?_
      obtain ⟨v27, e28, h⟩ := q_b1_some h
      refine r_iald hg dX12_worth_102 e24.2 e28 ?_
      by_cases c29 : v27 = 0
      · rw [if_pos c29] at h; cases h
      rw [if_neg c29] at h
      refine r_idiv hg dX12_worth_103 c29 ?_
      exact p_X12_worth_104 hΓ hg hr hX k_this hk37 _ _ _ _ _ h
    · rw [if_neg c18] at h
      refine r_iconst hg dX12_worth_68 ci_0 ?_
      refine r_goto hg 104 dX12_worth_69 (by decide) ?_
      exact p_X12_worth_104 hΓ hg hr hX k_this hk37 _ _ _ _ _ h
theorem pl_X12_worth_37 {l : Launch} {Γ : qC} {g : qG} {z : Int32 × qI} {this : Nat} {x1 : Int32} {x2 : Int32} {X : qX} (hΓ : q_gm Γ) (hg : q_Ok l Γ RX12 cX12_worth 7 (q_rm 7 0 0) "worth" (some .int) g) (hr : q_Rt cX12_worth (some .int) (q_rm 7 0 0) (some (.int z.1), z.2, X) g) (hX : q_Lay X) (k_this : q_kd X this = some (14, 42)) : ∀ (n : Nat) (x3 : Int32) (x4 : Int32) (x5 : Int32) (I : qI), q_fix (fun _ _ _ _ => none) (b_X12_worth_37 this x1 x2) n x3 x4 x5 I = some z → g 0 0 37 [(0, .ref this), (2, .int x2), (3, .int x3), (4, .int x4), (5, .int x5)] [] I X := by
  intro n
  induction n with
  | zero =>
    intro x3 x4 x5 I h
    cases (show (none : Option (Int32 × qI)) = some z from h)
  | succ n ih =>
    intro x3 x4 x5 I h
    exact p_X12_worth_37 hΓ hg hr hX k_this ih _ _ _ _ h
def f_X12_worth (this : Nat) (x1 : Int32) (x2 : Int32) (I : qI) : Option (Int32 × qI) :=
  q_b1 (f_X12_isMan this x1 I) fun v1 =>
  if v1 = 0 then
    some ((-1000000001), I)
  else
    q_b1 (f_X12_isIn x2.toInt64 (0 : Int64) (8 : Int64)) fun v4 =>
    if v4 = 0 then
      some ((-1000000001), I)
    else
      q_b1 (f_X12_pays this x1 (nI 0) I) fun I7 =>
      q_fix (fun _ _ _ _ => none) (b_X12_worth_37 this x1 x2) q_fu (nI 0) (nI 0) (nI 0) I7
set_option maxRecDepth 100000 in
set_option maxHeartbeats 4000000 in
theorem s_X12_worth {l : Launch} {Γ : qC} (hΓ : q_gm Γ) {X : qX} (hX : q_Lay X) {this : Nat} {x1 : Int32} {x2 : Int32} (k_this : q_kd X this = some (14, 42)) {I : qI} {z : Int32 × qI} (h : f_X12_worth this x1 x2 I = some z) : q_Sem l Γ (q_rm 7 0 0) yX12_worth cX12_worth 7 (some .int) [.ref this, .int x1, .int x2] I X (some (.int z.1), z.2, X) := by
  refine q_met (by decide) (Nat.le_of_ble_eq_true rfl) (fun g hg hr => ?_)
  unfold f_X12_worth at h
  show g 0 0 0 [(0, .ref this), (1, .int x1), (2, .int x2)] [] I X
  refine r_aload_n hg 0 dX12_worth_0 rfl rfl ?_
  refine r_iload_n hg 1 dX12_worth_1 rfl rfl ?_
  obtain ⟨v1, e2, h⟩ := q_b1_some h
  refine r_cV1i hg dX12_worth_2 mt_X12_isMan ml_X12_110 mv_X12_isMan k_this (s_X12_isMan hΓ hX k_this e2) (q_room (Nat.le_of_ble_eq_true rfl) (Nat.le_of_ble_eq_true rfl)) ⟨Nat.zero_le _, Nat.zero_le _⟩ (Nat.le_of_ble_eq_true rfl) ?_
  refine r_if_eq hg 20 dX12_worth_5 (by decide) (fun c3 => ?_) (fun c3 => ?_)
  · rw [if_pos c3] at h
    refine r_ldc hg dX12_worth_20 kc_X12_90 ?_
    exact r_ireturn hr dX12_worth_22 ⟨Nat.zero_le _, Nat.zero_le _⟩ ⟨_, rfl, rfl⟩ (by cases h; rfl)
  · rw [if_neg c3] at h
    refine r_iload_n hg 2 dX12_worth_8 rfl rfl ?_
    refine r_i2l hg dX12_worth_9 ?_
    refine r_lconst hg dX12_worth_10 lc_0 ?_
    refine r_ldc2 hg dX12_worth_11 kl_X12_363 ?_
    obtain ⟨v4, e5, h⟩ := q_b1_some h
    refine r_cS3i hg dX12_worth_14 mt_X12_isIn ⟨ml_X12_64, mst_X12_isIn⟩ (s_X12_isIn hΓ hX e5) (q_room (Nat.le_of_ble_eq_true rfl) (Nat.le_of_ble_eq_true rfl)) ⟨Nat.zero_le _, Nat.zero_le _⟩ (Nat.le_of_ble_eq_true rfl) ?_
    refine r_if_ne hg 23 dX12_worth_17 (by decide) (fun c6 => ?_) (fun c6 => ?_)
    · rw [if_neg c6] at h
      refine r_aload_n hg 0 dX12_worth_23 rfl rfl ?_
      refine r_iload_n hg 1 dX12_worth_24 rfl rfl ?_
      refine r_iconst hg dX12_worth_25 ci_0 ?_
      obtain ⟨I7, e8, h⟩ := q_b1_some h
      refine r_cV2v hg dX12_worth_26 mt_X12_pays ml_X12_191 mv_X12_pays k_this (s_X12_pays hΓ hX k_this e8) (q_room (Nat.le_of_ble_eq_true rfl) (Nat.le_of_ble_eq_true rfl)) ⟨Nat.zero_le _, Nat.zero_le _⟩ (Nat.le_of_ble_eq_true rfl) ?_
      refine r_iconst hg dX12_worth_29 ci_0 ?_
      refine r_istore_n hg (L' := [(3, .int (nI 0)), (0, .ref this), (1, .int x1), (2, .int x2)]) dX12_worth_30 rfl (by decide) rfl ?_
      refine r_iconst hg dX12_worth_31 ci_0 ?_
      refine r_istore hg (L' := [(4, .int (nI 0)), (3, .int (nI 0)), (0, .ref this), (1, .int x1), (2, .int x2)]) dX12_worth_32 (by decide) rfl ?_
      refine r_iconst hg dX12_worth_34 ci_0 ?_
      refine r_istore hg (L' := [(5, .int (nI 0)), (4, .int (nI 0)), (3, .int (nI 0)), (0, .ref this), (1, .int x1), (2, .int x2)]) dX12_worth_35 (by decide) rfl ?_
      refine r_sub hg [3, 5, 2, 1, 0] rfl ?_
      exact pl_X12_worth_37 hΓ hg hr hX k_this _ _ _ _ _ h
    · rw [if_pos (Classical.not_not.mp c6)] at h
      refine r_ldc hg dX12_worth_20 kc_X12_90 ?_
      exact r_ireturn hr dX12_worth_22 ⟨Nat.zero_le _, Nat.zero_le _⟩ ⟨_, rfl, rfl⟩ (by cases h; rfl)

def b_X12_would_109 (this : Nat) (x1 : Int32) (x2 : Int32) (k47 : Int32 → Int32 → qI → Option (Int32 × qI)) (x4 : Int32) (s0 : Int32) (s1 : Int32) (I : qI) : Option (Int32 × qI) :=
  k47 (s0 + s1) (x4 + (nI 1)) I
set_option maxRecDepth 100000 in
set_option maxHeartbeats 4000000 in
theorem p_X12_would_109 {l : Launch} {Γ : qC} {g : qG} {z : Int32 × qI} {this : Nat} {x1 : Int32} {x2 : Int32} {X : qX} (hΓ : q_gm Γ) (hg : q_Ok l Γ RX12 cX12_would 6 (q_rm 7 0 0) "would" (some .int) g) (hr : q_Rt cX12_would (some .int) (q_rm 7 0 0) (some (.int z.1), z.2, X) g) (hX : q_Lay X) (k_this : q_kd X this = some (14, 42)) {k47 : Int32 → Int32 → qI → Option (Int32 × qI)} (hk47 : ∀ (x3 : Int32) (x4 : Int32) (I : qI), k47 x3 x4 I = some z → g 0 0 47 [(0, .ref this), (1, .int x1), (2, .int x2), (3, .int x3), (4, .int x4)] [] I X) (x4 : Int32) (s0 : Int32) (s1 : Int32) (I : qI) (h : b_X12_would_109 this x1 x2 k47 x4 s0 s1 I = some z) : g 0 0 109 [(0, .ref this), (1, .int x1), (2, .int x2), (4, .int x4)] [.int s1, .int s0] I X := by
  unfold b_X12_would_109 at h
  refine r_iadd hg dX12_would_109 ?_
  refine r_istore_n hg (L' := [(3, .int (s0 + s1)), (0, .ref this), (1, .int x1), (2, .int x2), (4, .int x4)]) dX12_would_110 rfl (by decide) rfl ?_
  refine r_iinc hg 4 (v := (x4 + (nI 1))) (L' := [(4, .int (x4 + (nI 1))), (3, .int (s0 + s1)), (0, .ref this), (1, .int x1), (2, .int x2)]) dX12_would_111 rfl (by rw [ci_1]) (by decide) rfl ?_
  refine r_goto hg 47 dX12_would_114 (by decide) ?_
  refine r_sub hg [2, 3, 4, 1, 0] rfl ?_
  exact hk47 _ _ _ h
def b_X12_would_108 (this : Nat) (x1 : Int32) (x2 : Int32) (k47 : Int32 → Int32 → qI → Option (Int32 × qI)) (x4 : Int32) (s0 : Int32) (I : qI) : Option (Int32 × qI) :=
  b_X12_would_109 this x1 x2 k47 x4 s0 (nI 0) I
set_option maxRecDepth 100000 in
set_option maxHeartbeats 4000000 in
theorem p_X12_would_108 {l : Launch} {Γ : qC} {g : qG} {z : Int32 × qI} {this : Nat} {x1 : Int32} {x2 : Int32} {X : qX} (hΓ : q_gm Γ) (hg : q_Ok l Γ RX12 cX12_would 6 (q_rm 7 0 0) "would" (some .int) g) (hr : q_Rt cX12_would (some .int) (q_rm 7 0 0) (some (.int z.1), z.2, X) g) (hX : q_Lay X) (k_this : q_kd X this = some (14, 42)) {k47 : Int32 → Int32 → qI → Option (Int32 × qI)} (hk47 : ∀ (x3 : Int32) (x4 : Int32) (I : qI), k47 x3 x4 I = some z → g 0 0 47 [(0, .ref this), (1, .int x1), (2, .int x2), (3, .int x3), (4, .int x4)] [] I X) (x4 : Int32) (s0 : Int32) (I : qI) (h : b_X12_would_108 this x1 x2 k47 x4 s0 I = some z) : g 0 0 108 [(0, .ref this), (1, .int x1), (2, .int x2), (4, .int x4)] [.int s0] I X := by
  unfold b_X12_would_108 at h
  refine r_iconst hg dX12_would_108 ci_0 ?_
  exact p_X12_would_109 hΓ hg hr hX k_this hk47 _ _ _ _ h
def b_X12_would_86 (this : Nat) (x1 : Int32) (x2 : Int32) (k47 : Int32 → Int32 → qI → Option (Int32 × qI)) (x3 : Int32) (x4 : Int32) (s0 : Int32) (I : qI) : Option (Int32 × qI) :=
  if s0 = 0 then
    b_X12_would_108 this x1 x2 k47 x4 x3 I
  else
    q_b2 (f_X12_bars this x1 x4 I) fun v2 I3 =>
    if v2 = 0 then
      b_X12_would_108 this x1 x2 k47 x4 x3 I3
    else
      b_X12_would_109 this x1 x2 k47 x4 x3 (nI 1) I3
set_option maxRecDepth 100000 in
set_option maxHeartbeats 4000000 in
theorem p_X12_would_86 {l : Launch} {Γ : qC} {g : qG} {z : Int32 × qI} {this : Nat} {x1 : Int32} {x2 : Int32} {X : qX} (hΓ : q_gm Γ) (hg : q_Ok l Γ RX12 cX12_would 6 (q_rm 7 0 0) "would" (some .int) g) (hr : q_Rt cX12_would (some .int) (q_rm 7 0 0) (some (.int z.1), z.2, X) g) (hX : q_Lay X) (k_this : q_kd X this = some (14, 42)) {k47 : Int32 → Int32 → qI → Option (Int32 × qI)} (hk47 : ∀ (x3 : Int32) (x4 : Int32) (I : qI), k47 x3 x4 I = some z → g 0 0 47 [(0, .ref this), (1, .int x1), (2, .int x2), (3, .int x3), (4, .int x4)] [] I X) (x3 : Int32) (x4 : Int32) (s0 : Int32) (I : qI) (h : b_X12_would_86 this x1 x2 k47 x3 x4 s0 I = some z) : g 0 0 86 [(0, .ref this), (1, .int x1), (2, .int x2), (3, .int x3), (4, .int x4)] [.int s0] I X := by
  unfold b_X12_would_86 at h
  refine r_istore hg (L' := [(5, .int s0), (0, .ref this), (1, .int x1), (2, .int x2), (3, .int x3), (4, .int x4)]) dX12_would_86 (by decide) rfl ?_
  refine r_iload_n hg 4 dX12_would_88 rfl rfl ?_
  refine r_iload hg 0 dX12_would_89 rfl ?_
  refine r_if_eq hg 108 dX12_would_91 (by decide) (fun c1 => ?_) (fun c1 => ?_)
  · rw [if_pos c1] at h
    refine r_sub hg [1, 2, 3, 5] rfl ?_
    exact p_X12_would_108 hΓ hg hr hX k_this hk47 _ _ _ h
  · rw [if_neg c1] at h
    refine r_aload_n hg 1 dX12_would_94 rfl rfl ?_
    refine r_iload_n hg 2 dX12_would_95 rfl rfl ?_
    refine r_iload hg 5 dX12_would_96 rfl ?_
    obtain ⟨v2, I3, e4, h⟩ := q_b2_some h
    refine r_cV2i hg dX12_would_98 mt_X12_bars ml_X12_386 mv_X12_bars k_this (s_X12_bars hΓ hX k_this e4) (q_room (Nat.le_of_ble_eq_true rfl) (Nat.le_of_ble_eq_true rfl)) ⟨Nat.zero_le _, Nat.zero_le _⟩ (Nat.le_of_ble_eq_true rfl) ?_
    refine r_if_eq hg 108 dX12_would_101 (by decide) (fun c5 => ?_) (fun c5 => ?_)
    · rw [if_pos c5] at h
      refine r_sub hg [1, 2, 3, 5] rfl ?_
      exact p_X12_would_108 hΓ hg hr hX k_this hk47 _ _ _ h
    · rw [if_neg c5] at h
      refine r_iconst hg dX12_would_104 ci_1 ?_
      refine r_goto hg 109 dX12_would_105 (by decide) ?_
      refine r_sub hg [1, 2, 3, 5] rfl ?_
      exact p_X12_would_109 hΓ hg hr hX k_this hk47 _ _ _ _ h
def b_X12_would_47 (this : Nat) (x1 : Int32) (x2 : Int32) (k47 : Int32 → Int32 → qI → Option (Int32 × qI)) (x3 : Int32) (x4 : Int32) (I : qI) : Option (Int32 × qI) :=
  if (nI 48) ≤ x4 then
    some (x3, I)
  else
    if x2 = 0 then
      q_b2 (f_X12_isRound this x4 I) fun v7 I8 =>
      b_X12_would_86 this x1 x2 k47 x3 x4 v7 I8
    else
      q_b1 (q_rd I (this + 1) 3580 ((nI 3250) + x4)) fun v4 =>
      if v4 = 0 then
        b_X12_would_86 this x1 x2 k47 x3 x4 (nI 1) I
      else
        b_X12_would_86 this x1 x2 k47 x3 x4 (nI 0) I
set_option maxRecDepth 100000 in
set_option maxHeartbeats 4000000 in
theorem p_X12_would_47 {l : Launch} {Γ : qC} {g : qG} {z : Int32 × qI} {this : Nat} {x1 : Int32} {x2 : Int32} {X : qX} (hΓ : q_gm Γ) (hg : q_Ok l Γ RX12 cX12_would 6 (q_rm 7 0 0) "would" (some .int) g) (hr : q_Rt cX12_would (some .int) (q_rm 7 0 0) (some (.int z.1), z.2, X) g) (hX : q_Lay X) (k_this : q_kd X this = some (14, 42)) {k47 : Int32 → Int32 → qI → Option (Int32 × qI)} (hk47 : ∀ (x3 : Int32) (x4 : Int32) (I : qI), k47 x3 x4 I = some z → g 0 0 47 [(0, .ref this), (1, .int x1), (2, .int x2), (3, .int x3), (4, .int x4)] [] I X) (x3 : Int32) (x4 : Int32) (I : qI) (h : b_X12_would_47 this x1 x2 k47 x3 x4 I = some z) : g 0 0 47 [(0, .ref this), (1, .int x1), (2, .int x2), (3, .int x3), (4, .int x4)] [] I X := by
  unfold b_X12_would_47 at h
  refine r_iload hg 4 dX12_would_47 rfl ?_
  refine r_bipush hg dX12_would_49 cb_48 ?_
  refine r_icmp_ge hg 117 dX12_would_51 (by decide) (fun c1 => ?_) (fun c1 => ?_)
  · rw [if_pos c1] at h
    refine r_iload_n hg 3 dX12_would_117 rfl rfl ?_
    exact r_ireturn hr dX12_would_118 ⟨Nat.zero_le _, Nat.zero_le _⟩ ⟨_, rfl, rfl⟩ (by cases h; rfl)
  · rw [if_neg c1] at h
    refine r_iload_n hg 2 dX12_would_54 rfl rfl ?_
    refine r_if_ne hg 67 dX12_would_55 (by decide) (fun c2 => ?_) (fun c2 => ?_)
    · rw [if_neg c2] at h
      refine r_aload_n hg 0 dX12_would_67 rfl rfl ?_
      have e3 := ly_12_0 hX k_this
      refine r_getR hg dX12_would_68 fl_X12_7 k_this rfl e3.1 ?_
      refine r_sipush hg dX12_would_71 cs_3250 ?_
      refine r_iload hg 4 dX12_would_74 rfl ?_
      refine r_iadd hg dX12_would_76 ?_
      obtain ⟨v4, e5, h⟩ := q_b1_some h
      refine r_iald hg dX12_would_77 e3.2 e5 ?_
      refine r_if_ne hg 85 dX12_would_78 (by decide) (fun c6 => ?_) (fun c6 => ?_)
      · rw [if_neg c6] at h
        refine r_iconst hg dX12_would_85 ci_0 ?_
        exact p_X12_would_86 hΓ hg hr hX k_this hk47 _ _ _ _ h
      · rw [if_pos (Classical.not_not.mp c6)] at h
        refine r_iconst hg dX12_would_81 ci_1 ?_
        refine r_goto hg 86 dX12_would_82 (by decide) ?_
        exact p_X12_would_86 hΓ hg hr hX k_this hk47 _ _ _ _ h
    · rw [if_pos (Classical.not_not.mp c2)] at h
      refine r_aload_n hg 0 dX12_would_58 rfl rfl ?_
      refine r_iload hg 4 dX12_would_59 rfl ?_
      obtain ⟨v7, I8, e9, h⟩ := q_b2_some h
      refine r_cV1i hg dX12_would_61 mt_X12_isRound ml_X12_389 mv_X12_isRound k_this (s_X12_isRound hΓ hX k_this e9) (q_room (Nat.le_of_ble_eq_true rfl) (Nat.le_of_ble_eq_true rfl)) ⟨Nat.zero_le _, Nat.zero_le _⟩ (Nat.le_of_ble_eq_true rfl) ?_
      refine r_goto hg 86 dX12_would_64 (by decide) ?_
      exact p_X12_would_86 hΓ hg hr hX k_this hk47 _ _ _ _ h
theorem pl_X12_would_47 {l : Launch} {Γ : qC} {g : qG} {z : Int32 × qI} {this : Nat} {x1 : Int32} {x2 : Int32} {X : qX} (hΓ : q_gm Γ) (hg : q_Ok l Γ RX12 cX12_would 6 (q_rm 7 0 0) "would" (some .int) g) (hr : q_Rt cX12_would (some .int) (q_rm 7 0 0) (some (.int z.1), z.2, X) g) (hX : q_Lay X) (k_this : q_kd X this = some (14, 42)) : ∀ (n : Nat) (x3 : Int32) (x4 : Int32) (I : qI), q_fix (fun _ _ _ => none) (b_X12_would_47 this x1 x2) n x3 x4 I = some z → g 0 0 47 [(0, .ref this), (1, .int x1), (2, .int x2), (3, .int x3), (4, .int x4)] [] I X := by
  intro n
  induction n with
  | zero =>
    intro x3 x4 I h
    cases (show (none : Option (Int32 × qI)) = some z from h)
  | succ n ih =>
    intro x3 x4 I h
    exact p_X12_would_47 hΓ hg hr hX k_this ih _ _ _ h
def f_X12_would (this : Nat) (x1 : Int32) (x2 : Int32) (I : qI) : Option (Int32 × qI) :=
  q_b1 (f_X12_isText this x1 I) fun v1 =>
  if v1 = 0 then
    some ((-1000000001), I)
  else
    q_b1 (f_X12_isIn x2.toInt64 (0 : Int64) (1 : Int64)) fun v4 =>
    if v4 = 0 then
      some ((-1000000001), I)
    else
      q_b1 (f_X12_textAt this x1) fun v8 =>
      q_b1 (q_rd I (this + 1) 3580 (v8 + (nI 0))) fun v10 =>
      if v10 = (nI 6) then
        q_fix (fun _ _ _ => none) (b_X12_would_47 this x1 x2) q_fu (nI 0) (nI 0) I
      else
        some ((-1000000012), I)
set_option maxRecDepth 100000 in
set_option maxHeartbeats 4000000 in
theorem s_X12_would {l : Launch} {Γ : qC} (hΓ : q_gm Γ) {X : qX} (hX : q_Lay X) {this : Nat} {x1 : Int32} {x2 : Int32} (k_this : q_kd X this = some (14, 42)) {I : qI} {z : Int32 × qI} (h : f_X12_would this x1 x2 I = some z) : q_Sem l Γ (q_rm 7 0 0) yX12_would cX12_would 6 (some .int) [.ref this, .int x1, .int x2] I X (some (.int z.1), z.2, X) := by
  refine q_met (by decide) (Nat.le_of_ble_eq_true rfl) (fun g hg hr => ?_)
  unfold f_X12_would at h
  show g 0 0 0 [(0, .ref this), (1, .int x1), (2, .int x2)] [] I X
  refine r_aload_n hg 0 dX12_would_0 rfl rfl ?_
  refine r_iload_n hg 1 dX12_would_1 rfl rfl ?_
  obtain ⟨v1, e2, h⟩ := q_b1_some h
  refine r_cV1i hg dX12_would_2 mt_X12_isText ml_X12_308 mv_X12_isText k_this (s_X12_isText hΓ hX k_this e2) (q_room (Nat.le_of_ble_eq_true rfl) (Nat.le_of_ble_eq_true rfl)) ⟨Nat.zero_le _, Nat.zero_le _⟩ (Nat.le_of_ble_eq_true rfl) ?_
  refine r_if_eq hg 18 dX12_would_5 (by decide) (fun c3 => ?_) (fun c3 => ?_)
  · rw [if_pos c3] at h
    refine r_ldc hg dX12_would_18 kc_X12_90 ?_
    exact r_ireturn hr dX12_would_20 ⟨Nat.zero_le _, Nat.zero_le _⟩ ⟨_, rfl, rfl⟩ (by cases h; rfl)
  · rw [if_neg c3] at h
    refine r_iload_n hg 2 dX12_would_8 rfl rfl ?_
    refine r_i2l hg dX12_would_9 ?_
    refine r_lconst hg dX12_would_10 lc_0 ?_
    refine r_lconst hg dX12_would_11 lc_1 ?_
    obtain ⟨v4, e5, h⟩ := q_b1_some h
    refine r_cS3i hg dX12_would_12 mt_X12_isIn ⟨ml_X12_64, mst_X12_isIn⟩ (s_X12_isIn hΓ hX e5) (q_room (Nat.le_of_ble_eq_true rfl) (Nat.le_of_ble_eq_true rfl)) ⟨Nat.zero_le _, Nat.zero_le _⟩ (Nat.le_of_ble_eq_true rfl) ?_
    refine r_if_ne hg 21 dX12_would_15 (by decide) (fun c6 => ?_) (fun c6 => ?_)
    · rw [if_neg c6] at h
      refine r_aload_n hg 0 dX12_would_21 rfl rfl ?_
      have e7 := ly_12_0 hX k_this
      refine r_getR hg dX12_would_22 fl_X12_7 k_this rfl e7.1 ?_
      refine r_aload_n hg 0 dX12_would_25 rfl rfl ?_
      refine r_iload_n hg 1 dX12_would_26 rfl rfl ?_
      obtain ⟨v8, e9, h⟩ := q_b1_some h
      refine r_cV1i hg dX12_would_27 mt_X12_textAt ml_X12_297 mv_X12_textAt k_this (s_X12_textAt hΓ hX k_this e9) (q_room (Nat.le_of_ble_eq_true rfl) (Nat.le_of_ble_eq_true rfl)) ⟨Nat.zero_le _, Nat.zero_le _⟩ (Nat.le_of_ble_eq_true rfl) ?_
      refine r_iconst hg dX12_would_30 ci_0 ?_
      refine r_iadd hg dX12_would_31 ?_
      obtain ⟨v10, e11, h⟩ := q_b1_some h
      refine r_iald hg dX12_would_32 e7.2 e11 ?_
      refine r_bipush hg dX12_would_33 cb_6 ?_
      refine r_icmp_eq hg 42 dX12_would_35 (by decide) (fun c12 => ?_) (fun c12 => ?_)
      · rw [if_pos c12] at h
        refine r_iconst hg dX12_would_42 ci_0 ?_
        refine r_istore_n hg (L' := [(3, .int (nI 0)), (0, .ref this), (1, .int x1), (2, .int x2)]) dX12_would_43 rfl (by decide) rfl ?_
        refine r_iconst hg dX12_would_44 ci_0 ?_
        refine r_istore hg (L' := [(4, .int (nI 0)), (3, .int (nI 0)), (0, .ref this), (1, .int x1), (2, .int x2)]) dX12_would_45 (by decide) rfl ?_
        refine r_sub hg [2, 3, 4, 1, 0] rfl ?_
        exact pl_X12_would_47 hΓ hg hr hX k_this _ _ _ _ h
      · rw [if_neg c12] at h
        refine r_ldcw hg dX12_would_38 kc_X12_356 ?_
        exact r_ireturn hr dX12_would_41 ⟨Nat.zero_le _, Nat.zero_le _⟩ ⟨_, rfl, rfl⟩ (by cases h; rfl)
    · rw [if_pos (Classical.not_not.mp c6)] at h
      refine r_ldc hg dX12_would_18 kc_X12_90 ?_
      exact r_ireturn hr dX12_would_20 ⟨Nat.zero_le _, Nat.zero_le _⟩ ⟨_, rfl, rfl⟩ (by cases h; rfl)

def b_X12_oneDay_118 (this : Nat) (I : qI) : Option (qI) :=
  q_b1 (q_rd I (this + 1) 3580 (nI 0)) fun v2 =>
  q_b1 (q_wr I (this + 1) 3580 (nI 0) (v2 + (nI 1))) fun I4 =>
  some (I4)
set_option maxRecDepth 100000 in
set_option maxHeartbeats 4000000 in
theorem p_X12_oneDay_118 {l : Launch} {Γ : qC} {g : qG} {z : qI} {this : Nat} {X : qX} (hΓ : q_gm Γ) (hg : q_Ok l Γ RX12 cX12_oneDay 3 (q_rm 8 0 0) "oneDay" none g) (hr : q_Rt cX12_oneDay none (q_rm 8 0 0) (none, z, X) g) (hX : q_Lay X) (k_this : q_kd X this = some (14, 42)) (I : qI) (h : b_X12_oneDay_118 this I = some z) : g 0 0 118 [(0, .ref this)] [] I X := by
  unfold b_X12_oneDay_118 at h
  refine r_aload_n hg 0 dX12_oneDay_118 rfl rfl ?_
  have e1 := ly_12_0 hX k_this
  refine r_getR hg dX12_oneDay_119 fl_X12_7 k_this rfl e1.1 ?_
  refine r_iconst hg dX12_oneDay_122 ci_0 ?_
  refine r_dup2 hg dX12_oneDay_123 rfl rfl ?_
  obtain ⟨v2, e3, h⟩ := q_b1_some h
  refine r_iald hg dX12_oneDay_124 e1.2 e3 ?_
  refine r_iconst hg dX12_oneDay_125 ci_1 ?_
  refine r_iadd hg dX12_oneDay_126 ?_
  obtain ⟨I4, e5, h⟩ := q_b1_some h
  refine r_iast hg dX12_oneDay_127 e1.2 e5 ?_
  exact r_return hr dX12_oneDay_128 ⟨Nat.zero_le _, Nat.zero_le _⟩ rfl (by cases h; rfl)
def b_X12_oneDay_72 (this : Nat) (k64 : Int32 → qI → Option (qI)) (k72 : Int32 → Int32 → qI → Option (qI)) (x1 : Int32) (x2 : Int32) (I : qI) : Option (qI) :=
  q_b1 (q_rd I (this + 1) 3580 (nI 1)) fun v2 =>
  if v2 ≤ x2 then
    k64 (x1 + (nI 1)) I
  else
    q_b1 (f_X12_news this x1 x2 I) fun I5 =>
    k72 x1 (x2 + (nI 1)) I5
set_option maxRecDepth 100000 in
set_option maxHeartbeats 4000000 in
theorem p_X12_oneDay_72 {l : Launch} {Γ : qC} {g : qG} {z : qI} {this : Nat} {X : qX} (hΓ : q_gm Γ) (hg : q_Ok l Γ RX12 cX12_oneDay 3 (q_rm 8 0 0) "oneDay" none g) (hr : q_Rt cX12_oneDay none (q_rm 8 0 0) (none, z, X) g) (hX : q_Lay X) (k_this : q_kd X this = some (14, 42)) {k64 : Int32 → qI → Option (qI)} (hk64 : ∀ (x1 : Int32) (I : qI), k64 x1 I = some z → g 0 0 64 [(0, .ref this), (1, .int x1)] [] I X) {k72 : Int32 → Int32 → qI → Option (qI)} (hk72 : ∀ (x1 : Int32) (x2 : Int32) (I : qI), k72 x1 x2 I = some z → g 0 0 72 [(0, .ref this), (1, .int x1), (2, .int x2)] [] I X) (x1 : Int32) (x2 : Int32) (I : qI) (h : b_X12_oneDay_72 this k64 k72 x1 x2 I = some z) : g 0 0 72 [(0, .ref this), (1, .int x1), (2, .int x2)] [] I X := by
  unfold b_X12_oneDay_72 at h
  refine r_iload_n hg 2 dX12_oneDay_72 rfl rfl ?_
  refine r_aload_n hg 0 dX12_oneDay_73 rfl rfl ?_
  have e1 := ly_12_0 hX k_this
  refine r_getR hg dX12_oneDay_74 fl_X12_7 k_this rfl e1.1 ?_
  refine r_iconst hg dX12_oneDay_77 ci_1 ?_
  obtain ⟨v2, e3, h⟩ := q_b1_some h
  refine r_iald hg dX12_oneDay_78 e1.2 e3 ?_
  refine r_icmp_ge hg 94 dX12_oneDay_79 (by decide) (fun c4 => ?_) (fun c4 => ?_)
  · rw [if_pos c4] at h
    refine r_iinc hg 1 (v := (x1 + (nI 1))) (L' := [(1, .int (x1 + (nI 1))), (0, .ref this), (2, .int x2)]) dX12_oneDay_94 rfl (by rw [ci_1]) (by decide) rfl ?_
    refine r_goto hg 64 dX12_oneDay_97 (by decide) ?_
    refine r_sub hg [1, 0] rfl ?_
    exact hk64 _ _ h
  · rw [if_neg c4] at h
    refine r_aload_n hg 0 dX12_oneDay_82 rfl rfl ?_
    refine r_iload_n hg 1 dX12_oneDay_83 rfl rfl ?_
    refine r_iload_n hg 2 dX12_oneDay_84 rfl rfl ?_
    obtain ⟨I5, e6, h⟩ := q_b1_some h
    refine r_cV2v hg dX12_oneDay_85 mt_X12_news ml_X12_204 mv_X12_news k_this (s_X12_news hΓ hX k_this e6) (q_room (Nat.le_of_ble_eq_true rfl) (Nat.le_of_ble_eq_true rfl)) ⟨Nat.zero_le _, Nat.zero_le _⟩ (Nat.le_of_ble_eq_true rfl) ?_
    refine r_iinc hg 2 (v := (x2 + (nI 1))) (L' := [(2, .int (x2 + (nI 1))), (0, .ref this), (1, .int x1)]) dX12_oneDay_88 rfl (by rw [ci_1]) (by decide) rfl ?_
    refine r_goto hg 72 dX12_oneDay_91 (by decide) ?_
    refine r_sub hg [1, 2, 0] rfl ?_
    exact hk72 _ _ _ h
theorem pl_X12_oneDay_72 {l : Launch} {Γ : qC} {g : qG} {z : qI} {this : Nat} {X : qX} (hΓ : q_gm Γ) (hg : q_Ok l Γ RX12 cX12_oneDay 3 (q_rm 8 0 0) "oneDay" none g) (hr : q_Rt cX12_oneDay none (q_rm 8 0 0) (none, z, X) g) (hX : q_Lay X) (k_this : q_kd X this = some (14, 42)) {k64 : Int32 → qI → Option (qI)} (hk64 : ∀ (x1 : Int32) (I : qI), k64 x1 I = some z → g 0 0 64 [(0, .ref this), (1, .int x1)] [] I X) : ∀ (n : Nat) (x1 : Int32) (x2 : Int32) (I : qI), q_fix (fun _ _ _ => none) (b_X12_oneDay_72 this k64) n x1 x2 I = some z → g 0 0 72 [(0, .ref this), (1, .int x1), (2, .int x2)] [] I X := by
  intro n
  induction n with
  | zero =>
    intro x1 x2 I h
    cases (show (none : Option (qI)) = some z from h)
  | succ n ih =>
    intro x1 x2 I h
    exact p_X12_oneDay_72 hΓ hg hr hX k_this hk64 ih _ _ _ h
def b_X12_oneDay_64 (this : Nat) (k64 : Int32 → qI → Option (qI)) (x1 : Int32) (I : qI) : Option (qI) :=
  if (nI 8) ≤ x1 then
    q_b1 (q_rd I (this + 1) 3580 (nI 0)) fun v3 =>
    if (q_rem v3 (nI 7)) = (nI 6) then
      q_b1 (f_X12_endWeek this I) fun I6 =>
      b_X12_oneDay_118 this I6
    else
      b_X12_oneDay_118 this I
  else
    q_fix (fun _ _ _ => none) (b_X12_oneDay_72 this k64) q_fu x1 (nI 0) I
set_option maxRecDepth 100000 in
set_option maxHeartbeats 4000000 in
theorem p_X12_oneDay_64 {l : Launch} {Γ : qC} {g : qG} {z : qI} {this : Nat} {X : qX} (hΓ : q_gm Γ) (hg : q_Ok l Γ RX12 cX12_oneDay 3 (q_rm 8 0 0) "oneDay" none g) (hr : q_Rt cX12_oneDay none (q_rm 8 0 0) (none, z, X) g) (hX : q_Lay X) (k_this : q_kd X this = some (14, 42)) {k64 : Int32 → qI → Option (qI)} (hk64 : ∀ (x1 : Int32) (I : qI), k64 x1 I = some z → g 0 0 64 [(0, .ref this), (1, .int x1)] [] I X) (x1 : Int32) (I : qI) (h : b_X12_oneDay_64 this k64 x1 I = some z) : g 0 0 64 [(0, .ref this), (1, .int x1)] [] I X := by
  unfold b_X12_oneDay_64 at h
  refine r_iload_n hg 1 dX12_oneDay_64 rfl rfl ?_
  refine r_bipush hg dX12_oneDay_65 cb_8 ?_
  refine r_icmp_ge hg 100 dX12_oneDay_67 (by decide) (fun c1 => ?_) (fun c1 => ?_)
  · rw [if_pos c1] at h
    refine r_aload_n hg 0 dX12_oneDay_100 rfl rfl ?_
    have e2 := ly_12_0 hX k_this
    refine r_getR hg dX12_oneDay_101 fl_X12_7 k_this rfl e2.1 ?_
    refine r_iconst hg dX12_oneDay_104 ci_0 ?_
    obtain ⟨v3, e4, h⟩ := q_b1_some h
    refine r_iald hg dX12_oneDay_105 e2.2 e4 ?_
    refine r_bipush hg dX12_oneDay_106 cb_7 ?_
    refine r_iremq hg dX12_oneDay_108 nz_7 ?_
    refine r_bipush hg dX12_oneDay_109 cb_6 ?_
    refine r_icmp_ne hg 118 dX12_oneDay_111 (by decide) (fun c5 => ?_) (fun c5 => ?_)
    · rw [if_neg c5] at h
      refine r_sub hg [0] rfl ?_
      exact p_X12_oneDay_118 hΓ hg hr hX k_this _ h
    · rw [if_pos (Classical.not_not.mp c5)] at h
      refine r_aload_n hg 0 dX12_oneDay_114 rfl rfl ?_
      obtain ⟨I6, e7, h⟩ := q_b1_some h
      refine r_cV0v hg dX12_oneDay_115 mt_X12_endWeek ml_X12_207 mv_X12_endWeek k_this (s_X12_endWeek hΓ hX k_this e7) (q_room (Nat.le_of_ble_eq_true rfl) (Nat.le_of_ble_eq_true rfl)) ⟨Nat.zero_le _, Nat.zero_le _⟩ (Nat.le_of_ble_eq_true rfl) ?_
      refine r_sub hg [0] rfl ?_
      exact p_X12_oneDay_118 hΓ hg hr hX k_this _ h
  · rw [if_neg c1] at h
    refine r_iconst hg dX12_oneDay_70 ci_0 ?_
    refine r_istore_n hg (L' := [(2, .int (nI 0)), (0, .ref this), (1, .int x1)]) dX12_oneDay_71 rfl (by decide) rfl ?_
    refine r_sub hg [1, 2, 0] rfl ?_
    exact pl_X12_oneDay_72 hΓ hg hr hX k_this hk64 _ _ _ _ h
theorem pl_X12_oneDay_64 {l : Launch} {Γ : qC} {g : qG} {z : qI} {this : Nat} {X : qX} (hΓ : q_gm Γ) (hg : q_Ok l Γ RX12 cX12_oneDay 3 (q_rm 8 0 0) "oneDay" none g) (hr : q_Rt cX12_oneDay none (q_rm 8 0 0) (none, z, X) g) (hX : q_Lay X) (k_this : q_kd X this = some (14, 42)) : ∀ (n : Nat) (x1 : Int32) (I : qI), q_fix (fun _ _ => none) (b_X12_oneDay_64 this) n x1 I = some z → g 0 0 64 [(0, .ref this), (1, .int x1)] [] I X := by
  intro n
  induction n with
  | zero =>
    intro x1 I h
    cases (show (none : Option (qI)) = some z from h)
  | succ n ih =>
    intro x1 I h
    exact p_X12_oneDay_64 hΓ hg hr hX k_this ih _ _ h
def b_X12_oneDay_56 (this : Nat) (k33 : Int32 → qI → Option (qI)) (x1 : Int32) (I : qI) : Option (qI) :=
  k33 (x1 + (nI 1)) I
set_option maxRecDepth 100000 in
set_option maxHeartbeats 4000000 in
theorem p_X12_oneDay_56 {l : Launch} {Γ : qC} {g : qG} {z : qI} {this : Nat} {X : qX} (hΓ : q_gm Γ) (hg : q_Ok l Γ RX12 cX12_oneDay 3 (q_rm 8 0 0) "oneDay" none g) (hr : q_Rt cX12_oneDay none (q_rm 8 0 0) (none, z, X) g) (hX : q_Lay X) (k_this : q_kd X this = some (14, 42)) {k33 : Int32 → qI → Option (qI)} (hk33 : ∀ (x1 : Int32) (I : qI), k33 x1 I = some z → g 0 0 33 [(0, .ref this), (1, .int x1)] [] I X) (x1 : Int32) (I : qI) (h : b_X12_oneDay_56 this k33 x1 I = some z) : g 0 0 56 [(0, .ref this), (1, .int x1)] [] I X := by
  unfold b_X12_oneDay_56 at h
  refine r_iinc hg 1 (v := (x1 + (nI 1))) (L' := [(1, .int (x1 + (nI 1))), (0, .ref this)]) dX12_oneDay_56 rfl (by rw [ci_1]) (by decide) rfl ?_
  refine r_goto hg 33 dX12_oneDay_59 (by decide) ?_
  refine r_sub hg [1, 0] rfl ?_
  exact hk33 _ _ h
def b_X12_oneDay_33 (this : Nat) (k33 : Int32 → qI → Option (qI)) (x1 : Int32) (I : qI) : Option (qI) :=
  q_b1 (q_rd I (this + 1) 3580 (nI 2)) fun v2 =>
  if v2 ≤ x1 then
    q_fix (fun _ _ => none) (b_X12_oneDay_64 this) q_fu (nI 0) I
  else
    q_b1 (f_X12_isGone this x1 I) fun v5 =>
    if v5 = 0 then
      q_b1 (f_X12_eats this x1 I) fun I8 =>
      b_X12_oneDay_56 this k33 x1 I8
    else
      b_X12_oneDay_56 this k33 x1 I
set_option maxRecDepth 100000 in
set_option maxHeartbeats 4000000 in
theorem p_X12_oneDay_33 {l : Launch} {Γ : qC} {g : qG} {z : qI} {this : Nat} {X : qX} (hΓ : q_gm Γ) (hg : q_Ok l Γ RX12 cX12_oneDay 3 (q_rm 8 0 0) "oneDay" none g) (hr : q_Rt cX12_oneDay none (q_rm 8 0 0) (none, z, X) g) (hX : q_Lay X) (k_this : q_kd X this = some (14, 42)) {k33 : Int32 → qI → Option (qI)} (hk33 : ∀ (x1 : Int32) (I : qI), k33 x1 I = some z → g 0 0 33 [(0, .ref this), (1, .int x1)] [] I X) (x1 : Int32) (I : qI) (h : b_X12_oneDay_33 this k33 x1 I = some z) : g 0 0 33 [(0, .ref this), (1, .int x1)] [] I X := by
  unfold b_X12_oneDay_33 at h
  refine r_iload_n hg 1 dX12_oneDay_33 rfl rfl ?_
  refine r_aload_n hg 0 dX12_oneDay_34 rfl rfl ?_
  have e1 := ly_12_0 hX k_this
  refine r_getR hg dX12_oneDay_35 fl_X12_7 k_this rfl e1.1 ?_
  refine r_iconst hg dX12_oneDay_38 ci_2 ?_
  obtain ⟨v2, e3, h⟩ := q_b1_some h
  refine r_iald hg dX12_oneDay_39 e1.2 e3 ?_
  refine r_icmp_ge hg 62 dX12_oneDay_40 (by decide) (fun c4 => ?_) (fun c4 => ?_)
  · rw [if_pos c4] at h
    refine r_iconst hg dX12_oneDay_62 ci_0 ?_
    refine r_istore_n hg (L' := [(1, .int (nI 0)), (0, .ref this)]) dX12_oneDay_63 rfl (by decide) rfl ?_
    refine r_sub hg [1, 0] rfl ?_
    exact pl_X12_oneDay_64 hΓ hg hr hX k_this _ _ _ h
  · rw [if_neg c4] at h
    refine r_aload_n hg 0 dX12_oneDay_43 rfl rfl ?_
    refine r_iload_n hg 1 dX12_oneDay_44 rfl rfl ?_
    obtain ⟨v5, e6, h⟩ := q_b1_some h
    refine r_cV1i hg dX12_oneDay_45 mt_X12_isGone ml_X12_93 mv_X12_isGone k_this (s_X12_isGone hΓ hX k_this e6) (q_room (Nat.le_of_ble_eq_true rfl) (Nat.le_of_ble_eq_true rfl)) ⟨Nat.zero_le _, Nat.zero_le _⟩ (Nat.le_of_ble_eq_true rfl) ?_
    refine r_if_ne hg 56 dX12_oneDay_48 (by decide) (fun c7 => ?_) (fun c7 => ?_)
    · rw [if_neg c7] at h
      exact p_X12_oneDay_56 hΓ hg hr hX k_this hk33 _ _ h
    · rw [if_pos (Classical.not_not.mp c7)] at h
      refine r_aload_n hg 0 dX12_oneDay_51 rfl rfl ?_
      refine r_iload_n hg 1 dX12_oneDay_52 rfl rfl ?_
      obtain ⟨I8, e9, h⟩ := q_b1_some h
      refine r_cV1v hg dX12_oneDay_53 mt_X12_eats ml_X12_201 mv_X12_eats k_this (s_X12_eats hΓ hX k_this e9) (q_room (Nat.le_of_ble_eq_true rfl) (Nat.le_of_ble_eq_true rfl)) ⟨Nat.zero_le _, Nat.zero_le _⟩ (Nat.le_of_ble_eq_true rfl) ?_
      exact p_X12_oneDay_56 hΓ hg hr hX k_this hk33 _ _ h
theorem pl_X12_oneDay_33 {l : Launch} {Γ : qC} {g : qG} {z : qI} {this : Nat} {X : qX} (hΓ : q_gm Γ) (hg : q_Ok l Γ RX12 cX12_oneDay 3 (q_rm 8 0 0) "oneDay" none g) (hr : q_Rt cX12_oneDay none (q_rm 8 0 0) (none, z, X) g) (hX : q_Lay X) (k_this : q_kd X this = some (14, 42)) : ∀ (n : Nat) (x1 : Int32) (I : qI), q_fix (fun _ _ => none) (b_X12_oneDay_33 this) n x1 I = some z → g 0 0 33 [(0, .ref this), (1, .int x1)] [] I X := by
  intro n
  induction n with
  | zero =>
    intro x1 I h
    cases (show (none : Option (qI)) = some z from h)
  | succ n ih =>
    intro x1 I h
    exact p_X12_oneDay_33 hΓ hg hr hX k_this ih _ _ h
def b_X12_oneDay_25 (this : Nat) (k2 : Int32 → qI → Option (qI)) (x1 : Int32) (I : qI) : Option (qI) :=
  k2 (x1 + (nI 1)) I
set_option maxRecDepth 100000 in
set_option maxHeartbeats 4000000 in
theorem p_X12_oneDay_25 {l : Launch} {Γ : qC} {g : qG} {z : qI} {this : Nat} {X : qX} (hΓ : q_gm Γ) (hg : q_Ok l Γ RX12 cX12_oneDay 3 (q_rm 8 0 0) "oneDay" none g) (hr : q_Rt cX12_oneDay none (q_rm 8 0 0) (none, z, X) g) (hX : q_Lay X) (k_this : q_kd X this = some (14, 42)) {k2 : Int32 → qI → Option (qI)} (hk2 : ∀ (x1 : Int32) (I : qI), k2 x1 I = some z → g 0 0 2 [(0, .ref this), (1, .int x1)] [] I X) (x1 : Int32) (I : qI) (h : b_X12_oneDay_25 this k2 x1 I = some z) : g 0 0 25 [(0, .ref this), (1, .int x1)] [] I X := by
  unfold b_X12_oneDay_25 at h
  refine r_iinc hg 1 (v := (x1 + (nI 1))) (L' := [(1, .int (x1 + (nI 1))), (0, .ref this)]) dX12_oneDay_25 rfl (by rw [ci_1]) (by decide) rfl ?_
  refine r_goto hg 2 dX12_oneDay_28 (by decide) ?_
  refine r_sub hg [1, 0] rfl ?_
  exact hk2 _ _ h
def b_X12_oneDay_2 (this : Nat) (k2 : Int32 → qI → Option (qI)) (x1 : Int32) (I : qI) : Option (qI) :=
  q_b1 (q_rd I (this + 1) 3580 (nI 2)) fun v2 =>
  if v2 ≤ x1 then
    q_fix (fun _ _ => none) (b_X12_oneDay_33 this) q_fu (nI 0) I
  else
    q_b1 (f_X12_isGone this x1 I) fun v5 =>
    if v5 = 0 then
      q_b1 (f_X12_digs this x1 I) fun I8 =>
      b_X12_oneDay_25 this k2 x1 I8
    else
      b_X12_oneDay_25 this k2 x1 I
set_option maxRecDepth 100000 in
set_option maxHeartbeats 4000000 in
theorem p_X12_oneDay_2 {l : Launch} {Γ : qC} {g : qG} {z : qI} {this : Nat} {X : qX} (hΓ : q_gm Γ) (hg : q_Ok l Γ RX12 cX12_oneDay 3 (q_rm 8 0 0) "oneDay" none g) (hr : q_Rt cX12_oneDay none (q_rm 8 0 0) (none, z, X) g) (hX : q_Lay X) (k_this : q_kd X this = some (14, 42)) {k2 : Int32 → qI → Option (qI)} (hk2 : ∀ (x1 : Int32) (I : qI), k2 x1 I = some z → g 0 0 2 [(0, .ref this), (1, .int x1)] [] I X) (x1 : Int32) (I : qI) (h : b_X12_oneDay_2 this k2 x1 I = some z) : g 0 0 2 [(0, .ref this), (1, .int x1)] [] I X := by
  unfold b_X12_oneDay_2 at h
  refine r_iload_n hg 1 dX12_oneDay_2 rfl rfl ?_
  refine r_aload_n hg 0 dX12_oneDay_3 rfl rfl ?_
  have e1 := ly_12_0 hX k_this
  refine r_getR hg dX12_oneDay_4 fl_X12_7 k_this rfl e1.1 ?_
  refine r_iconst hg dX12_oneDay_7 ci_2 ?_
  obtain ⟨v2, e3, h⟩ := q_b1_some h
  refine r_iald hg dX12_oneDay_8 e1.2 e3 ?_
  refine r_icmp_ge hg 31 dX12_oneDay_9 (by decide) (fun c4 => ?_) (fun c4 => ?_)
  · rw [if_pos c4] at h
    refine r_iconst hg dX12_oneDay_31 ci_0 ?_
    refine r_istore_n hg (L' := [(1, .int (nI 0)), (0, .ref this)]) dX12_oneDay_32 rfl (by decide) rfl ?_
    refine r_sub hg [1, 0] rfl ?_
    exact pl_X12_oneDay_33 hΓ hg hr hX k_this _ _ _ h
  · rw [if_neg c4] at h
    refine r_aload_n hg 0 dX12_oneDay_12 rfl rfl ?_
    refine r_iload_n hg 1 dX12_oneDay_13 rfl rfl ?_
    obtain ⟨v5, e6, h⟩ := q_b1_some h
    refine r_cV1i hg dX12_oneDay_14 mt_X12_isGone ml_X12_93 mv_X12_isGone k_this (s_X12_isGone hΓ hX k_this e6) (q_room (Nat.le_of_ble_eq_true rfl) (Nat.le_of_ble_eq_true rfl)) ⟨Nat.zero_le _, Nat.zero_le _⟩ (Nat.le_of_ble_eq_true rfl) ?_
    refine r_if_ne hg 25 dX12_oneDay_17 (by decide) (fun c7 => ?_) (fun c7 => ?_)
    · rw [if_neg c7] at h
      exact p_X12_oneDay_25 hΓ hg hr hX k_this hk2 _ _ h
    · rw [if_pos (Classical.not_not.mp c7)] at h
      refine r_aload_n hg 0 dX12_oneDay_20 rfl rfl ?_
      refine r_iload_n hg 1 dX12_oneDay_21 rfl rfl ?_
      obtain ⟨I8, e9, h⟩ := q_b1_some h
      refine r_cV1v hg dX12_oneDay_22 mt_X12_digs ml_X12_198 mv_X12_digs k_this (s_X12_digs hΓ hX k_this e9) (q_room (Nat.le_of_ble_eq_true rfl) (Nat.le_of_ble_eq_true rfl)) ⟨Nat.zero_le _, Nat.zero_le _⟩ (Nat.le_of_ble_eq_true rfl) ?_
      exact p_X12_oneDay_25 hΓ hg hr hX k_this hk2 _ _ h
theorem pl_X12_oneDay_2 {l : Launch} {Γ : qC} {g : qG} {z : qI} {this : Nat} {X : qX} (hΓ : q_gm Γ) (hg : q_Ok l Γ RX12 cX12_oneDay 3 (q_rm 8 0 0) "oneDay" none g) (hr : q_Rt cX12_oneDay none (q_rm 8 0 0) (none, z, X) g) (hX : q_Lay X) (k_this : q_kd X this = some (14, 42)) : ∀ (n : Nat) (x1 : Int32) (I : qI), q_fix (fun _ _ => none) (b_X12_oneDay_2 this) n x1 I = some z → g 0 0 2 [(0, .ref this), (1, .int x1)] [] I X := by
  intro n
  induction n with
  | zero =>
    intro x1 I h
    cases (show (none : Option (qI)) = some z from h)
  | succ n ih =>
    intro x1 I h
    exact p_X12_oneDay_2 hΓ hg hr hX k_this ih _ _ h
def f_X12_oneDay (this : Nat) (I : qI) : Option (qI) :=
  q_fix (fun _ _ => none) (b_X12_oneDay_2 this) q_fu (nI 0) I
set_option maxRecDepth 100000 in
set_option maxHeartbeats 4000000 in
theorem s_X12_oneDay {l : Launch} {Γ : qC} (hΓ : q_gm Γ) {X : qX} (hX : q_Lay X) {this : Nat} (k_this : q_kd X this = some (14, 42)) {I : qI} {z : qI} (h : f_X12_oneDay this I = some z) : q_Sem l Γ (q_rm 8 0 0) yX12_oneDay cX12_oneDay 3 none [.ref this] I X (none, z, X) := by
  refine q_met (by decide) (Nat.le_of_ble_eq_true rfl) (fun g hg hr => ?_)
  unfold f_X12_oneDay at h
  show g 0 0 0 [(0, .ref this)] [] I X
  refine r_iconst hg dX12_oneDay_0 ci_0 ?_
  refine r_istore_n hg (L' := [(1, .int (nI 0)), (0, .ref this)]) dX12_oneDay_1 rfl (by decide) rfl ?_
  refine r_sub hg [1, 0] rfl ?_
  exact pl_X12_oneDay_2 hΓ hg hr hX k_this _ _ _ h

def b_X12_beside_99 (this : Nat) (x1 : Int32) (x2 : Int32) (X : qX) (k99 : Int32 → Int32 → qI → Option (Int32 × qI)) (x3 : Int32) (x4 : Int32) (I : qI) : Option (Int32 × qI) :=
  if x1 ≤ x4 then
    q_b1 (some (q_up I this 25 (nI 0))) fun I2 =>
    q_b1 (f_X12_stands this x2 I2) fun v4 =>
    q_b1 (f_X12_setAside this (some (this + 3)) (some (this + 1)) X I2) fun I8 =>
    some ((v4 - x3), I8)
  else
    q_b1 (f_X12_oneDay this I) fun I10 =>
    k99 x3 (x4 + (nI 1)) I10
set_option maxRecDepth 100000 in
set_option maxHeartbeats 4000000 in
theorem p_X12_beside_99 {l : Launch} {Γ : qC} {g : qG} {z : Int32 × qI} {this : Nat} {x1 : Int32} {x2 : Int32} {X : qX} (hΓ : q_gm Γ) (hg : q_Ok l Γ RX12 cX12_beside 5 (q_rm 9 0 0) "beside" (some .int) g) (hr : q_Rt cX12_beside (some .int) (q_rm 9 0 0) (some (.int z.1), z.2, X) g) (hX : q_Lay X) (k_this : q_kd X this = some (14, 42)) {k99 : Int32 → Int32 → qI → Option (Int32 × qI)} (hk99 : ∀ (x3 : Int32) (x4 : Int32) (I : qI), k99 x3 x4 I = some z → g 0 0 99 [(0, .ref this), (1, .int x1), (2, .int x2), (3, .int x3), (4, .int x4)] [] I X) (x3 : Int32) (x4 : Int32) (I : qI) (h : b_X12_beside_99 this x1 x2 X k99 x3 x4 I = some z) : g 0 0 99 [(0, .ref this), (1, .int x1), (2, .int x2), (3, .int x3), (4, .int x4)] [] I X := by
  unfold b_X12_beside_99 at h
  refine r_iload hg 4 dX12_beside_99 rfl ?_
  refine r_iload_n hg 1 dX12_beside_101 rfl rfl ?_
  refine r_icmp_ge hg 115 dX12_beside_102 (by decide) (fun c1 => ?_) (fun c1 => ?_)
  · rw [if_pos c1] at h
    refine r_aload_n hg 0 dX12_beside_115 rfl rfl ?_
    refine r_iconst hg dX12_beside_116 ci_0 ?_
    obtain ⟨I2, e3, h⟩ := q_b1_some h
    obtain rfl := Option.some.inj e3
    refine r_putI hg dX12_beside_117 fl_X12_331 k_this rfl bz_0 ?_
    refine r_aload_n hg 0 dX12_beside_120 rfl rfl ?_
    refine r_iload_n hg 2 dX12_beside_121 rfl rfl ?_
    obtain ⟨v4, e5, h⟩ := q_b1_some h
    refine r_cV1i hg dX12_beside_122 mt_X12_stands ml_X12_369 mv_X12_stands k_this (s_X12_stands hΓ hX k_this e5) (q_room (Nat.le_of_ble_eq_true rfl) (Nat.le_of_ble_eq_true rfl)) ⟨Nat.zero_le _, Nat.zero_le _⟩ (Nat.le_of_ble_eq_true rfl) ?_
    refine r_istore hg (L' := [(4, .int v4), (0, .ref this), (1, .int x1), (2, .int x2), (3, .int x3)]) dX12_beside_125 (by decide) rfl ?_
    refine r_aload_n hg 1 dX12_beside_127 rfl rfl ?_
    refine r_aload_n hg 1 dX12_beside_128 rfl rfl ?_
    have e6 := ly_12_2 hX k_this
    refine r_getR hg dX12_beside_129 fl_X12_16 k_this rfl e6.1 ?_
    refine r_aload_n hg 1 dX12_beside_132 rfl rfl ?_
    have e7 := ly_12_0 hX k_this
    refine r_getR hg dX12_beside_133 fl_X12_7 k_this rfl e7.1 ?_
    obtain ⟨I8, e9, h⟩ := q_b1_some h
    refine r_cV2v hg dX12_beside_136 mt_X12_setAside ml_X12_365 mv_X12_setAside k_this (s_X12_setAside hΓ hX k_this e9) (q_room (Nat.le_of_ble_eq_true rfl) (Nat.le_of_ble_eq_true rfl)) ⟨Nat.zero_le _, Nat.zero_le _⟩ (Nat.le_of_ble_eq_true rfl) ?_
    refine r_iload hg 0 dX12_beside_139 rfl ?_
    refine r_iload_n hg 4 dX12_beside_141 rfl rfl ?_
    refine r_isub hg dX12_beside_142 ?_
    exact r_ireturn hr dX12_beside_143 ⟨Nat.zero_le _, Nat.zero_le _⟩ ⟨_, rfl, rfl⟩ (by cases h; rfl)
  · rw [if_neg c1] at h
    refine r_aload_n hg 0 dX12_beside_105 rfl rfl ?_
    obtain ⟨I10, e11, h⟩ := q_b1_some h
    refine r_cV0v hg dX12_beside_106 mt_X12_oneDay ml_X12_212 mv_X12_oneDay k_this (s_X12_oneDay hΓ hX k_this e11) (q_room (Nat.le_of_ble_eq_true rfl) (Nat.le_of_ble_eq_true rfl)) ⟨Nat.zero_le _, Nat.zero_le _⟩ (Nat.le_of_ble_eq_true rfl) ?_
    refine r_iinc hg 4 (v := (x4 + (nI 1))) (L' := [(4, .int (x4 + (nI 1))), (0, .ref this), (1, .int x1), (2, .int x2), (3, .int x3)]) dX12_beside_109 rfl (by rw [ci_1]) (by decide) rfl ?_
    refine r_goto hg 99 dX12_beside_112 (by decide) ?_
    refine r_sub hg [1, 2, 3, 4, 0] rfl ?_
    exact hk99 _ _ _ h
theorem pl_X12_beside_99 {l : Launch} {Γ : qC} {g : qG} {z : Int32 × qI} {this : Nat} {x1 : Int32} {x2 : Int32} {X : qX} (hΓ : q_gm Γ) (hg : q_Ok l Γ RX12 cX12_beside 5 (q_rm 9 0 0) "beside" (some .int) g) (hr : q_Rt cX12_beside (some .int) (q_rm 9 0 0) (some (.int z.1), z.2, X) g) (hX : q_Lay X) (k_this : q_kd X this = some (14, 42)) : ∀ (n : Nat) (x3 : Int32) (x4 : Int32) (I : qI), q_fix (fun _ _ _ => none) (b_X12_beside_99 this x1 x2 X) n x3 x4 I = some z → g 0 0 99 [(0, .ref this), (1, .int x1), (2, .int x2), (3, .int x3), (4, .int x4)] [] I X := by
  intro n
  induction n with
  | zero =>
    intro x3 x4 I h
    cases (show (none : Option (Int32 × qI)) = some z from h)
  | succ n ih =>
    intro x3 x4 I h
    exact p_X12_beside_99 hΓ hg hr hX k_this ih _ _ _ h
def b_X12_beside_58 (this : Nat) (x1 : Int32) (x2 : Int32) (X : qX) (k58 : Int32 → qI → Option (Int32 × qI)) (x3 : Int32) (I : qI) : Option (Int32 × qI) :=
  if x1 ≤ x3 then
    q_b1 (f_X12_stands this x2 I) fun v2 =>
    q_b1 (f_X12_setAside this (some (this + 3)) (some (this + 1)) X I) fun I6 =>
    q_b1 (some (q_up I6 this 25 (nI 1))) fun I8 =>
    q_fix (fun _ _ _ => none) (b_X12_beside_99 this x1 x2 X) q_fu v2 (nI 0) I8
  else
    q_b1 (f_X12_oneDay this I) fun I10 =>
    k58 (x3 + (nI 1)) I10
set_option maxRecDepth 100000 in
set_option maxHeartbeats 4000000 in
theorem p_X12_beside_58 {l : Launch} {Γ : qC} {g : qG} {z : Int32 × qI} {this : Nat} {x1 : Int32} {x2 : Int32} {X : qX} (hΓ : q_gm Γ) (hg : q_Ok l Γ RX12 cX12_beside 5 (q_rm 9 0 0) "beside" (some .int) g) (hr : q_Rt cX12_beside (some .int) (q_rm 9 0 0) (some (.int z.1), z.2, X) g) (hX : q_Lay X) (k_this : q_kd X this = some (14, 42)) {k58 : Int32 → qI → Option (Int32 × qI)} (hk58 : ∀ (x3 : Int32) (I : qI), k58 x3 I = some z → g 0 0 58 [(0, .ref this), (1, .int x1), (2, .int x2), (3, .int x3)] [] I X) (x3 : Int32) (I : qI) (h : b_X12_beside_58 this x1 x2 X k58 x3 I = some z) : g 0 0 58 [(0, .ref this), (1, .int x1), (2, .int x2), (3, .int x3)] [] I X := by
  unfold b_X12_beside_58 at h
  refine r_iload_n hg 3 dX12_beside_58 rfl rfl ?_
  refine r_iload_n hg 1 dX12_beside_59 rfl rfl ?_
  refine r_icmp_ge hg 73 dX12_beside_60 (by decide) (fun c1 => ?_) (fun c1 => ?_)
  · rw [if_pos c1] at h
    refine r_aload_n hg 0 dX12_beside_73 rfl rfl ?_
    refine r_iload_n hg 2 dX12_beside_74 rfl rfl ?_
    obtain ⟨v2, e3, h⟩ := q_b1_some h
    refine r_cV1i hg dX12_beside_75 mt_X12_stands ml_X12_369 mv_X12_stands k_this (s_X12_stands hΓ hX k_this e3) (q_room (Nat.le_of_ble_eq_true rfl) (Nat.le_of_ble_eq_true rfl)) ⟨Nat.zero_le _, Nat.zero_le _⟩ (Nat.le_of_ble_eq_true rfl) ?_
    refine r_istore_n hg (L' := [(3, .int v2), (0, .ref this), (1, .int x1), (2, .int x2)]) dX12_beside_78 rfl (by decide) rfl ?_
    refine r_aload_n hg 1 dX12_beside_79 rfl rfl ?_
    refine r_aload_n hg 1 dX12_beside_80 rfl rfl ?_
    have e4 := ly_12_2 hX k_this
    refine r_getR hg dX12_beside_81 fl_X12_16 k_this rfl e4.1 ?_
    refine r_aload_n hg 1 dX12_beside_84 rfl rfl ?_
    have e5 := ly_12_0 hX k_this
    refine r_getR hg dX12_beside_85 fl_X12_7 k_this rfl e5.1 ?_
    obtain ⟨I6, e7, h⟩ := q_b1_some h
    refine r_cV2v hg dX12_beside_88 mt_X12_setAside ml_X12_365 mv_X12_setAside k_this (s_X12_setAside hΓ hX k_this e7) (q_room (Nat.le_of_ble_eq_true rfl) (Nat.le_of_ble_eq_true rfl)) ⟨Nat.zero_le _, Nat.zero_le _⟩ (Nat.le_of_ble_eq_true rfl) ?_
    refine r_aload_n hg 1 dX12_beside_91 rfl rfl ?_
    refine r_iconst hg dX12_beside_92 ci_1 ?_
    obtain ⟨I8, e9, h⟩ := q_b1_some h
    obtain rfl := Option.some.inj e9
    refine r_putI hg dX12_beside_93 fl_X12_331 k_this rfl bz_1 ?_
    refine r_iconst hg dX12_beside_96 ci_0 ?_
    refine r_istore hg (L' := [(4, .int (nI 0)), (3, .int v2), (0, .ref this), (1, .int x1), (2, .int x2)]) dX12_beside_97 (by decide) rfl ?_
    refine r_sub hg [2, 3, 4, 1, 0] rfl ?_
    exact pl_X12_beside_99 hΓ hg hr hX k_this _ _ _ _ h
  · rw [if_neg c1] at h
    refine r_aload_n hg 0 dX12_beside_63 rfl rfl ?_
    obtain ⟨I10, e11, h⟩ := q_b1_some h
    refine r_cV0v hg dX12_beside_64 mt_X12_oneDay ml_X12_212 mv_X12_oneDay k_this (s_X12_oneDay hΓ hX k_this e11) (q_room (Nat.le_of_ble_eq_true rfl) (Nat.le_of_ble_eq_true rfl)) ⟨Nat.zero_le _, Nat.zero_le _⟩ (Nat.le_of_ble_eq_true rfl) ?_
    refine r_iinc hg 3 (v := (x3 + (nI 1))) (L' := [(3, .int (x3 + (nI 1))), (0, .ref this), (1, .int x1), (2, .int x2)]) dX12_beside_67 rfl (by rw [ci_1]) (by decide) rfl ?_
    refine r_goto hg 58 dX12_beside_70 (by decide) ?_
    refine r_sub hg [1, 2, 3, 0] rfl ?_
    exact hk58 _ _ h
theorem pl_X12_beside_58 {l : Launch} {Γ : qC} {g : qG} {z : Int32 × qI} {this : Nat} {x1 : Int32} {x2 : Int32} {X : qX} (hΓ : q_gm Γ) (hg : q_Ok l Γ RX12 cX12_beside 5 (q_rm 9 0 0) "beside" (some .int) g) (hr : q_Rt cX12_beside (some .int) (q_rm 9 0 0) (some (.int z.1), z.2, X) g) (hX : q_Lay X) (k_this : q_kd X this = some (14, 42)) : ∀ (n : Nat) (x3 : Int32) (I : qI), q_fix (fun _ _ => none) (b_X12_beside_58 this x1 x2 X) n x3 I = some z → g 0 0 58 [(0, .ref this), (1, .int x1), (2, .int x2), (3, .int x3)] [] I X := by
  intro n
  induction n with
  | zero =>
    intro x3 I h
    cases (show (none : Option (Int32 × qI)) = some z from h)
  | succ n ih =>
    intro x3 I h
    exact p_X12_beside_58 hΓ hg hr hX k_this ih _ _ h
def f_X12_beside (this : Nat) (x1 : Int32) (x2 : Int32) (X : qX) (I : qI) : Option (Int32 × qI) :=
  q_b1 (f_X12_isIn x1.toInt64 (1 : Int64) (60 : Int64)) fun v1 =>
  if v1 = 0 then
    some ((-1000000001), I)
  else
    q_b1 (f_X12_isIn x2.toInt64 (0 : Int64) (2 : Int64)) fun v4 =>
    if v4 = 0 then
      some ((-1000000001), I)
    else
      q_b1 (q_rd I (this + 1) 3580 (nI 0)) fun v8 =>
      if (v8 + x1) ≤ (nI 6999) then
        q_b1 (f_X12_setAside this (some (this + 1)) (some (this + 3)) X I) fun I13 =>
        q_fix (fun _ _ => none) (b_X12_beside_58 this x1 x2 X) q_fu (nI 0) I13
      else
        some ((-1000000003), I)
set_option maxRecDepth 100000 in
set_option maxHeartbeats 4000000 in
theorem s_X12_beside {l : Launch} {Γ : qC} (hΓ : q_gm Γ) {X : qX} (hX : q_Lay X) {this : Nat} {x1 : Int32} {x2 : Int32} (k_this : q_kd X this = some (14, 42)) {I : qI} {z : Int32 × qI} (h : f_X12_beside this x1 x2 X I = some z) : q_Sem l Γ (q_rm 9 0 0) yX12_beside cX12_beside 5 (some .int) [.ref this, .int x1, .int x2] I X (some (.int z.1), z.2, X) := by
  refine q_met (by decide) (Nat.le_of_ble_eq_true rfl) (fun g hg hr => ?_)
  unfold f_X12_beside at h
  show g 0 0 0 [(0, .ref this), (1, .int x1), (2, .int x2)] [] I X
  refine r_iload_n hg 1 dX12_beside_0 rfl rfl ?_
  refine r_i2l hg dX12_beside_1 ?_
  refine r_lconst hg dX12_beside_2 lc_1 ?_
  refine r_ldc2 hg dX12_beside_3 kl_X12_210 ?_
  obtain ⟨v1, e2, h⟩ := q_b1_some h
  refine r_cS3i hg dX12_beside_6 mt_X12_isIn ⟨ml_X12_64, mst_X12_isIn⟩ (s_X12_isIn hΓ hX e2) (q_room (Nat.le_of_ble_eq_true rfl) (Nat.le_of_ble_eq_true rfl)) ⟨Nat.zero_le _, Nat.zero_le _⟩ (Nat.le_of_ble_eq_true rfl) ?_
  refine r_if_eq hg 24 dX12_beside_9 (by decide) (fun c3 => ?_) (fun c3 => ?_)
  · rw [if_pos c3] at h
    refine r_ldc hg dX12_beside_24 kc_X12_90 ?_
    exact r_ireturn hr dX12_beside_26 ⟨Nat.zero_le _, Nat.zero_le _⟩ ⟨_, rfl, rfl⟩ (by cases h; rfl)
  · rw [if_neg c3] at h
    refine r_iload_n hg 2 dX12_beside_12 rfl rfl ?_
    refine r_i2l hg dX12_beside_13 ?_
    refine r_lconst hg dX12_beside_14 lc_0 ?_
    refine r_ldc2 hg dX12_beside_15 kl_X12_125 ?_
    obtain ⟨v4, e5, h⟩ := q_b1_some h
    refine r_cS3i hg dX12_beside_18 mt_X12_isIn ⟨ml_X12_64, mst_X12_isIn⟩ (s_X12_isIn hΓ hX e5) (q_room (Nat.le_of_ble_eq_true rfl) (Nat.le_of_ble_eq_true rfl)) ⟨Nat.zero_le _, Nat.zero_le _⟩ (Nat.le_of_ble_eq_true rfl) ?_
    refine r_if_ne hg 27 dX12_beside_21 (by decide) (fun c6 => ?_) (fun c6 => ?_)
    · rw [if_neg c6] at h
      refine r_aload_n hg 0 dX12_beside_27 rfl rfl ?_
      have e7 := ly_12_0 hX k_this
      refine r_getR hg dX12_beside_28 fl_X12_7 k_this rfl e7.1 ?_
      refine r_iconst hg dX12_beside_31 ci_0 ?_
      obtain ⟨v8, e9, h⟩ := q_b1_some h
      refine r_iald hg dX12_beside_32 e7.2 e9 ?_
      refine r_iload_n hg 1 dX12_beside_33 rfl rfl ?_
      refine r_iadd hg dX12_beside_34 ?_
      refine r_sipush hg dX12_beside_35 cs_6999 ?_
      refine r_icmp_le hg 44 dX12_beside_38 (by decide) (fun c10 => ?_) (fun c10 => ?_)
      · rw [if_pos c10] at h
        refine r_aload_n hg 0 dX12_beside_44 rfl rfl ?_
        refine r_aload_n hg 0 dX12_beside_45 rfl rfl ?_
        have e11 := ly_12_0 hX k_this
        refine r_getR hg dX12_beside_46 fl_X12_7 k_this rfl e11.1 ?_
        refine r_aload_n hg 0 dX12_beside_49 rfl rfl ?_
        have e12 := ly_12_2 hX k_this
        refine r_getR hg dX12_beside_50 fl_X12_16 k_this rfl e12.1 ?_
        obtain ⟨I13, e14, h⟩ := q_b1_some h
        refine r_cV2v hg dX12_beside_53 mt_X12_setAside ml_X12_365 mv_X12_setAside k_this (s_X12_setAside hΓ hX k_this e14) (q_room (Nat.le_of_ble_eq_true rfl) (Nat.le_of_ble_eq_true rfl)) ⟨Nat.zero_le _, Nat.zero_le _⟩ (Nat.le_of_ble_eq_true rfl) ?_
        refine r_iconst hg dX12_beside_56 ci_0 ?_
        refine r_istore_n hg (L' := [(3, .int (nI 0)), (0, .ref this), (1, .int x1), (2, .int x2)]) dX12_beside_57 rfl (by decide) rfl ?_
        refine r_sub hg [1, 2, 3, 0] rfl ?_
        exact pl_X12_beside_58 hΓ hg hr hX k_this _ _ _ h
      · rw [if_neg c10] at h
        refine r_ldc hg dX12_beside_41 kc_X12_98 ?_
        exact r_ireturn hr dX12_beside_43 ⟨Nat.zero_le _, Nat.zero_le _⟩ ⟨_, rfl, rfl⟩ (by cases h; rfl)
    · rw [if_pos (Classical.not_not.mp c6)] at h
      refine r_ldc hg dX12_beside_24 kc_X12_90 ?_
      exact r_ireturn hr dX12_beside_26 ⟨Nat.zero_le _, Nat.zero_le _⟩ ⟨_, rfl, rfl⟩ (by cases h; rfl)

def b_X12_rowsOfDays_52 (this : Nat) (x1 : Int32) (X : qX) (k52 : Int32 → qI → Option (Int32 × qI)) (x2 : Int32) (I : qI) : Option (Int32 × qI) :=
  if x1 ≤ x2 then
    q_b1 (f_X12_setAside this (some (this + 3)) (some (this + 1)) X I) fun I4 =>
    some ((nI 0), I4)
  else
    q_b1 (f_X12_oneDay this I) fun I6 =>
    q_b1 (f_X12_allEarned this I6) fun v8 =>
    q_b1 (f_X12_stands this (nI 0) I6) fun v10 =>
    q_b1 (f_X12_dueIs this v8 v10 I6) fun I12 =>
    k52 (x2 + (nI 1)) I12
set_option maxRecDepth 100000 in
set_option maxHeartbeats 4000000 in
theorem p_X12_rowsOfDays_52 {l : Launch} {Γ : qC} {g : qG} {z : Int32 × qI} {this : Nat} {x1 : Int32} {X : qX} (hΓ : q_gm Γ) (hg : q_Ok l Γ RX12 cX12_rowsOfDays 3 (q_rm 9 0 0) "rowsOfDays" (some .int) g) (hr : q_Rt cX12_rowsOfDays (some .int) (q_rm 9 0 0) (some (.int z.1), z.2, X) g) (hX : q_Lay X) (k_this : q_kd X this = some (14, 42)) {k52 : Int32 → qI → Option (Int32 × qI)} (hk52 : ∀ (x2 : Int32) (I : qI), k52 x2 I = some z → g 0 0 52 [(0, .ref this), (1, .int x1), (2, .int x2)] [] I X) (x2 : Int32) (I : qI) (h : b_X12_rowsOfDays_52 this x1 X k52 x2 I = some z) : g 0 0 52 [(0, .ref this), (1, .int x1), (2, .int x2)] [] I X := by
  unfold b_X12_rowsOfDays_52 at h
  refine r_iload_n hg 2 dX12_rowsOfDays_52 rfl rfl ?_
  refine r_iload_n hg 1 dX12_rowsOfDays_53 rfl rfl ?_
  refine r_icmp_ge hg 80 dX12_rowsOfDays_54 (by decide) (fun c1 => ?_) (fun c1 => ?_)
  · rw [if_pos c1] at h
    refine r_aload_n hg 0 dX12_rowsOfDays_80 rfl rfl ?_
    refine r_aload_n hg 0 dX12_rowsOfDays_81 rfl rfl ?_
    have e2 := ly_12_2 hX k_this
    refine r_getR hg dX12_rowsOfDays_82 fl_X12_16 k_this rfl e2.1 ?_
    refine r_aload_n hg 0 dX12_rowsOfDays_85 rfl rfl ?_
    have e3 := ly_12_0 hX k_this
    refine r_getR hg dX12_rowsOfDays_86 fl_X12_7 k_this rfl e3.1 ?_
    obtain ⟨I4, e5, h⟩ := q_b1_some h
    refine r_cV2v hg dX12_rowsOfDays_89 mt_X12_setAside ml_X12_365 mv_X12_setAside k_this (s_X12_setAside hΓ hX k_this e5) (q_room (Nat.le_of_ble_eq_true rfl) (Nat.le_of_ble_eq_true rfl)) ⟨Nat.zero_le _, Nat.zero_le _⟩ (Nat.le_of_ble_eq_true rfl) ?_
    refine r_iconst hg dX12_rowsOfDays_92 ci_0 ?_
    exact r_ireturn hr dX12_rowsOfDays_93 ⟨Nat.zero_le _, Nat.zero_le _⟩ ⟨_, rfl, rfl⟩ (by cases h; rfl)
  · rw [if_neg c1] at h
    refine r_aload_n hg 0 dX12_rowsOfDays_57 rfl rfl ?_
    obtain ⟨I6, e7, h⟩ := q_b1_some h
    refine r_cV0v hg dX12_rowsOfDays_58 mt_X12_oneDay ml_X12_212 mv_X12_oneDay k_this (s_X12_oneDay hΓ hX k_this e7) (q_room (Nat.le_of_ble_eq_true rfl) (Nat.le_of_ble_eq_true rfl)) ⟨Nat.zero_le _, Nat.zero_le _⟩ (Nat.le_of_ble_eq_true rfl) ?_
    refine r_aload_n hg 0 dX12_rowsOfDays_61 rfl rfl ?_
    refine r_aload_n hg 0 dX12_rowsOfDays_62 rfl rfl ?_
    obtain ⟨v8, e9, h⟩ := q_b1_some h
    refine r_cV0i hg dX12_rowsOfDays_63 mt_X12_allEarned ml_X12_445 mv_X12_allEarned k_this (s_X12_allEarned hΓ hX k_this e9) (q_room (Nat.le_of_ble_eq_true rfl) (Nat.le_of_ble_eq_true rfl)) ⟨Nat.zero_le _, Nat.zero_le _⟩ (Nat.le_of_ble_eq_true rfl) ?_
    refine r_aload_n hg 0 dX12_rowsOfDays_66 rfl rfl ?_
    refine r_iconst hg dX12_rowsOfDays_67 ci_0 ?_
    obtain ⟨v10, e11, h⟩ := q_b1_some h
    refine r_cV1i hg dX12_rowsOfDays_68 mt_X12_stands ml_X12_369 mv_X12_stands k_this (s_X12_stands hΓ hX k_this e11) (q_room (Nat.le_of_ble_eq_true rfl) (Nat.le_of_ble_eq_true rfl)) ⟨Nat.zero_le _, Nat.zero_le _⟩ (Nat.le_of_ble_eq_true rfl) ?_
    obtain ⟨I12, e13, h⟩ := q_b1_some h
    refine r_cV2v hg dX12_rowsOfDays_71 mt_X12_dueIs ml_X12_437 mv_X12_dueIs k_this (s_X12_dueIs hΓ hX k_this e13) (q_room (Nat.le_of_ble_eq_true rfl) (Nat.le_of_ble_eq_true rfl)) ⟨Nat.zero_le _, Nat.zero_le _⟩ (Nat.le_of_ble_eq_true rfl) ?_
    refine r_iinc hg 2 (v := (x2 + (nI 1))) (L' := [(2, .int (x2 + (nI 1))), (0, .ref this), (1, .int x1)]) dX12_rowsOfDays_74 rfl (by rw [ci_1]) (by decide) rfl ?_
    refine r_goto hg 52 dX12_rowsOfDays_77 (by decide) ?_
    refine r_sub hg [1, 2, 0] rfl ?_
    exact hk52 _ _ h
theorem pl_X12_rowsOfDays_52 {l : Launch} {Γ : qC} {g : qG} {z : Int32 × qI} {this : Nat} {x1 : Int32} {X : qX} (hΓ : q_gm Γ) (hg : q_Ok l Γ RX12 cX12_rowsOfDays 3 (q_rm 9 0 0) "rowsOfDays" (some .int) g) (hr : q_Rt cX12_rowsOfDays (some .int) (q_rm 9 0 0) (some (.int z.1), z.2, X) g) (hX : q_Lay X) (k_this : q_kd X this = some (14, 42)) : ∀ (n : Nat) (x2 : Int32) (I : qI), q_fix (fun _ _ => none) (b_X12_rowsOfDays_52 this x1 X) n x2 I = some z → g 0 0 52 [(0, .ref this), (1, .int x1), (2, .int x2)] [] I X := by
  intro n
  induction n with
  | zero =>
    intro x2 I h
    cases (show (none : Option (Int32 × qI)) = some z from h)
  | succ n ih =>
    intro x2 I h
    exact p_X12_rowsOfDays_52 hΓ hg hr hX k_this ih _ _ h
def f_X12_rowsOfDays (this : Nat) (x1 : Int32) (X : qX) (I : qI) : Option (Int32 × qI) :=
  q_b1 (f_X12_isIn x1.toInt64 (1 : Int64) (28 : Int64)) fun v1 =>
  if v1 = 0 then
    some ((-1000000001), I)
  else
    if (I this 3) = 0 then
      some ((-1000000002), I)
    else
      q_b1 (f_X12_setAside this (some (this + 1)) (some (this + 3)) X I) fun I7 =>
      q_b1 (f_X12_setAside this (some (this + 2)) (some (this + 1)) X I7) fun I11 =>
      q_fix (fun _ _ => none) (b_X12_rowsOfDays_52 this x1 X) q_fu (nI 0) I11
set_option maxRecDepth 100000 in
set_option maxHeartbeats 4000000 in
theorem s_X12_rowsOfDays {l : Launch} {Γ : qC} (hΓ : q_gm Γ) {X : qX} (hX : q_Lay X) {this : Nat} {x1 : Int32} (k_this : q_kd X this = some (14, 42)) {I : qI} {z : Int32 × qI} (h : f_X12_rowsOfDays this x1 X I = some z) : q_Sem l Γ (q_rm 9 0 0) yX12_rowsOfDays cX12_rowsOfDays 3 (some .int) [.ref this, .int x1] I X (some (.int z.1), z.2, X) := by
  refine q_met (by decide) (Nat.le_of_ble_eq_true rfl) (fun g hg hr => ?_)
  unfold f_X12_rowsOfDays at h
  show g 0 0 0 [(0, .ref this), (1, .int x1)] [] I X
  refine r_iload_n hg 1 dX12_rowsOfDays_0 rfl rfl ?_
  refine r_i2l hg dX12_rowsOfDays_1 ?_
  refine r_lconst hg dX12_rowsOfDays_2 lc_1 ?_
  refine r_ldc2 hg dX12_rowsOfDays_3 kl_X12_440 ?_
  obtain ⟨v1, e2, h⟩ := q_b1_some h
  refine r_cS3i hg dX12_rowsOfDays_6 mt_X12_isIn ⟨ml_X12_64, mst_X12_isIn⟩ (s_X12_isIn hΓ hX e2) (q_room (Nat.le_of_ble_eq_true rfl) (Nat.le_of_ble_eq_true rfl)) ⟨Nat.zero_le _, Nat.zero_le _⟩ (Nat.le_of_ble_eq_true rfl) ?_
  refine r_if_ne hg 15 dX12_rowsOfDays_9 (by decide) (fun c3 => ?_) (fun c3 => ?_)
  · rw [if_neg c3] at h
    refine r_aload_n hg 0 dX12_rowsOfDays_15 rfl rfl ?_
    refine r_getI hg dX12_rowsOfDays_16 fl_X12_442 k_this rfl ?_
    refine r_if_ne hg 26 dX12_rowsOfDays_19 (by decide) (fun c4 => ?_) (fun c4 => ?_)
    · rw [if_neg c4] at h
      refine r_aload_n hg 0 dX12_rowsOfDays_26 rfl rfl ?_
      refine r_aload_n hg 0 dX12_rowsOfDays_27 rfl rfl ?_
      have e5 := ly_12_0 hX k_this
      refine r_getR hg dX12_rowsOfDays_28 fl_X12_7 k_this rfl e5.1 ?_
      refine r_aload_n hg 0 dX12_rowsOfDays_31 rfl rfl ?_
      have e6 := ly_12_2 hX k_this
      refine r_getR hg dX12_rowsOfDays_32 fl_X12_16 k_this rfl e6.1 ?_
      obtain ⟨I7, e8, h⟩ := q_b1_some h
      refine r_cV2v hg dX12_rowsOfDays_35 mt_X12_setAside ml_X12_365 mv_X12_setAside k_this (s_X12_setAside hΓ hX k_this e8) (q_room (Nat.le_of_ble_eq_true rfl) (Nat.le_of_ble_eq_true rfl)) ⟨Nat.zero_le _, Nat.zero_le _⟩ (Nat.le_of_ble_eq_true rfl) ?_
      refine r_aload_n hg 0 dX12_rowsOfDays_38 rfl rfl ?_
      refine r_aload_n hg 0 dX12_rowsOfDays_39 rfl rfl ?_
      have e9 := ly_12_1 hX k_this
      refine r_getR hg dX12_rowsOfDays_40 fl_X12_13 k_this rfl e9.1 ?_
      refine r_aload_n hg 0 dX12_rowsOfDays_43 rfl rfl ?_
      have e10 := ly_12_0 hX k_this
      refine r_getR hg dX12_rowsOfDays_44 fl_X12_7 k_this rfl e10.1 ?_
      obtain ⟨I11, e12, h⟩ := q_b1_some h
      refine r_cV2v hg dX12_rowsOfDays_47 mt_X12_setAside ml_X12_365 mv_X12_setAside k_this (s_X12_setAside hΓ hX k_this e12) (q_room (Nat.le_of_ble_eq_true rfl) (Nat.le_of_ble_eq_true rfl)) ⟨Nat.zero_le _, Nat.zero_le _⟩ (Nat.le_of_ble_eq_true rfl) ?_
      refine r_iconst hg dX12_rowsOfDays_50 ci_0 ?_
      refine r_istore_n hg (L' := [(2, .int (nI 0)), (0, .ref this), (1, .int x1)]) dX12_rowsOfDays_51 rfl (by decide) rfl ?_
      refine r_sub hg [1, 2, 0] rfl ?_
      exact pl_X12_rowsOfDays_52 hΓ hg hr hX k_this _ _ _ h
    · rw [if_pos (Classical.not_not.mp c4)] at h
      refine r_ldcw hg dX12_rowsOfDays_22 kc_X12_346 ?_
      exact r_ireturn hr dX12_rowsOfDays_25 ⟨Nat.zero_le _, Nat.zero_le _⟩ ⟨_, rfl, rfl⟩ (by cases h; rfl)
  · rw [if_pos (Classical.not_not.mp c3)] at h
    refine r_ldc hg dX12_rowsOfDays_12 kc_X12_90 ?_
    exact r_ireturn hr dX12_rowsOfDays_14 ⟨Nat.zero_le _, Nat.zero_le _⟩ ⟨_, rfl, rfl⟩ (by cases h; rfl)

def b_X12_run_34 (this : Nat) (x1 : Int32) (k34 : Int32 → qI → Option (Int32 × qI)) (x2 : Int32) (I : qI) : Option (Int32 × qI) :=
  if x1 ≤ x2 then
    q_b1 (q_rd I (this + 1) 3580 (nI 0)) fun v3 =>
    some (v3, I)
  else
    q_b1 (f_X12_oneDay this I) fun I5 =>
    k34 (x2 + (nI 1)) I5
set_option maxRecDepth 100000 in
set_option maxHeartbeats 4000000 in
theorem p_X12_run_34 {l : Launch} {Γ : qC} {g : qG} {z : Int32 × qI} {this : Nat} {x1 : Int32} {X : qX} (hΓ : q_gm Γ) (hg : q_Ok l Γ RX12 cX12_run 3 (q_rm 9 0 0) "run" (some .int) g) (hr : q_Rt cX12_run (some .int) (q_rm 9 0 0) (some (.int z.1), z.2, X) g) (hX : q_Lay X) (k_this : q_kd X this = some (14, 42)) {k34 : Int32 → qI → Option (Int32 × qI)} (hk34 : ∀ (x2 : Int32) (I : qI), k34 x2 I = some z → g 0 0 34 [(0, .ref this), (1, .int x1), (2, .int x2)] [] I X) (x2 : Int32) (I : qI) (h : b_X12_run_34 this x1 k34 x2 I = some z) : g 0 0 34 [(0, .ref this), (1, .int x1), (2, .int x2)] [] I X := by
  unfold b_X12_run_34 at h
  refine r_iload_n hg 2 dX12_run_34 rfl rfl ?_
  refine r_iload_n hg 1 dX12_run_35 rfl rfl ?_
  refine r_icmp_ge hg 49 dX12_run_36 (by decide) (fun c1 => ?_) (fun c1 => ?_)
  · rw [if_pos c1] at h
    refine r_aload_n hg 0 dX12_run_49 rfl rfl ?_
    have e2 := ly_12_0 hX k_this
    refine r_getR hg dX12_run_50 fl_X12_7 k_this rfl e2.1 ?_
    refine r_iconst hg dX12_run_53 ci_0 ?_
    obtain ⟨v3, e4, h⟩ := q_b1_some h
    refine r_iald hg dX12_run_54 e2.2 e4 ?_
    exact r_ireturn hr dX12_run_55 ⟨Nat.zero_le _, Nat.zero_le _⟩ ⟨_, rfl, rfl⟩ (by cases h; rfl)
  · rw [if_neg c1] at h
    refine r_aload_n hg 0 dX12_run_39 rfl rfl ?_
    obtain ⟨I5, e6, h⟩ := q_b1_some h
    refine r_cV0v hg dX12_run_40 mt_X12_oneDay ml_X12_212 mv_X12_oneDay k_this (s_X12_oneDay hΓ hX k_this e6) (q_room (Nat.le_of_ble_eq_true rfl) (Nat.le_of_ble_eq_true rfl)) ⟨Nat.zero_le _, Nat.zero_le _⟩ (Nat.le_of_ble_eq_true rfl) ?_
    refine r_iinc hg 2 (v := (x2 + (nI 1))) (L' := [(2, .int (x2 + (nI 1))), (0, .ref this), (1, .int x1)]) dX12_run_43 rfl (by rw [ci_1]) (by decide) rfl ?_
    refine r_goto hg 34 dX12_run_46 (by decide) ?_
    refine r_sub hg [1, 2, 0] rfl ?_
    exact hk34 _ _ h
theorem pl_X12_run_34 {l : Launch} {Γ : qC} {g : qG} {z : Int32 × qI} {this : Nat} {x1 : Int32} {X : qX} (hΓ : q_gm Γ) (hg : q_Ok l Γ RX12 cX12_run 3 (q_rm 9 0 0) "run" (some .int) g) (hr : q_Rt cX12_run (some .int) (q_rm 9 0 0) (some (.int z.1), z.2, X) g) (hX : q_Lay X) (k_this : q_kd X this = some (14, 42)) : ∀ (n : Nat) (x2 : Int32) (I : qI), q_fix (fun _ _ => none) (b_X12_run_34 this x1) n x2 I = some z → g 0 0 34 [(0, .ref this), (1, .int x1), (2, .int x2)] [] I X := by
  intro n
  induction n with
  | zero =>
    intro x2 I h
    cases (show (none : Option (Int32 × qI)) = some z from h)
  | succ n ih =>
    intro x2 I h
    exact p_X12_run_34 hΓ hg hr hX k_this ih _ _ h
def f_X12_run (this : Nat) (x1 : Int32) (I : qI) : Option (Int32 × qI) :=
  q_b1 (f_X12_isIn x1.toInt64 (1 : Int64) (60 : Int64)) fun v1 =>
  if v1 = 0 then
    some ((-1000000001), I)
  else
    q_b1 (q_rd I (this + 1) 3580 (nI 0)) fun v5 =>
    if (v5 + x1) ≤ (nI 6999) then
      q_fix (fun _ _ => none) (b_X12_run_34 this x1) q_fu (nI 0) I
    else
      some ((-1000000003), I)
set_option maxRecDepth 100000 in
set_option maxHeartbeats 4000000 in
theorem s_X12_run {l : Launch} {Γ : qC} (hΓ : q_gm Γ) {X : qX} (hX : q_Lay X) {this : Nat} {x1 : Int32} (k_this : q_kd X this = some (14, 42)) {I : qI} {z : Int32 × qI} (h : f_X12_run this x1 I = some z) : q_Sem l Γ (q_rm 9 0 0) yX12_run cX12_run 3 (some .int) [.ref this, .int x1] I X (some (.int z.1), z.2, X) := by
  refine q_met (by decide) (Nat.le_of_ble_eq_true rfl) (fun g hg hr => ?_)
  unfold f_X12_run at h
  show g 0 0 0 [(0, .ref this), (1, .int x1)] [] I X
  refine r_iload_n hg 1 dX12_run_0 rfl rfl ?_
  refine r_i2l hg dX12_run_1 ?_
  refine r_lconst hg dX12_run_2 lc_1 ?_
  refine r_ldc2 hg dX12_run_3 kl_X12_210 ?_
  obtain ⟨v1, e2, h⟩ := q_b1_some h
  refine r_cS3i hg dX12_run_6 mt_X12_isIn ⟨ml_X12_64, mst_X12_isIn⟩ (s_X12_isIn hΓ hX e2) (q_room (Nat.le_of_ble_eq_true rfl) (Nat.le_of_ble_eq_true rfl)) ⟨Nat.zero_le _, Nat.zero_le _⟩ (Nat.le_of_ble_eq_true rfl) ?_
  refine r_if_ne hg 15 dX12_run_9 (by decide) (fun c3 => ?_) (fun c3 => ?_)
  · rw [if_neg c3] at h
    refine r_aload_n hg 0 dX12_run_15 rfl rfl ?_
    have e4 := ly_12_0 hX k_this
    refine r_getR hg dX12_run_16 fl_X12_7 k_this rfl e4.1 ?_
    refine r_iconst hg dX12_run_19 ci_0 ?_
    obtain ⟨v5, e6, h⟩ := q_b1_some h
    refine r_iald hg dX12_run_20 e4.2 e6 ?_
    refine r_iload_n hg 1 dX12_run_21 rfl rfl ?_
    refine r_iadd hg dX12_run_22 ?_
    refine r_sipush hg dX12_run_23 cs_6999 ?_
    refine r_icmp_le hg 32 dX12_run_26 (by decide) (fun c7 => ?_) (fun c7 => ?_)
    · rw [if_pos c7] at h
      refine r_iconst hg dX12_run_32 ci_0 ?_
      refine r_istore_n hg (L' := [(2, .int (nI 0)), (0, .ref this), (1, .int x1)]) dX12_run_33 rfl (by decide) rfl ?_
      refine r_sub hg [1, 2, 0] rfl ?_
      exact pl_X12_run_34 hΓ hg hr hX k_this _ _ _ h
    · rw [if_neg c7] at h
      refine r_ldc hg dX12_run_29 kc_X12_98 ?_
      exact r_ireturn hr dX12_run_31 ⟨Nat.zero_le _, Nat.zero_le _⟩ ⟨_, rfl, rfl⟩ (by cases h; rfl)
  · rw [if_pos (Classical.not_not.mp c3)] at h
    refine r_ldc hg dX12_run_12 kc_X12_90 ?_
    exact r_ireturn hr dX12_run_14 ⟨Nat.zero_le _, Nat.zero_le _⟩ ⟨_, rfl, rfl⟩ (by cases h; rfl)

def b_X12_seek_275 (this : Nat) (x1 : Int32) (x2 : Int32) (x3 : Int32) (x4 : Int32) (x5 : Int32) (F_X12_seek : Nat → Int32 → Int32 → Int32 → Int32 → Int32 → qI → Option (qI)) (k78 : Int32 → qI → Option (qI)) (x6 : Int32) (I : qI) : Option (qI) :=
  k78 (x6 + (nI 1)) I
set_option maxRecDepth 100000 in
set_option maxHeartbeats 4000000 in
theorem p_X12_seek_275 {l : Launch} {Γ : qC} {g : qG} {z : qI} {this : Nat} {x1 : Int32} {x2 : Int32} {x3 : Int32} {x4 : Int32} {x5 : Int32} {d : Nat} {F_X12_seek : Nat → Int32 → Int32 → Int32 → Int32 → Int32 → qI → Option (qI)} {X : qX} (hΓ : q_gm Γ) (hg : q_Ok l Γ RX12 cX12_seek 10 (q_rm (2 + (d + 1)) 0 0) "seek" none g) (hr : q_Rt cX12_seek none (q_rm (2 + (d + 1)) 0 0) (none, z, X) g) (hX : q_Lay X) (k_this : q_kd X this = some (14, 42)) (ih_X12_seek : ∀ {X : qX} (_ : q_Lay X) {this : Nat} {x1 : Int32} {x2 : Int32} {x3 : Int32} {x4 : Int32} {x5 : Int32} (k_this : q_kd X this = some (14, 42)) {I : qI} {z : qI}, F_X12_seek this x1 x2 x3 x4 x5 I = some z → q_Sem l Γ (q_rm (2 + d) 0 0) yX12_seek cX12_seek 10 none [.ref this, .int x1, .int x2, .int x3, .int x4, .int x5] I X (none, z, X)) {k78 : Int32 → qI → Option (qI)} (hk78 : ∀ (x6 : Int32) (I : qI), k78 x6 I = some z → g 0 0 78 [(0, .ref this), (1, .int x1), (2, .int x2), (3, .int x3), (4, .int x4), (5, .int x5), (6, .int x6)] [] I X) (x6 : Int32) (I : qI) (h : b_X12_seek_275 this x1 x2 x3 x4 x5 F_X12_seek k78 x6 I = some z) : g 0 0 275 [(0, .ref this), (1, .int x1), (2, .int x2), (3, .int x3), (4, .int x4), (5, .int x5), (6, .int x6)] [] I X := by
  unfold b_X12_seek_275 at h
  refine r_iinc hg 6 (v := (x6 + (nI 1))) (L' := [(6, .int (x6 + (nI 1))), (0, .ref this), (1, .int x1), (2, .int x2), (3, .int x3), (4, .int x4), (5, .int x5)]) dX12_seek_275 rfl (by rw [ci_1]) (by decide) rfl ?_
  refine r_goto hg 78 dX12_seek_278 (by decide) ?_
  refine r_sub hg [1, 2, 3, 4, 5, 6, 0] rfl ?_
  exact hk78 _ _ h
def b_X12_seek_210 (this : Nat) (x1 : Int32) (x2 : Int32) (x3 : Int32) (x4 : Int32) (x5 : Int32) (F_X12_seek : Nat → Int32 → Int32 → Int32 → Int32 → Int32 → qI → Option (qI)) (k78 : Int32 → qI → Option (qI)) (x6 : Int32) (x7 : Int32) (x8 : Int32) (x9 : Int32) (I : qI) : Option (qI) :=
  q_b1 (q_rd I (this + 1) 3580 x7) fun v2 =>
  if x9 < v2 then
    b_X12_seek_275 this x1 x2 x3 x4 x5 F_X12_seek k78 x6 I
  else
    q_b1 (q_wr I (this + 12) 8 x1 x6) fun I6 =>
    q_b1 (q_wr I6 (this + 13) 8 x1 x8) fun I9 =>
    q_b1 (q_rd I9 (this + 1) 3580 x7) fun v12 =>
    q_b1 (q_rd I9 (this + 1) 3580 (x7 + (nI 1))) fun v15 =>
    q_b1 (F_X12_seek this (x1 + (nI 1)) (x2 ||| ((nI 1) <<< (x6 &&& 31))) x8 (x9 - v12) (x5 + v15) I9) fun I17 =>
    b_X12_seek_275 this x1 x2 x3 x4 x5 F_X12_seek k78 x6 I17
set_option maxRecDepth 100000 in
set_option maxHeartbeats 4000000 in
theorem p_X12_seek_210 {l : Launch} {Γ : qC} {g : qG} {z : qI} {this : Nat} {x1 : Int32} {x2 : Int32} {x3 : Int32} {x4 : Int32} {x5 : Int32} {d : Nat} {F_X12_seek : Nat → Int32 → Int32 → Int32 → Int32 → Int32 → qI → Option (qI)} {X : qX} (hΓ : q_gm Γ) (hg : q_Ok l Γ RX12 cX12_seek 10 (q_rm (2 + (d + 1)) 0 0) "seek" none g) (hr : q_Rt cX12_seek none (q_rm (2 + (d + 1)) 0 0) (none, z, X) g) (hX : q_Lay X) (k_this : q_kd X this = some (14, 42)) (ih_X12_seek : ∀ {X : qX} (_ : q_Lay X) {this : Nat} {x1 : Int32} {x2 : Int32} {x3 : Int32} {x4 : Int32} {x5 : Int32} (k_this : q_kd X this = some (14, 42)) {I : qI} {z : qI}, F_X12_seek this x1 x2 x3 x4 x5 I = some z → q_Sem l Γ (q_rm (2 + d) 0 0) yX12_seek cX12_seek 10 none [.ref this, .int x1, .int x2, .int x3, .int x4, .int x5] I X (none, z, X)) {k78 : Int32 → qI → Option (qI)} (hk78 : ∀ (x6 : Int32) (I : qI), k78 x6 I = some z → g 0 0 78 [(0, .ref this), (1, .int x1), (2, .int x2), (3, .int x3), (4, .int x4), (5, .int x5), (6, .int x6)] [] I X) (x6 : Int32) (x7 : Int32) (x8 : Int32) (x9 : Int32) (I : qI) (h : b_X12_seek_210 this x1 x2 x3 x4 x5 F_X12_seek k78 x6 x7 x8 x9 I = some z) : g 0 0 210 [(0, .ref this), (1, .int x1), (2, .int x2), (3, .int x3), (4, .int x4), (5, .int x5), (6, .int x6), (7, .int x7), (8, .int x8), (9, .int x9)] [] I X := by
  unfold b_X12_seek_210 at h
  refine r_iload hg 9 dX12_seek_210 rfl ?_
  refine r_aload_n hg 0 dX12_seek_212 rfl rfl ?_
  have e1 := ly_12_0 hX k_this
  refine r_getR hg dX12_seek_213 fl_X12_7 k_this rfl e1.1 ?_
  refine r_iload hg 7 dX12_seek_216 rfl ?_
  obtain ⟨v2, e3, h⟩ := q_b1_some h
  refine r_iald hg dX12_seek_218 e1.2 e3 ?_
  refine r_icmp_lt hg 275 dX12_seek_219 (by decide) (fun c4 => ?_) (fun c4 => ?_)
  · rw [if_pos c4] at h
    refine r_sub hg [0, 1, 2, 3, 4, 5, 6] rfl ?_
    exact p_X12_seek_275 hΓ hg hr hX k_this ih_X12_seek hk78 _ _ h
  · rw [if_neg c4] at h
    refine r_aload_n hg 0 dX12_seek_222 rfl rfl ?_
    have e5 := ly_12_31 hX k_this
    refine r_getR hg dX12_seek_223 fl_X12_43 k_this rfl e5.1 ?_
    refine r_iload_n hg 1 dX12_seek_226 rfl rfl ?_
    refine r_iload hg 6 dX12_seek_227 rfl ?_
    obtain ⟨I6, e7, h⟩ := q_b1_some h
    refine r_iast hg dX12_seek_229 e5.2 e7 ?_
    refine r_aload_n hg 0 dX12_seek_230 rfl rfl ?_
    have e8 := ly_12_32 hX k_this
    refine r_getR hg dX12_seek_231 fl_X12_46 k_this rfl e8.1 ?_
    refine r_iload_n hg 1 dX12_seek_234 rfl rfl ?_
    refine r_iload hg 8 dX12_seek_235 rfl ?_
    obtain ⟨I9, e10, h⟩ := q_b1_some h
    refine r_iast hg dX12_seek_237 e8.2 e10 ?_
    refine r_aload_n hg 0 dX12_seek_238 rfl rfl ?_
    refine r_iload_n hg 1 dX12_seek_239 rfl rfl ?_
    refine r_iconst hg dX12_seek_240 ci_1 ?_
    refine r_iadd hg dX12_seek_241 ?_
    refine r_iload_n hg 2 dX12_seek_242 rfl rfl ?_
    refine r_iconst hg dX12_seek_243 ci_1 ?_
    refine r_iload hg 6 dX12_seek_244 rfl ?_
    refine r_ishl hg dX12_seek_246 ?_
    refine r_ior hg dX12_seek_247 ?_
    refine r_iload hg 8 dX12_seek_248 rfl ?_
    refine r_iload hg 9 dX12_seek_250 rfl ?_
    refine r_aload_n hg 0 dX12_seek_252 rfl rfl ?_
    have e11 := ly_12_0 hX k_this
    refine r_getR hg dX12_seek_253 fl_X12_7 k_this rfl e11.1 ?_
    refine r_iload hg 7 dX12_seek_256 rfl ?_
    obtain ⟨v12, e13, h⟩ := q_b1_some h
    refine r_iald hg dX12_seek_258 e11.2 e13 ?_
    refine r_isub hg dX12_seek_259 ?_
    refine r_iload hg 5 dX12_seek_260 rfl ?_
    refine r_aload_n hg 0 dX12_seek_262 rfl rfl ?_
    have e14 := ly_12_0 hX k_this
    refine r_getR hg dX12_seek_263 fl_X12_7 k_this rfl e14.1 ?_
    refine r_iload hg 7 dX12_seek_266 rfl ?_
    refine r_iconst hg dX12_seek_268 ci_1 ?_
    refine r_iadd hg dX12_seek_269 ?_
    obtain ⟨v15, e16, h⟩ := q_b1_some h
    refine r_iald hg dX12_seek_270 e14.2 e16 ?_
    refine r_iadd hg dX12_seek_271 ?_
    obtain ⟨I17, e18, h⟩ := q_b1_some h
    refine r_cV5v hg dX12_seek_272 mt_X12_seek ml_X12_418 mv_X12_seek k_this (ih_X12_seek hX k_this e18) (q_room (by omega) (Nat.le_of_ble_eq_true rfl)) ⟨Nat.zero_le _, Nat.zero_le _⟩ (Nat.le_of_ble_eq_true rfl) ?_
    refine r_sub hg [0, 1, 2, 3, 4, 5, 6] rfl ?_
    exact p_X12_seek_275 hΓ hg hr hX k_this ih_X12_seek hk78 _ _ h
def b_X12_seek_177 (this : Nat) (x1 : Int32) (x2 : Int32) (x3 : Int32) (x4 : Int32) (x5 : Int32) (F_X12_seek : Nat → Int32 → Int32 → Int32 → Int32 → Int32 → qI → Option (qI)) (k78 : Int32 → qI → Option (qI)) (k177 : Int32 → Int32 → Int32 → Int32 → qI → Option (qI)) (x6 : Int32) (x7 : Int32) (x8 : Int32) (x9 : Int32) (I : qI) : Option (qI) :=
  q_b1 (q_rd I (this + 1) 3580 x7) fun v2 =>
  if v2 ≤ x9 then
    b_X12_seek_210 this x1 x2 x3 x4 x5 F_X12_seek k78 x6 x7 x8 x9 I
  else
    if (nI 999) ≤ x8 then
      b_X12_seek_210 this x1 x2 x3 x4 x5 F_X12_seek k78 x6 x7 x8 x9 I
    else
      k177 x6 x7 (x8 + (nI 1)) (x9 + x5) I
set_option maxRecDepth 100000 in
set_option maxHeartbeats 4000000 in
theorem p_X12_seek_177 {l : Launch} {Γ : qC} {g : qG} {z : qI} {this : Nat} {x1 : Int32} {x2 : Int32} {x3 : Int32} {x4 : Int32} {x5 : Int32} {d : Nat} {F_X12_seek : Nat → Int32 → Int32 → Int32 → Int32 → Int32 → qI → Option (qI)} {X : qX} (hΓ : q_gm Γ) (hg : q_Ok l Γ RX12 cX12_seek 10 (q_rm (2 + (d + 1)) 0 0) "seek" none g) (hr : q_Rt cX12_seek none (q_rm (2 + (d + 1)) 0 0) (none, z, X) g) (hX : q_Lay X) (k_this : q_kd X this = some (14, 42)) (ih_X12_seek : ∀ {X : qX} (_ : q_Lay X) {this : Nat} {x1 : Int32} {x2 : Int32} {x3 : Int32} {x4 : Int32} {x5 : Int32} (k_this : q_kd X this = some (14, 42)) {I : qI} {z : qI}, F_X12_seek this x1 x2 x3 x4 x5 I = some z → q_Sem l Γ (q_rm (2 + d) 0 0) yX12_seek cX12_seek 10 none [.ref this, .int x1, .int x2, .int x3, .int x4, .int x5] I X (none, z, X)) {k78 : Int32 → qI → Option (qI)} (hk78 : ∀ (x6 : Int32) (I : qI), k78 x6 I = some z → g 0 0 78 [(0, .ref this), (1, .int x1), (2, .int x2), (3, .int x3), (4, .int x4), (5, .int x5), (6, .int x6)] [] I X) {k177 : Int32 → Int32 → Int32 → Int32 → qI → Option (qI)} (hk177 : ∀ (x6 : Int32) (x7 : Int32) (x8 : Int32) (x9 : Int32) (I : qI), k177 x6 x7 x8 x9 I = some z → g 0 0 177 [(0, .ref this), (1, .int x1), (2, .int x2), (3, .int x3), (4, .int x4), (5, .int x5), (6, .int x6), (7, .int x7), (8, .int x8), (9, .int x9)] [] I X) (x6 : Int32) (x7 : Int32) (x8 : Int32) (x9 : Int32) (I : qI) (h : b_X12_seek_177 this x1 x2 x3 x4 x5 F_X12_seek k78 k177 x6 x7 x8 x9 I = some z) : g 0 0 177 [(0, .ref this), (1, .int x1), (2, .int x2), (3, .int x3), (4, .int x4), (5, .int x5), (6, .int x6), (7, .int x7), (8, .int x8), (9, .int x9)] [] I X := by
  unfold b_X12_seek_177 at h
  refine r_iload hg 9 dX12_seek_177 rfl ?_
  refine r_aload_n hg 0 dX12_seek_179 rfl rfl ?_
  have e1 := ly_12_0 hX k_this
  refine r_getR hg dX12_seek_180 fl_X12_7 k_this rfl e1.1 ?_
  refine r_iload hg 7 dX12_seek_183 rfl ?_
  obtain ⟨v2, e3, h⟩ := q_b1_some h
  refine r_iald hg dX12_seek_185 e1.2 e3 ?_
  refine r_icmp_ge hg 210 dX12_seek_186 (by decide) (fun c4 => ?_) (fun c4 => ?_)
  · rw [if_pos c4] at h
    exact p_X12_seek_210 hΓ hg hr hX k_this ih_X12_seek hk78 _ _ _ _ _ h
  · rw [if_neg c4] at h
    refine r_iload hg 8 dX12_seek_189 rfl ?_
    refine r_sipush hg dX12_seek_191 cs_999 ?_
    refine r_icmp_ge hg 210 dX12_seek_194 (by decide) (fun c5 => ?_) (fun c5 => ?_)
    · rw [if_pos c5] at h
      exact p_X12_seek_210 hΓ hg hr hX k_this ih_X12_seek hk78 _ _ _ _ _ h
    · rw [if_neg c5] at h
      refine r_iinc hg 8 (v := (x8 + (nI 1))) (L' := [(8, .int (x8 + (nI 1))), (0, .ref this), (1, .int x1), (2, .int x2), (3, .int x3), (4, .int x4), (5, .int x5), (6, .int x6), (7, .int x7), (9, .int x9)]) dX12_seek_197 rfl (by rw [ci_1]) (by decide) rfl ?_
      refine r_iload hg 9 dX12_seek_200 rfl ?_
      refine r_iload hg 6 dX12_seek_202 rfl ?_
      refine r_iadd hg dX12_seek_204 ?_
      refine r_istore hg (L' := [(9, .int (x9 + x5)), (8, .int (x8 + (nI 1))), (0, .ref this), (1, .int x1), (2, .int x2), (3, .int x3), (4, .int x4), (5, .int x5), (6, .int x6), (7, .int x7)]) dX12_seek_205 (by decide) rfl ?_
      refine r_goto hg 177 dX12_seek_207 (by decide) ?_
      refine r_sub hg [2, 3, 4, 5, 6, 7, 8, 9, 1, 0] rfl ?_
      exact hk177 _ _ _ _ _ h
theorem pl_X12_seek_177 {l : Launch} {Γ : qC} {g : qG} {z : qI} {this : Nat} {x1 : Int32} {x2 : Int32} {x3 : Int32} {x4 : Int32} {x5 : Int32} {d : Nat} {F_X12_seek : Nat → Int32 → Int32 → Int32 → Int32 → Int32 → qI → Option (qI)} {X : qX} (hΓ : q_gm Γ) (hg : q_Ok l Γ RX12 cX12_seek 10 (q_rm (2 + (d + 1)) 0 0) "seek" none g) (hr : q_Rt cX12_seek none (q_rm (2 + (d + 1)) 0 0) (none, z, X) g) (hX : q_Lay X) (k_this : q_kd X this = some (14, 42)) (ih_X12_seek : ∀ {X : qX} (_ : q_Lay X) {this : Nat} {x1 : Int32} {x2 : Int32} {x3 : Int32} {x4 : Int32} {x5 : Int32} (k_this : q_kd X this = some (14, 42)) {I : qI} {z : qI}, F_X12_seek this x1 x2 x3 x4 x5 I = some z → q_Sem l Γ (q_rm (2 + d) 0 0) yX12_seek cX12_seek 10 none [.ref this, .int x1, .int x2, .int x3, .int x4, .int x5] I X (none, z, X)) {k78 : Int32 → qI → Option (qI)} (hk78 : ∀ (x6 : Int32) (I : qI), k78 x6 I = some z → g 0 0 78 [(0, .ref this), (1, .int x1), (2, .int x2), (3, .int x3), (4, .int x4), (5, .int x5), (6, .int x6)] [] I X) : ∀ (n : Nat) (x6 : Int32) (x7 : Int32) (x8 : Int32) (x9 : Int32) (I : qI), q_fix (fun _ _ _ _ _ => none) (b_X12_seek_177 this x1 x2 x3 x4 x5 F_X12_seek k78) n x6 x7 x8 x9 I = some z → g 0 0 177 [(0, .ref this), (1, .int x1), (2, .int x2), (3, .int x3), (4, .int x4), (5, .int x5), (6, .int x6), (7, .int x7), (8, .int x8), (9, .int x9)] [] I X := by
  intro n
  induction n with
  | zero =>
    intro x6 x7 x8 x9 I h
    cases (show (none : Option (qI)) = some z from h)
  | succ n ih =>
    intro x6 x7 x8 x9 I h
    exact p_X12_seek_177 hΓ hg hr hX k_this ih_X12_seek hk78 ih _ _ _ _ _ h
def b_X12_seek_149 (this : Nat) (x1 : Int32) (x2 : Int32) (x3 : Int32) (x4 : Int32) (x5 : Int32) (F_X12_seek : Nat → Int32 → Int32 → Int32 → Int32 → Int32 → qI → Option (qI)) (k78 : Int32 → qI → Option (qI)) (x6 : Int32) (x7 : Int32) (s1 : Int32) (I : qI) : Option (qI) :=
  q_b1 (q_bz s1) fun _ =>
  q_b1 (some (q_up I this 37 s1)) fun I4 =>
  if (I4 this 37) = 0 then
    q_b1 (some (q_up I4 this 36 ((I4 this 36) - (nI 1)))) fun I7 =>
    q_fix (fun _ _ _ _ _ => none) (b_X12_seek_177 this x1 x2 x3 x4 x5 F_X12_seek k78) q_fu x6 x7 x3 x4 I7
  else
    some (I4)
set_option maxRecDepth 100000 in
set_option maxHeartbeats 4000000 in
theorem p_X12_seek_149 {l : Launch} {Γ : qC} {g : qG} {z : qI} {this : Nat} {x1 : Int32} {x2 : Int32} {x3 : Int32} {x4 : Int32} {x5 : Int32} {d : Nat} {F_X12_seek : Nat → Int32 → Int32 → Int32 → Int32 → Int32 → qI → Option (qI)} {X : qX} (hΓ : q_gm Γ) (hg : q_Ok l Γ RX12 cX12_seek 10 (q_rm (2 + (d + 1)) 0 0) "seek" none g) (hr : q_Rt cX12_seek none (q_rm (2 + (d + 1)) 0 0) (none, z, X) g) (hX : q_Lay X) (k_this : q_kd X this = some (14, 42)) (ih_X12_seek : ∀ {X : qX} (_ : q_Lay X) {this : Nat} {x1 : Int32} {x2 : Int32} {x3 : Int32} {x4 : Int32} {x5 : Int32} (k_this : q_kd X this = some (14, 42)) {I : qI} {z : qI}, F_X12_seek this x1 x2 x3 x4 x5 I = some z → q_Sem l Γ (q_rm (2 + d) 0 0) yX12_seek cX12_seek 10 none [.ref this, .int x1, .int x2, .int x3, .int x4, .int x5] I X (none, z, X)) {k78 : Int32 → qI → Option (qI)} (hk78 : ∀ (x6 : Int32) (I : qI), k78 x6 I = some z → g 0 0 78 [(0, .ref this), (1, .int x1), (2, .int x2), (3, .int x3), (4, .int x4), (5, .int x5), (6, .int x6)] [] I X) (x6 : Int32) (x7 : Int32) (s1 : Int32) (I : qI) (h : b_X12_seek_149 this x1 x2 x3 x4 x5 F_X12_seek k78 x6 x7 s1 I = some z) : g 0 0 149 [(0, .ref this), (1, .int x1), (2, .int x2), (3, .int x3), (4, .int x4), (5, .int x5), (6, .int x6), (7, .int x7)] [.int s1, .ref this] I X := by
  unfold b_X12_seek_149 at h
  obtain ⟨u1, e2, h⟩ := q_b1_some h
  obtain ⟨rfl, e3⟩ := q_bz_some e2
  obtain ⟨I4, e5, h⟩ := q_b1_some h
  obtain rfl := Option.some.inj e5
  refine r_putI hg dX12_seek_149 fl_X12_412 k_this rfl (q_bz_n e3) ?_
  refine r_aload_n hg 0 dX12_seek_152 rfl rfl ?_
  refine r_getI hg dX12_seek_153 fl_X12_412 k_this rfl ?_
  refine r_if_eq hg 160 dX12_seek_156 (by decide) (fun c6 => ?_) (fun c6 => ?_)
  · rw [if_pos c6] at h
    refine r_aload_n hg 0 dX12_seek_160 rfl rfl ?_
    refine r_dup hg dX12_seek_161 rfl ?_
    refine r_getI hg dX12_seek_162 fl_X12_415 k_this rfl ?_
    refine r_iconst hg dX12_seek_165 ci_1 ?_
    refine r_isub hg dX12_seek_166 ?_
    obtain ⟨I7, e8, h⟩ := q_b1_some h
    obtain rfl := Option.some.inj e8
    refine r_putI hg dX12_seek_167 fl_X12_415 k_this rfl ⟨rfl, rfl⟩ ?_
    refine r_iload_n hg 3 dX12_seek_170 rfl rfl ?_
    refine r_istore hg (L' := [(8, .int x3), (0, .ref this), (1, .int x1), (2, .int x2), (3, .int x3), (4, .int x4), (5, .int x5), (6, .int x6), (7, .int x7)]) dX12_seek_171 (by decide) rfl ?_
    refine r_iload hg 5 dX12_seek_173 rfl ?_
    refine r_istore hg (L' := [(9, .int x4), (8, .int x3), (0, .ref this), (1, .int x1), (2, .int x2), (3, .int x3), (4, .int x4), (5, .int x5), (6, .int x6), (7, .int x7)]) dX12_seek_175 (by decide) rfl ?_
    refine r_sub hg [2, 3, 4, 5, 6, 7, 8, 9, 1, 0] rfl ?_
    exact pl_X12_seek_177 hΓ hg hr hX k_this ih_X12_seek hk78 _ _ _ _ _ _ h
  · rw [if_neg c6] at h
    exact r_return hr dX12_seek_159 ⟨Nat.zero_le _, Nat.zero_le _⟩ rfl (by cases h; rfl)
def b_X12_seek_78 (this : Nat) (x1 : Int32) (x2 : Int32) (x3 : Int32) (x4 : Int32) (x5 : Int32) (F_X12_seek : Nat → Int32 → Int32 → Int32 → Int32 → Int32 → qI → Option (qI)) (k78 : Int32 → qI → Option (qI)) (x6 : Int32) (I : qI) : Option (qI) :=
  q_b1 (q_rd I (this + 1) 3580 (nI 6)) fun v2 =>
  if v2 ≤ x6 then
    some (I)
  else
    if (I this 37) = 0 then
      if ((x2 >>> (x6 &&& 31)) &&& (nI 1)) = (nI 1) then
        b_X12_seek_275 this x1 x2 x3 x4 x5 F_X12_seek k78 x6 I
      else
        q_b1 (q_rd I (this + 1) 3580 (((nI 3350) + ((nI 3) * x6)) + (nI 2))) fun v8 =>
        if (v8 &&& (x2 ^^^ (-1))) = 0 then
          if (I this 36) = 0 then
            b_X12_seek_149 this x1 x2 x3 x4 x5 F_X12_seek k78 x6 ((nI 3350) + ((nI 3) * x6)) (nI 1) I
          else
            b_X12_seek_149 this x1 x2 x3 x4 x5 F_X12_seek k78 x6 ((nI 3350) + ((nI 3) * x6)) (nI 0) I
        else
          b_X12_seek_275 this x1 x2 x3 x4 x5 F_X12_seek k78 x6 I
    else
      some (I)
set_option maxRecDepth 100000 in
set_option maxHeartbeats 4000000 in
theorem p_X12_seek_78 {l : Launch} {Γ : qC} {g : qG} {z : qI} {this : Nat} {x1 : Int32} {x2 : Int32} {x3 : Int32} {x4 : Int32} {x5 : Int32} {d : Nat} {F_X12_seek : Nat → Int32 → Int32 → Int32 → Int32 → Int32 → qI → Option (qI)} {X : qX} (hΓ : q_gm Γ) (hg : q_Ok l Γ RX12 cX12_seek 10 (q_rm (2 + (d + 1)) 0 0) "seek" none g) (hr : q_Rt cX12_seek none (q_rm (2 + (d + 1)) 0 0) (none, z, X) g) (hX : q_Lay X) (k_this : q_kd X this = some (14, 42)) (ih_X12_seek : ∀ {X : qX} (_ : q_Lay X) {this : Nat} {x1 : Int32} {x2 : Int32} {x3 : Int32} {x4 : Int32} {x5 : Int32} (k_this : q_kd X this = some (14, 42)) {I : qI} {z : qI}, F_X12_seek this x1 x2 x3 x4 x5 I = some z → q_Sem l Γ (q_rm (2 + d) 0 0) yX12_seek cX12_seek 10 none [.ref this, .int x1, .int x2, .int x3, .int x4, .int x5] I X (none, z, X)) {k78 : Int32 → qI → Option (qI)} (hk78 : ∀ (x6 : Int32) (I : qI), k78 x6 I = some z → g 0 0 78 [(0, .ref this), (1, .int x1), (2, .int x2), (3, .int x3), (4, .int x4), (5, .int x5), (6, .int x6)] [] I X) (x6 : Int32) (I : qI) (h : b_X12_seek_78 this x1 x2 x3 x4 x5 F_X12_seek k78 x6 I = some z) : g 0 0 78 [(0, .ref this), (1, .int x1), (2, .int x2), (3, .int x3), (4, .int x4), (5, .int x5), (6, .int x6)] [] I X := by
  unfold b_X12_seek_78 at h
  refine r_iload hg 6 dX12_seek_78 rfl ?_
  refine r_aload_n hg 0 dX12_seek_80 rfl rfl ?_
  have e1 := ly_12_0 hX k_this
  refine r_getR hg dX12_seek_81 fl_X12_7 k_this rfl e1.1 ?_
  refine r_bipush hg dX12_seek_84 cb_6 ?_
  obtain ⟨v2, e3, h⟩ := q_b1_some h
  refine r_iald hg dX12_seek_86 e1.2 e3 ?_
  refine r_icmp_ge hg 281 dX12_seek_87 (by decide) (fun c4 => ?_) (fun c4 => ?_)
  · rw [if_pos c4] at h
    exact r_return hr dX12_seek_281 ⟨Nat.zero_le _, Nat.zero_le _⟩ rfl (by cases h; rfl)
  · rw [if_neg c4] at h
    refine r_aload_n hg 0 dX12_seek_90 rfl rfl ?_
    refine r_getI hg dX12_seek_91 fl_X12_412 k_this rfl ?_
    refine r_if_ne hg 281 dX12_seek_94 (by decide) (fun c5 => ?_) (fun c5 => ?_)
    · rw [if_neg c5] at h
      exact r_return hr dX12_seek_281 ⟨Nat.zero_le _, Nat.zero_le _⟩ rfl (by cases h; rfl)
    · rw [if_pos (Classical.not_not.mp c5)] at h
      refine r_sipush hg dX12_seek_97 cs_3350 ?_
      refine r_iconst hg dX12_seek_100 ci_3 ?_
      refine r_iload hg 6 dX12_seek_101 rfl ?_
      refine r_imul hg dX12_seek_103 ?_
      refine r_iadd hg dX12_seek_104 ?_
      refine r_istore hg (L' := [(7, .int ((nI 3350) + ((nI 3) * x6))), (0, .ref this), (1, .int x1), (2, .int x2), (3, .int x3), (4, .int x4), (5, .int x5), (6, .int x6)]) dX12_seek_105 (by decide) rfl ?_
      refine r_iload_n hg 3 dX12_seek_107 rfl rfl ?_
      refine r_iload hg 7 dX12_seek_108 rfl ?_
      refine r_ishr hg dX12_seek_110 ?_
      refine r_iconst hg dX12_seek_111 ci_1 ?_
      refine r_iand hg dX12_seek_112 ?_
      refine r_iconst hg dX12_seek_113 ci_1 ?_
      refine r_icmp_eq hg 275 dX12_seek_114 (by decide) (fun c6 => ?_) (fun c6 => ?_)
      · rw [if_pos c6] at h
        refine r_sub hg [1, 2, 3, 4, 5, 6, 7] rfl ?_
        exact p_X12_seek_275 hΓ hg hr hX k_this ih_X12_seek hk78 _ _ h
      · rw [if_neg c6] at h
        refine r_aload_n hg 1 dX12_seek_117 rfl rfl ?_
        have e7 := ly_12_0 hX k_this
        refine r_getR hg dX12_seek_118 fl_X12_7 k_this rfl e7.1 ?_
        refine r_iload hg 0 dX12_seek_121 rfl ?_
        refine r_iconst hg dX12_seek_123 ci_2 ?_
        refine r_iadd hg dX12_seek_124 ?_
        obtain ⟨v8, e9, h⟩ := q_b1_some h
        refine r_iald hg dX12_seek_125 e7.2 e9 ?_
        refine r_iload_n hg 3 dX12_seek_126 rfl rfl ?_
        refine r_iconst hg dX12_seek_127 ci_m1 ?_
        refine r_ixor hg dX12_seek_128 ?_
        refine r_iand hg dX12_seek_129 ?_
        refine r_if_eq hg 136 dX12_seek_130 (by decide) (fun c10 => ?_) (fun c10 => ?_)
        · rw [if_pos c10] at h
          refine r_aload_n hg 1 dX12_seek_136 rfl rfl ?_
          refine r_aload_n hg 1 dX12_seek_137 rfl rfl ?_
          refine r_getI hg dX12_seek_138 fl_X12_415 k_this rfl ?_
          refine r_if_ne hg 148 dX12_seek_141 (by decide) (fun c11 => ?_) (fun c11 => ?_)
          · rw [if_neg c11] at h
            refine r_iconst hg dX12_seek_148 ci_0 ?_
            refine r_sub hg [1, 2, 3, 4, 5, 6, 7, 0] rfl ?_
            exact p_X12_seek_149 hΓ hg hr hX k_this ih_X12_seek hk78 _ _ _ _ h
          · rw [if_pos (Classical.not_not.mp c11)] at h
            refine r_iconst hg dX12_seek_144 ci_1 ?_
            refine r_goto hg 149 dX12_seek_145 (by decide) ?_
            refine r_sub hg [1, 2, 3, 4, 5, 6, 7, 0] rfl ?_
            exact p_X12_seek_149 hΓ hg hr hX k_this ih_X12_seek hk78 _ _ _ _ h
        · rw [if_neg c10] at h
          refine r_goto hg 275 dX12_seek_133 (by decide) ?_
          refine r_sub hg [1, 2, 3, 4, 5, 6, 7] rfl ?_
          exact p_X12_seek_275 hΓ hg hr hX k_this ih_X12_seek hk78 _ _ h
theorem pl_X12_seek_78 {l : Launch} {Γ : qC} {g : qG} {z : qI} {this : Nat} {x1 : Int32} {x2 : Int32} {x3 : Int32} {x4 : Int32} {x5 : Int32} {d : Nat} {F_X12_seek : Nat → Int32 → Int32 → Int32 → Int32 → Int32 → qI → Option (qI)} {X : qX} (hΓ : q_gm Γ) (hg : q_Ok l Γ RX12 cX12_seek 10 (q_rm (2 + (d + 1)) 0 0) "seek" none g) (hr : q_Rt cX12_seek none (q_rm (2 + (d + 1)) 0 0) (none, z, X) g) (hX : q_Lay X) (k_this : q_kd X this = some (14, 42)) (ih_X12_seek : ∀ {X : qX} (_ : q_Lay X) {this : Nat} {x1 : Int32} {x2 : Int32} {x3 : Int32} {x4 : Int32} {x5 : Int32} (k_this : q_kd X this = some (14, 42)) {I : qI} {z : qI}, F_X12_seek this x1 x2 x3 x4 x5 I = some z → q_Sem l Γ (q_rm (2 + d) 0 0) yX12_seek cX12_seek 10 none [.ref this, .int x1, .int x2, .int x3, .int x4, .int x5] I X (none, z, X)) : ∀ (n : Nat) (x6 : Int32) (I : qI), q_fix (fun _ _ => none) (b_X12_seek_78 this x1 x2 x3 x4 x5 F_X12_seek) n x6 I = some z → g 0 0 78 [(0, .ref this), (1, .int x1), (2, .int x2), (3, .int x3), (4, .int x4), (5, .int x5), (6, .int x6)] [] I X := by
  intro n
  induction n with
  | zero =>
    intro x6 I h
    cases (show (none : Option (qI)) = some z from h)
  | succ n ih =>
    intro x6 I h
    exact p_X12_seek_78 hΓ hg hr hX k_this ih_X12_seek ih _ _ h
def b_X12_seek_34 (this : Nat) (x1 : Int32) (x2 : Int32) (x3 : Int32) (x4 : Int32) (x5 : Int32) (F_X12_seek : Nat → Int32 → Int32 → Int32 → Int32 → Int32 → qI → Option (qI)) (k34 : Int32 → qI → Option (qI)) (x6 : Int32) (I : qI) : Option (qI) :=
  if x1 ≤ x6 then
    some (I)
  else
    q_b1 (q_rd I (this + 12) 8 x6) fun v4 =>
    q_b1 (q_wr I (this + 14) 8 x6 v4) fun I6 =>
    q_b1 (q_rd I6 (this + 13) 8 x6) fun v10 =>
    q_b1 (q_wr I6 (this + 15) 8 x6 v10) fun I12 =>
    k34 (x6 + (nI 1)) I12
set_option maxRecDepth 100000 in
set_option maxHeartbeats 4000000 in
theorem p_X12_seek_34 {l : Launch} {Γ : qC} {g : qG} {z : qI} {this : Nat} {x1 : Int32} {x2 : Int32} {x3 : Int32} {x4 : Int32} {x5 : Int32} {d : Nat} {F_X12_seek : Nat → Int32 → Int32 → Int32 → Int32 → Int32 → qI → Option (qI)} {X : qX} (hΓ : q_gm Γ) (hg : q_Ok l Γ RX12 cX12_seek 10 (q_rm (2 + (d + 1)) 0 0) "seek" none g) (hr : q_Rt cX12_seek none (q_rm (2 + (d + 1)) 0 0) (none, z, X) g) (hX : q_Lay X) (k_this : q_kd X this = some (14, 42)) (ih_X12_seek : ∀ {X : qX} (_ : q_Lay X) {this : Nat} {x1 : Int32} {x2 : Int32} {x3 : Int32} {x4 : Int32} {x5 : Int32} (k_this : q_kd X this = some (14, 42)) {I : qI} {z : qI}, F_X12_seek this x1 x2 x3 x4 x5 I = some z → q_Sem l Γ (q_rm (2 + d) 0 0) yX12_seek cX12_seek 10 none [.ref this, .int x1, .int x2, .int x3, .int x4, .int x5] I X (none, z, X)) {k34 : Int32 → qI → Option (qI)} (hk34 : ∀ (x6 : Int32) (I : qI), k34 x6 I = some z → g 0 0 34 [(0, .ref this), (1, .int x1), (6, .int x6)] [] I X) (x6 : Int32) (I : qI) (h : b_X12_seek_34 this x1 x2 x3 x4 x5 F_X12_seek k34 x6 I = some z) : g 0 0 34 [(0, .ref this), (1, .int x1), (6, .int x6)] [] I X := by
  unfold b_X12_seek_34 at h
  refine r_iload hg 2 dX12_seek_34 rfl ?_
  refine r_iload_n hg 1 dX12_seek_36 rfl rfl ?_
  refine r_icmp_ge hg 74 dX12_seek_37 (by decide) (fun c1 => ?_) (fun c1 => ?_)
  · rw [if_pos c1] at h
    exact r_return hr dX12_seek_74 ⟨Nat.zero_le _, Nat.zero_le _⟩ rfl (by cases h; rfl)
  · rw [if_neg c1] at h
    refine r_aload_n hg 0 dX12_seek_40 rfl rfl ?_
    have e2 := ly_12_33 hX k_this
    refine r_getR hg dX12_seek_41 fl_X12_49 k_this rfl e2.1 ?_
    refine r_iload hg 2 dX12_seek_44 rfl ?_
    refine r_aload_n hg 0 dX12_seek_46 rfl rfl ?_
    have e3 := ly_12_31 hX k_this
    refine r_getR hg dX12_seek_47 fl_X12_43 k_this rfl e3.1 ?_
    refine r_iload hg 2 dX12_seek_50 rfl ?_
    obtain ⟨v4, e5, h⟩ := q_b1_some h
    refine r_iald hg dX12_seek_52 e3.2 e5 ?_
    obtain ⟨I6, e7, h⟩ := q_b1_some h
    refine r_iast hg dX12_seek_53 e2.2 e7 ?_
    refine r_aload_n hg 0 dX12_seek_54 rfl rfl ?_
    have e8 := ly_12_34 hX k_this
    refine r_getR hg dX12_seek_55 fl_X12_52 k_this rfl e8.1 ?_
    refine r_iload hg 2 dX12_seek_58 rfl ?_
    refine r_aload_n hg 0 dX12_seek_60 rfl rfl ?_
    have e9 := ly_12_32 hX k_this
    refine r_getR hg dX12_seek_61 fl_X12_46 k_this rfl e9.1 ?_
    refine r_iload hg 2 dX12_seek_64 rfl ?_
    obtain ⟨v10, e11, h⟩ := q_b1_some h
    refine r_iald hg dX12_seek_66 e9.2 e11 ?_
    obtain ⟨I12, e13, h⟩ := q_b1_some h
    refine r_iast hg dX12_seek_67 e8.2 e13 ?_
    refine r_iinc hg 2 (v := (x6 + (nI 1))) (L' := [(6, .int (x6 + (nI 1))), (0, .ref this), (1, .int x1)]) dX12_seek_68 rfl (by rw [ci_1]) (by decide) rfl ?_
    refine r_goto hg 34 dX12_seek_71 (by decide) ?_
    refine r_sub hg [1, 2, 0] rfl ?_
    exact hk34 _ _ h
theorem pl_X12_seek_34 {l : Launch} {Γ : qC} {g : qG} {z : qI} {this : Nat} {x1 : Int32} {x2 : Int32} {x3 : Int32} {x4 : Int32} {x5 : Int32} {d : Nat} {F_X12_seek : Nat → Int32 → Int32 → Int32 → Int32 → Int32 → qI → Option (qI)} {X : qX} (hΓ : q_gm Γ) (hg : q_Ok l Γ RX12 cX12_seek 10 (q_rm (2 + (d + 1)) 0 0) "seek" none g) (hr : q_Rt cX12_seek none (q_rm (2 + (d + 1)) 0 0) (none, z, X) g) (hX : q_Lay X) (k_this : q_kd X this = some (14, 42)) (ih_X12_seek : ∀ {X : qX} (_ : q_Lay X) {this : Nat} {x1 : Int32} {x2 : Int32} {x3 : Int32} {x4 : Int32} {x5 : Int32} (k_this : q_kd X this = some (14, 42)) {I : qI} {z : qI}, F_X12_seek this x1 x2 x3 x4 x5 I = some z → q_Sem l Γ (q_rm (2 + d) 0 0) yX12_seek cX12_seek 10 none [.ref this, .int x1, .int x2, .int x3, .int x4, .int x5] I X (none, z, X)) : ∀ (n : Nat) (x6 : Int32) (I : qI), q_fix (fun _ _ => none) (b_X12_seek_34 this x1 x2 x3 x4 x5 F_X12_seek) n x6 I = some z → g 0 0 34 [(0, .ref this), (1, .int x1), (6, .int x6)] [] I X := by
  intro n
  induction n with
  | zero =>
    intro x6 I h
    cases (show (none : Option (qI)) = some z from h)
  | succ n ih =>
    intro x6 I h
    exact p_X12_seek_34 hΓ hg hr hX k_this ih_X12_seek ih _ _ h
def b_X12_seek_26 (this : Nat) (x1 : Int32) (x2 : Int32) (x3 : Int32) (x4 : Int32) (x5 : Int32) (F_X12_seek : Nat → Int32 → Int32 → Int32 → Int32 → Int32 → qI → Option (qI)) (I : qI) : Option (qI) :=
  q_b1 (some (q_up I this 35 x3)) fun I1 =>
  q_fix (fun _ _ => none) (b_X12_seek_34 this x1 x2 x3 x4 x5 F_X12_seek) q_fu (nI 0) I1
set_option maxRecDepth 100000 in
set_option maxHeartbeats 4000000 in
theorem p_X12_seek_26 {l : Launch} {Γ : qC} {g : qG} {z : qI} {this : Nat} {x1 : Int32} {x2 : Int32} {x3 : Int32} {x4 : Int32} {x5 : Int32} {d : Nat} {F_X12_seek : Nat → Int32 → Int32 → Int32 → Int32 → Int32 → qI → Option (qI)} {X : qX} (hΓ : q_gm Γ) (hg : q_Ok l Γ RX12 cX12_seek 10 (q_rm (2 + (d + 1)) 0 0) "seek" none g) (hr : q_Rt cX12_seek none (q_rm (2 + (d + 1)) 0 0) (none, z, X) g) (hX : q_Lay X) (k_this : q_kd X this = some (14, 42)) (ih_X12_seek : ∀ {X : qX} (_ : q_Lay X) {this : Nat} {x1 : Int32} {x2 : Int32} {x3 : Int32} {x4 : Int32} {x5 : Int32} (k_this : q_kd X this = some (14, 42)) {I : qI} {z : qI}, F_X12_seek this x1 x2 x3 x4 x5 I = some z → q_Sem l Γ (q_rm (2 + d) 0 0) yX12_seek cX12_seek 10 none [.ref this, .int x1, .int x2, .int x3, .int x4, .int x5] I X (none, z, X)) (I : qI) (h : b_X12_seek_26 this x1 x2 x3 x4 x5 F_X12_seek I = some z) : g 0 0 26 [(0, .ref this), (1, .int x1), (3, .int x3)] [] I X := by
  unfold b_X12_seek_26 at h
  refine r_aload_n hg 0 dX12_seek_26 rfl rfl ?_
  refine r_iload_n hg 2 dX12_seek_27 rfl rfl ?_
  obtain ⟨I1, e2, h⟩ := q_b1_some h
  obtain rfl := Option.some.inj e2
  refine r_putI hg dX12_seek_28 fl_X12_409 k_this rfl ⟨rfl, rfl⟩ ?_
  refine r_iconst hg dX12_seek_31 ci_0 ?_
  refine r_istore hg (L' := [(6, .int (nI 0)), (0, .ref this), (1, .int x1), (3, .int x3)]) dX12_seek_32 (by decide) rfl ?_
  refine r_sub hg [1, 2, 0] rfl ?_
  exact pl_X12_seek_34 hΓ hg hr hX k_this ih_X12_seek _ _ _ h
def B_X12_seek (F_X12_seek : Nat → Int32 → Int32 → Int32 → Int32 → Int32 → qI → Option (qI)) (this : Nat) (x1 : Int32) (x2 : Int32) (x3 : Int32) (x4 : Int32) (x5 : Int32) (I : qI) : Option (qI) :=
  q_b1 (q_rd I (this + 1) 3580 (nI 6)) fun v2 =>
  if x1 = v2 then
    if (I this 35) < 0 then
      b_X12_seek_26 this x1 x2 x3 x4 x5 F_X12_seek I
    else
      if (I this 35) ≤ x3 then
        some (I)
      else
        b_X12_seek_26 this x1 x2 x3 x4 x5 F_X12_seek I
  else
    q_fix (fun _ _ => none) (b_X12_seek_78 this x1 x2 x3 x4 x5 F_X12_seek) q_fu (nI 0) I
set_option maxRecDepth 100000 in
set_option maxHeartbeats 4000000 in
theorem t_X12_seek {l : Launch} {Γ : qC} {d : Nat} {F_X12_seek : Nat → Int32 → Int32 → Int32 → Int32 → Int32 → qI → Option (qI)} (hΓ : q_gm Γ) (ih_X12_seek : ∀ {X : qX} (_ : q_Lay X) {this : Nat} {x1 : Int32} {x2 : Int32} {x3 : Int32} {x4 : Int32} {x5 : Int32} (k_this : q_kd X this = some (14, 42)) {I : qI} {z : qI}, F_X12_seek this x1 x2 x3 x4 x5 I = some z → q_Sem l Γ (q_rm (2 + d) 0 0) yX12_seek cX12_seek 10 none [.ref this, .int x1, .int x2, .int x3, .int x4, .int x5] I X (none, z, X)) {X : qX} (hX : q_Lay X) {this : Nat} {x1 : Int32} {x2 : Int32} {x3 : Int32} {x4 : Int32} {x5 : Int32} (k_this : q_kd X this = some (14, 42)) {I : qI} {z : qI} (h : B_X12_seek F_X12_seek this x1 x2 x3 x4 x5 I = some z) : q_Sem l Γ (q_rm (2 + (d + 1)) 0 0) yX12_seek cX12_seek 10 none [.ref this, .int x1, .int x2, .int x3, .int x4, .int x5] I X (none, z, X) := by
  refine q_met (by decide) (Nat.le_of_ble_eq_true rfl) (fun g hg hr => ?_)
  unfold B_X12_seek at h
  show g 0 0 0 [(0, .ref this), (1, .int x1), (2, .int x2), (3, .int x3), (4, .int x4), (5, .int x5)] [] I X
  refine r_iload_n hg 1 dX12_seek_0 rfl rfl ?_
  refine r_aload_n hg 0 dX12_seek_1 rfl rfl ?_
  have e1 := ly_12_0 hX k_this
  refine r_getR hg dX12_seek_2 fl_X12_7 k_this rfl e1.1 ?_
  refine r_bipush hg dX12_seek_5 cb_6 ?_
  obtain ⟨v2, e3, h⟩ := q_b1_some h
  refine r_iald hg dX12_seek_7 e1.2 e3 ?_
  refine r_icmp_ne hg 75 dX12_seek_8 (by decide) (fun c4 => ?_) (fun c4 => ?_)
  · rw [if_neg c4] at h
    refine r_iconst hg dX12_seek_75 ci_0 ?_
    refine r_istore hg (L' := [(6, .int (nI 0)), (0, .ref this), (1, .int x1), (2, .int x2), (3, .int x3), (4, .int x4), (5, .int x5)]) dX12_seek_76 (by decide) rfl ?_
    refine r_sub hg [1, 2, 3, 4, 5, 6, 0] rfl ?_
    exact pl_X12_seek_78 hΓ hg hr hX k_this ih_X12_seek _ _ _ h
  · rw [if_pos (Classical.not_not.mp c4)] at h
    refine r_aload_n hg 0 dX12_seek_11 rfl rfl ?_
    refine r_getI hg dX12_seek_12 fl_X12_409 k_this rfl ?_
    refine r_if_lt hg 26 dX12_seek_15 (by decide) (fun c5 => ?_) (fun c5 => ?_)
    · rw [if_pos c5] at h
      refine r_sub hg [0, 1, 3] rfl ?_
      exact p_X12_seek_26 hΓ hg hr hX k_this ih_X12_seek _ h
    · rw [if_neg c5] at h
      refine r_iload_n hg 3 dX12_seek_18 rfl rfl ?_
      refine r_aload_n hg 0 dX12_seek_19 rfl rfl ?_
      refine r_getI hg dX12_seek_20 fl_X12_409 k_this rfl ?_
      refine r_icmp_ge hg 74 dX12_seek_23 (by decide) (fun c6 => ?_) (fun c6 => ?_)
      · rw [if_pos c6] at h
        exact r_return hr dX12_seek_74 ⟨Nat.zero_le _, Nat.zero_le _⟩ rfl (by cases h; rfl)
      · rw [if_neg c6] at h
        refine r_sub hg [0, 1, 3] rfl ?_
        exact p_X12_seek_26 hΓ hg hr hX k_this ih_X12_seek _ h

def G_X12_seek : Nat → (Nat → Int32 → Int32 → Int32 → Int32 → Int32 → qI → Option (qI)) := q_fix (fun _ _ _ _ _ _ _ => none) (fun F => (B_X12_seek F))
def f_X12_seek (d : Nat) : Nat → Int32 → Int32 → Int32 → Int32 → Int32 → qI → Option (qI) := (G_X12_seek d)
theorem sg_X12_seek {l : Launch} {Γ : qC} (hΓ : q_gm Γ) : ∀ d : Nat, (∀ {X : qX} (_ : q_Lay X) {this : Nat} {x1 : Int32} {x2 : Int32} {x3 : Int32} {x4 : Int32} {x5 : Int32} (k_this : q_kd X this = some (14, 42)) {I : qI} {z : qI}, f_X12_seek d this x1 x2 x3 x4 x5 I = some z → q_Sem l Γ (q_rm (2 + d) 0 0) yX12_seek cX12_seek 10 none [.ref this, .int x1, .int x2, .int x3, .int x4, .int x5] I X (none, z, X)) := by
  intro d
  induction d with
  | zero =>
    skip
    · intros; rename_i h; cases (show (none : Option (qI)) = some _ from h)
  | succ d ih =>
    have ih0 := @ih
    skip
    · intro X hX this x1 x2 x3 x4 x5 k_this I z h
      exact t_X12_seek hΓ ih0 hX k_this h
theorem s_X12_seek {l : Launch} {Γ : qC} (hΓ : q_gm Γ) {d : Nat} {X : qX} (hX : q_Lay X) {this : Nat} {x1 : Int32} {x2 : Int32} {x3 : Int32} {x4 : Int32} {x5 : Int32} (k_this : q_kd X this = some (14, 42)) {I : qI} {z : qI} (h : f_X12_seek d this x1 x2 x3 x4 x5 I = some z) : q_Sem l Γ (q_rm (2 + d) 0 0) yX12_seek cX12_seek 10 none [.ref this, .int x1, .int x2, .int x3, .int x4, .int x5] I X (none, z, X) := (sg_X12_seek hΓ d) hX k_this h

def f_X12_findOrder (this : Nat) (x1 : Int32) (x2 : Int32) (x3 : Int32) (I : qI) : Option (Int32 × qI) :=
  q_b1 (some (q_up I this 35 (-1))) fun I1 =>
  q_b1 (some (q_up I1 this 36 x3)) fun I3 =>
  q_b1 (some (q_up I3 this 37 (nI 0))) fun I5 =>
  q_b1 (f_X12_seek q_rd0 this (nI 0) (nI 0) (nI 0) x1 x2 I5) fun I7 =>
  if (I7 this 37) = 0 then
    if 0 ≤ (I7 this 35) then
      some ((I7 this 35), I7)
    else
      some ((-1000000002), I7)
  else
    some ((-1000000004), I7)
set_option maxRecDepth 100000 in
set_option maxHeartbeats 4000000 in
theorem s_X12_findOrder {l : Launch} {Γ : qC} (hΓ : q_gm Γ) {X : qX} (hX : q_Lay X) {this : Nat} {x1 : Int32} {x2 : Int32} {x3 : Int32} (k_this : q_kd X this = some (14, 42)) {I : qI} {z : Int32 × qI} (h : f_X12_findOrder this x1 x2 x3 I = some z) : q_Sem l Γ (q_rm 123 0 0) yX12_findOrder cX12_findOrder 4 (some .int) [.ref this, .int x1, .int x2, .int x3] I X (some (.int z.1), z.2, X) := by
  refine q_met (by decide) (Nat.le_of_ble_eq_true rfl) (fun g hg hr => ?_)
  unfold f_X12_findOrder at h
  show g 0 0 0 [(0, .ref this), (1, .int x1), (2, .int x2), (3, .int x3)] [] I X
  refine r_aload_n hg 0 dX12_findOrder_0 rfl rfl ?_
  refine r_iconst hg dX12_findOrder_1 ci_m1 ?_
  obtain ⟨I1, e2, h⟩ := q_b1_some h
  obtain rfl := Option.some.inj e2
  refine r_putI hg dX12_findOrder_2 fl_X12_409 k_this rfl ⟨rfl, rfl⟩ ?_
  refine r_aload_n hg 0 dX12_findOrder_5 rfl rfl ?_
  refine r_iload_n hg 3 dX12_findOrder_6 rfl rfl ?_
  obtain ⟨I3, e4, h⟩ := q_b1_some h
  obtain rfl := Option.some.inj e4
  refine r_putI hg dX12_findOrder_7 fl_X12_415 k_this rfl ⟨rfl, rfl⟩ ?_
  refine r_aload_n hg 0 dX12_findOrder_10 rfl rfl ?_
  refine r_iconst hg dX12_findOrder_11 ci_0 ?_
  obtain ⟨I5, e6, h⟩ := q_b1_some h
  obtain rfl := Option.some.inj e6
  refine r_putI hg dX12_findOrder_12 fl_X12_412 k_this rfl bz_0 ?_
  refine r_aload_n hg 0 dX12_findOrder_15 rfl rfl ?_
  refine r_iconst hg dX12_findOrder_16 ci_0 ?_
  refine r_iconst hg dX12_findOrder_17 ci_0 ?_
  refine r_iconst hg dX12_findOrder_18 ci_0 ?_
  refine r_iload_n hg 1 dX12_findOrder_19 rfl rfl ?_
  refine r_iload_n hg 2 dX12_findOrder_20 rfl rfl ?_
  obtain ⟨I7, e8, h⟩ := q_b1_some h
  refine r_cV5v hg dX12_findOrder_21 mt_X12_seek ml_X12_418 mv_X12_seek k_this (s_X12_seek hΓ hX k_this e8) (q_room (Nat.le_of_ble_eq_true rfl) (Nat.le_of_ble_eq_true rfl)) ⟨Nat.zero_le _, Nat.zero_le _⟩ (Nat.le_of_ble_eq_true rfl) ?_
  refine r_aload_n hg 0 dX12_findOrder_24 rfl rfl ?_
  refine r_getI hg dX12_findOrder_25 fl_X12_412 k_this rfl ?_
  refine r_if_eq hg 37 dX12_findOrder_28 (by decide) (fun c9 => ?_) (fun c9 => ?_)
  · rw [if_pos c9] at h
    refine r_aload_n hg 0 dX12_findOrder_37 rfl rfl ?_
    refine r_getI hg dX12_findOrder_38 fl_X12_409 k_this rfl ?_
    refine r_if_ge hg 50 dX12_findOrder_41 (by decide) (fun c10 => ?_) (fun c10 => ?_)
    · rw [if_pos c10] at h
      refine r_aload_n hg 0 dX12_findOrder_50 rfl rfl ?_
      refine r_getI hg dX12_findOrder_51 fl_X12_409 k_this rfl ?_
      exact r_ireturn hr dX12_findOrder_54 ⟨Nat.zero_le _, Nat.zero_le _⟩ ⟨_, rfl, rfl⟩ (by cases h; rfl)
    · rw [if_neg c10] at h
      refine r_ldcw hg dX12_findOrder_44 kc_X12_346 ?_
      refine r_goto hg 54 dX12_findOrder_47 (by decide) ?_
      exact r_ireturn hr dX12_findOrder_54 ⟨Nat.zero_le _, Nat.zero_le _⟩ ⟨_, rfl, rfl⟩ (by cases h; rfl)
  · rw [if_neg c9] at h
    refine r_ldcw hg dX12_findOrder_31 kc_X12_422 ?_
    refine r_goto hg 54 dX12_findOrder_34 (by decide) ?_
    exact r_ireturn hr dX12_findOrder_54 ⟨Nat.zero_le _, Nat.zero_le _⟩ ⟨_, rfl, rfl⟩ (by cases h; rfl)

def f_X12_plan (this : Nat) (x1 : Int32) (x2 : Int32) (x3 : Int32) (I : qI) : Option (Int32 × qI) :=
  q_b1 (f_X12_isFund x1 x2) fun v1 =>
  if v1 = 0 then
    some ((-1000000001), I)
  else
    q_b1 (f_X12_isIn x3.toInt64 (1 : Int64) (20000 : Int64)) fun v4 =>
    if v4 = 0 then
      some ((-1000000001), I)
    else
      q_b2 (f_X12_findOrder this x1 x2 x3 I) fun v7 I8 =>
      some (v7, I8)
set_option maxRecDepth 100000 in
set_option maxHeartbeats 4000000 in
theorem s_X12_plan {l : Launch} {Γ : qC} (hΓ : q_gm Γ) {X : qX} (hX : q_Lay X) {this : Nat} {x1 : Int32} {x2 : Int32} {x3 : Int32} (k_this : q_kd X this = some (14, 42)) {I : qI} {z : Int32 × qI} (h : f_X12_plan this x1 x2 x3 I = some z) : q_Sem l Γ (q_rm 124 0 0) yX12_plan cX12_plan 4 (some .int) [.ref this, .int x1, .int x2, .int x3] I X (some (.int z.1), z.2, X) := by
  refine q_met (by decide) (Nat.le_of_ble_eq_true rfl) (fun g hg hr => ?_)
  unfold f_X12_plan at h
  show g 0 0 0 [(0, .ref this), (1, .int x1), (2, .int x2), (3, .int x3)] [] I X
  refine r_iload_n hg 1 dX12_plan_0 rfl rfl ?_
  refine r_iload_n hg 2 dX12_plan_1 rfl rfl ?_
  obtain ⟨v1, e2, h⟩ := q_b1_some h
  refine r_cS2i hg dX12_plan_2 mt_X12_isFund ⟨ml_X12_423, mst_X12_isFund⟩ (s_X12_isFund hΓ hX e2) (q_room (Nat.le_of_ble_eq_true rfl) (Nat.le_of_ble_eq_true rfl)) ⟨Nat.zero_le _, Nat.zero_le _⟩ (Nat.le_of_ble_eq_true rfl) ?_
  refine r_if_eq hg 30 dX12_plan_5 (by decide) (fun c3 => ?_) (fun c3 => ?_)
  · rw [if_pos c3] at h
    refine r_ldc hg dX12_plan_30 kc_X12_90 ?_
    exact r_ireturn hr dX12_plan_32 ⟨Nat.zero_le _, Nat.zero_le _⟩ ⟨_, rfl, rfl⟩ (by cases h; rfl)
  · rw [if_neg c3] at h
    refine r_iload_n hg 3 dX12_plan_8 rfl rfl ?_
    refine r_i2l hg dX12_plan_9 ?_
    refine r_lconst hg dX12_plan_10 lc_1 ?_
    refine r_ldc2 hg dX12_plan_11 kl_X12_426 ?_
    obtain ⟨v4, e5, h⟩ := q_b1_some h
    refine r_cS3i hg dX12_plan_14 mt_X12_isIn ⟨ml_X12_64, mst_X12_isIn⟩ (s_X12_isIn hΓ hX e5) (q_room (Nat.le_of_ble_eq_true rfl) (Nat.le_of_ble_eq_true rfl)) ⟨Nat.zero_le _, Nat.zero_le _⟩ (Nat.le_of_ble_eq_true rfl) ?_
    refine r_if_eq hg 30 dX12_plan_17 (by decide) (fun c6 => ?_) (fun c6 => ?_)
    · rw [if_pos c6] at h
      refine r_ldc hg dX12_plan_30 kc_X12_90 ?_
      exact r_ireturn hr dX12_plan_32 ⟨Nat.zero_le _, Nat.zero_le _⟩ ⟨_, rfl, rfl⟩ (by cases h; rfl)
    · rw [if_neg c6] at h
      refine r_aload_n hg 0 dX12_plan_20 rfl rfl ?_
      refine r_iload_n hg 1 dX12_plan_21 rfl rfl ?_
      refine r_iload_n hg 2 dX12_plan_22 rfl rfl ?_
      refine r_iload_n hg 3 dX12_plan_23 rfl rfl ?_
      obtain ⟨v7, I8, e9, h⟩ := q_b2_some h
      refine r_cV3i hg dX12_plan_24 mt_X12_findOrder ml_X12_428 mv_X12_findOrder k_this (s_X12_findOrder hΓ hX k_this e9) (q_room (Nat.le_of_ble_eq_true rfl) (Nat.le_of_ble_eq_true rfl)) ⟨Nat.zero_le _, Nat.zero_le _⟩ (Nat.le_of_ble_eq_true rfl) ?_
      refine r_goto hg 32 dX12_plan_27 (by decide) ?_
      exact r_ireturn hr dX12_plan_32 ⟨Nat.zero_le _, Nat.zero_le _⟩ ⟨_, rfl, rfl⟩ (by cases h; rfl)

def f_X12_planned (this : Nat) (x1 : Int32) (x2 : Int32) (x3 : Int32) (I : qI) : Option (Int32 × qI) :=
  q_b1 (f_X12_isFund x1 x2) fun v1 =>
  if v1 = 0 then
    some ((-1000000001), I)
  else
    if 0 ≤ x3 then
      q_b2 (f_X12_findOrder this x1 x2 (nI 20000) I) fun v5 I6 =>
      if 0 ≤ v5 then
        q_b1 (q_rd I6 (this + 1) 3580 (nI 6)) fun v10 =>
        if v10 ≤ x3 then
          some ((-1000000005), I6)
        else
          q_b1 (q_rd I6 (this + 14) 8 x3) fun v14 =>
          some (v14, I6)
      else
        some (v5, I6)
    else
      some ((-1000000001), I)
set_option maxRecDepth 100000 in
set_option maxHeartbeats 4000000 in
theorem s_X12_planned {l : Launch} {Γ : qC} (hΓ : q_gm Γ) {X : qX} (hX : q_Lay X) {this : Nat} {x1 : Int32} {x2 : Int32} {x3 : Int32} (k_this : q_kd X this = some (14, 42)) {I : qI} {z : Int32 × qI} (h : f_X12_planned this x1 x2 x3 I = some z) : q_Sem l Γ (q_rm 124 0 0) yX12_planned cX12_planned 5 (some .int) [.ref this, .int x1, .int x2, .int x3] I X (some (.int z.1), z.2, X) := by
  refine q_met (by decide) (Nat.le_of_ble_eq_true rfl) (fun g hg hr => ?_)
  unfold f_X12_planned at h
  show g 0 0 0 [(0, .ref this), (1, .int x1), (2, .int x2), (3, .int x3)] [] I X
  refine r_iload_n hg 1 dX12_planned_0 rfl rfl ?_
  refine r_iload_n hg 2 dX12_planned_1 rfl rfl ?_
  obtain ⟨v1, e2, h⟩ := q_b1_some h
  refine r_cS2i hg dX12_planned_2 mt_X12_isFund ⟨ml_X12_423, mst_X12_isFund⟩ (s_X12_isFund hΓ hX e2) (q_room (Nat.le_of_ble_eq_true rfl) (Nat.le_of_ble_eq_true rfl)) ⟨Nat.zero_le _, Nat.zero_le _⟩ (Nat.le_of_ble_eq_true rfl) ?_
  refine r_if_eq hg 12 dX12_planned_5 (by decide) (fun c3 => ?_) (fun c3 => ?_)
  · rw [if_pos c3] at h
    refine r_ldc hg dX12_planned_12 kc_X12_90 ?_
    exact r_ireturn hr dX12_planned_14 ⟨Nat.zero_le _, Nat.zero_le _⟩ ⟨_, rfl, rfl⟩ (by cases h; rfl)
  · rw [if_neg c3] at h
    refine r_iload_n hg 3 dX12_planned_8 rfl rfl ?_
    refine r_if_ge hg 15 dX12_planned_9 (by decide) (fun c4 => ?_) (fun c4 => ?_)
    · rw [if_pos c4] at h
      refine r_aload_n hg 0 dX12_planned_15 rfl rfl ?_
      refine r_iload_n hg 1 dX12_planned_16 rfl rfl ?_
      refine r_iload_n hg 2 dX12_planned_17 rfl rfl ?_
      refine r_sipush hg dX12_planned_18 cs_20000 ?_
      obtain ⟨v5, I6, e7, h⟩ := q_b2_some h
      refine r_cV3i hg dX12_planned_21 mt_X12_findOrder ml_X12_428 mv_X12_findOrder k_this (s_X12_findOrder hΓ hX k_this e7) (q_room (Nat.le_of_ble_eq_true rfl) (Nat.le_of_ble_eq_true rfl)) ⟨Nat.zero_le _, Nat.zero_le _⟩ (Nat.le_of_ble_eq_true rfl) ?_
      refine r_istore hg (L' := [(4, .int v5), (0, .ref this), (1, .int x1), (2, .int x2), (3, .int x3)]) dX12_planned_24 (by decide) rfl ?_
      refine r_iload hg 0 dX12_planned_26 rfl ?_
      refine r_if_ge hg 36 dX12_planned_28 (by decide) (fun c8 => ?_) (fun c8 => ?_)
      · rw [if_pos c8] at h
        refine r_iload_n hg 4 dX12_planned_36 rfl rfl ?_
        refine r_aload_n hg 1 dX12_planned_37 rfl rfl ?_
        have e9 := ly_12_0 hX k_this
        refine r_getR hg dX12_planned_38 fl_X12_7 k_this rfl e9.1 ?_
        refine r_bipush hg dX12_planned_41 cb_6 ?_
        obtain ⟨v10, e11, h⟩ := q_b1_some h
        refine r_iald hg dX12_planned_43 e9.2 e11 ?_
        refine r_icmp_ge hg 56 dX12_planned_44 (by decide) (fun c12 => ?_) (fun c12 => ?_)
        · rw [if_pos c12] at h
          refine r_ldc hg dX12_planned_56 kc_X12_61 ?_
          exact r_ireturn hr dX12_planned_58 ⟨Nat.zero_le _, Nat.zero_le _⟩ ⟨_, rfl, rfl⟩ (by cases h; rfl)
        · rw [if_neg c12] at h
          refine r_aload_n hg 1 dX12_planned_47 rfl rfl ?_
          have e13 := ly_12_33 hX k_this
          refine r_getR hg dX12_planned_48 fl_X12_49 k_this rfl e13.1 ?_
          refine r_iload_n hg 4 dX12_planned_51 rfl rfl ?_
          obtain ⟨v14, e15, h⟩ := q_b1_some h
          refine r_iald hg dX12_planned_52 e13.2 e15 ?_
          refine r_goto hg 58 dX12_planned_53 (by decide) ?_
          exact r_ireturn hr dX12_planned_58 ⟨Nat.zero_le _, Nat.zero_le _⟩ ⟨_, rfl, rfl⟩ (by cases h; rfl)
      · rw [if_neg c8] at h
        refine r_iload hg 0 dX12_planned_31 rfl ?_
        refine r_goto hg 58 dX12_planned_33 (by decide) ?_
        exact r_ireturn hr dX12_planned_58 ⟨Nat.zero_le _, Nat.zero_le _⟩ ⟨_, rfl, rfl⟩ (by cases h; rfl)
    · rw [if_neg c4] at h
      refine r_ldc hg dX12_planned_12 kc_X12_90 ?_
      exact r_ireturn hr dX12_planned_14 ⟨Nat.zero_le _, Nat.zero_le _⟩ ⟨_, rfl, rfl⟩ (by cases h; rfl)

def b_X12_rowsOfOrder_64 (this : Nat) (x1 : Int32) (x2 : Int32) (x3 : Int32) (I : qI) : Option (Int32 × qI) :=
  if 0 ≤ x3 then
    some ((nI 0), I)
  else
    some (x3, I)
set_option maxRecDepth 100000 in
set_option maxHeartbeats 4000000 in
theorem p_X12_rowsOfOrder_64 {l : Launch} {Γ : qC} {g : qG} {z : Int32 × qI} {this : Nat} {x1 : Int32} {x2 : Int32} {X : qX} (hΓ : q_gm Γ) (hg : q_Ok l Γ RX12 cX12_rowsOfOrder 5 (q_rm 124 0 0) "rowsOfOrder" (some .int) g) (hr : q_Rt cX12_rowsOfOrder (some .int) (q_rm 124 0 0) (some (.int z.1), z.2, X) g) (hX : q_Lay X) (k_this : q_kd X this = some (14, 42)) (x3 : Int32) (I : qI) (h : b_X12_rowsOfOrder_64 this x1 x2 x3 I = some z) : g 0 0 64 [(3, .int x3)] [] I X := by
  unfold b_X12_rowsOfOrder_64 at h
  refine r_iload_n hg 0 dX12_rowsOfOrder_64 rfl rfl ?_
  refine r_if_ge hg 72 dX12_rowsOfOrder_65 (by decide) (fun c1 => ?_) (fun c1 => ?_)
  · rw [if_pos c1] at h
    refine r_iconst hg dX12_rowsOfOrder_72 ci_0 ?_
    exact r_ireturn hr dX12_rowsOfOrder_73 ⟨Nat.zero_le _, Nat.zero_le _⟩ ⟨_, rfl, rfl⟩ (by cases h; rfl)
  · rw [if_neg c1] at h
    refine r_iload_n hg 0 dX12_rowsOfOrder_68 rfl rfl ?_
    refine r_goto hg 73 dX12_rowsOfOrder_69 (by decide) ?_
    exact r_ireturn hr dX12_rowsOfOrder_73 ⟨Nat.zero_le _, Nat.zero_le _⟩ ⟨_, rfl, rfl⟩ (by cases h; rfl)
def b_X12_rowsOfOrder_24 (this : Nat) (x1 : Int32) (x2 : Int32) (k24 : Int32 → Int32 → qI → Option (Int32 × qI)) (x3 : Int32) (x4 : Int32) (I : qI) : Option (Int32 × qI) :=
  q_b1 (q_rd I (this + 1) 3580 (nI 6)) fun v2 =>
  if v2 ≤ x4 then
    b_X12_rowsOfOrder_64 this x1 x2 x3 I
  else
    if x3 < 0 then
      b_X12_rowsOfOrder_64 this x1 x2 x3 I
    else
      q_b1 (q_rd I (this + 14) 8 x4) fun v7 =>
      q_b1 (q_rd I (this + 15) 8 x4) fun v10 =>
      q_b1 (f_X12_dueIs this v7 v10 I) fun I12 =>
      k24 x3 (x4 + (nI 1)) I12
set_option maxRecDepth 100000 in
set_option maxHeartbeats 4000000 in
theorem p_X12_rowsOfOrder_24 {l : Launch} {Γ : qC} {g : qG} {z : Int32 × qI} {this : Nat} {x1 : Int32} {x2 : Int32} {X : qX} (hΓ : q_gm Γ) (hg : q_Ok l Γ RX12 cX12_rowsOfOrder 5 (q_rm 124 0 0) "rowsOfOrder" (some .int) g) (hr : q_Rt cX12_rowsOfOrder (some .int) (q_rm 124 0 0) (some (.int z.1), z.2, X) g) (hX : q_Lay X) (k_this : q_kd X this = some (14, 42)) {k24 : Int32 → Int32 → qI → Option (Int32 × qI)} (hk24 : ∀ (x3 : Int32) (x4 : Int32) (I : qI), k24 x3 x4 I = some z → g 0 0 24 [(0, .ref this), (3, .int x3), (4, .int x4)] [] I X) (x3 : Int32) (x4 : Int32) (I : qI) (h : b_X12_rowsOfOrder_24 this x1 x2 k24 x3 x4 I = some z) : g 0 0 24 [(0, .ref this), (3, .int x3), (4, .int x4)] [] I X := by
  unfold b_X12_rowsOfOrder_24 at h
  refine r_iload hg 2 dX12_rowsOfOrder_24 rfl ?_
  refine r_aload_n hg 0 dX12_rowsOfOrder_26 rfl rfl ?_
  have e1 := ly_12_0 hX k_this
  refine r_getR hg dX12_rowsOfOrder_27 fl_X12_7 k_this rfl e1.1 ?_
  refine r_bipush hg dX12_rowsOfOrder_30 cb_6 ?_
  obtain ⟨v2, e3, h⟩ := q_b1_some h
  refine r_iald hg dX12_rowsOfOrder_32 e1.2 e3 ?_
  refine r_icmp_ge hg 64 dX12_rowsOfOrder_33 (by decide) (fun c4 => ?_) (fun c4 => ?_)
  · rw [if_pos c4] at h
    refine r_sub hg [1] rfl ?_
    exact p_X12_rowsOfOrder_64 hΓ hg hr hX k_this _ _ h
  · rw [if_neg c4] at h
    refine r_iload_n hg 1 dX12_rowsOfOrder_36 rfl rfl ?_
    refine r_if_lt hg 64 dX12_rowsOfOrder_37 (by decide) (fun c5 => ?_) (fun c5 => ?_)
    · rw [if_pos c5] at h
      refine r_sub hg [1] rfl ?_
      exact p_X12_rowsOfOrder_64 hΓ hg hr hX k_this _ _ h
    · rw [if_neg c5] at h
      refine r_aload_n hg 0 dX12_rowsOfOrder_40 rfl rfl ?_
      refine r_aload_n hg 0 dX12_rowsOfOrder_41 rfl rfl ?_
      have e6 := ly_12_33 hX k_this
      refine r_getR hg dX12_rowsOfOrder_42 fl_X12_49 k_this rfl e6.1 ?_
      refine r_iload hg 2 dX12_rowsOfOrder_45 rfl ?_
      obtain ⟨v7, e8, h⟩ := q_b1_some h
      refine r_iald hg dX12_rowsOfOrder_47 e6.2 e8 ?_
      refine r_aload_n hg 0 dX12_rowsOfOrder_48 rfl rfl ?_
      have e9 := ly_12_34 hX k_this
      refine r_getR hg dX12_rowsOfOrder_49 fl_X12_52 k_this rfl e9.1 ?_
      refine r_iload hg 2 dX12_rowsOfOrder_52 rfl ?_
      obtain ⟨v10, e11, h⟩ := q_b1_some h
      refine r_iald hg dX12_rowsOfOrder_54 e9.2 e11 ?_
      obtain ⟨I12, e13, h⟩ := q_b1_some h
      refine r_cV2v hg dX12_rowsOfOrder_55 mt_X12_dueIs ml_X12_437 mv_X12_dueIs k_this (s_X12_dueIs hΓ hX k_this e13) (q_room (Nat.le_of_ble_eq_true rfl) (Nat.le_of_ble_eq_true rfl)) ⟨Nat.zero_le _, Nat.zero_le _⟩ (Nat.le_of_ble_eq_true rfl) ?_
      refine r_iinc hg 2 (v := (x4 + (nI 1))) (L' := [(4, .int (x4 + (nI 1))), (0, .ref this), (3, .int x3)]) dX12_rowsOfOrder_58 rfl (by rw [ci_1]) (by decide) rfl ?_
      refine r_goto hg 24 dX12_rowsOfOrder_61 (by decide) ?_
      refine r_sub hg [1, 2, 0] rfl ?_
      exact hk24 _ _ _ h
theorem pl_X12_rowsOfOrder_24 {l : Launch} {Γ : qC} {g : qG} {z : Int32 × qI} {this : Nat} {x1 : Int32} {x2 : Int32} {X : qX} (hΓ : q_gm Γ) (hg : q_Ok l Γ RX12 cX12_rowsOfOrder 5 (q_rm 124 0 0) "rowsOfOrder" (some .int) g) (hr : q_Rt cX12_rowsOfOrder (some .int) (q_rm 124 0 0) (some (.int z.1), z.2, X) g) (hX : q_Lay X) (k_this : q_kd X this = some (14, 42)) : ∀ (n : Nat) (x3 : Int32) (x4 : Int32) (I : qI), q_fix (fun _ _ _ => none) (b_X12_rowsOfOrder_24 this x1 x2) n x3 x4 I = some z → g 0 0 24 [(0, .ref this), (3, .int x3), (4, .int x4)] [] I X := by
  intro n
  induction n with
  | zero =>
    intro x3 x4 I h
    cases (show (none : Option (Int32 × qI)) = some z from h)
  | succ n ih =>
    intro x3 x4 I h
    exact p_X12_rowsOfOrder_24 hΓ hg hr hX k_this ih _ _ _ h
def f_X12_rowsOfOrder (this : Nat) (x1 : Int32) (x2 : Int32) (I : qI) : Option (Int32 × qI) :=
  q_b1 (f_X12_isFund x1 x2) fun v1 =>
  if v1 = 0 then
    some ((-1000000001), I)
  else
    q_b2 (f_X12_findOrder this x1 x2 (nI 20000) I) fun v4 I5 =>
    q_fix (fun _ _ _ => none) (b_X12_rowsOfOrder_24 this x1 x2) q_fu v4 (nI 0) I5
set_option maxRecDepth 100000 in
set_option maxHeartbeats 4000000 in
theorem s_X12_rowsOfOrder {l : Launch} {Γ : qC} (hΓ : q_gm Γ) {X : qX} (hX : q_Lay X) {this : Nat} {x1 : Int32} {x2 : Int32} (k_this : q_kd X this = some (14, 42)) {I : qI} {z : Int32 × qI} (h : f_X12_rowsOfOrder this x1 x2 I = some z) : q_Sem l Γ (q_rm 124 0 0) yX12_rowsOfOrder cX12_rowsOfOrder 5 (some .int) [.ref this, .int x1, .int x2] I X (some (.int z.1), z.2, X) := by
  refine q_met (by decide) (Nat.le_of_ble_eq_true rfl) (fun g hg hr => ?_)
  unfold f_X12_rowsOfOrder at h
  show g 0 0 0 [(0, .ref this), (1, .int x1), (2, .int x2)] [] I X
  refine r_iload_n hg 1 dX12_rowsOfOrder_0 rfl rfl ?_
  refine r_iload_n hg 2 dX12_rowsOfOrder_1 rfl rfl ?_
  obtain ⟨v1, e2, h⟩ := q_b1_some h
  refine r_cS2i hg dX12_rowsOfOrder_2 mt_X12_isFund ⟨ml_X12_423, mst_X12_isFund⟩ (s_X12_isFund hΓ hX e2) (q_room (Nat.le_of_ble_eq_true rfl) (Nat.le_of_ble_eq_true rfl)) ⟨Nat.zero_le _, Nat.zero_le _⟩ (Nat.le_of_ble_eq_true rfl) ?_
  refine r_if_ne hg 11 dX12_rowsOfOrder_5 (by decide) (fun c3 => ?_) (fun c3 => ?_)
  · rw [if_neg c3] at h
    refine r_aload_n hg 0 dX12_rowsOfOrder_11 rfl rfl ?_
    refine r_iload_n hg 1 dX12_rowsOfOrder_12 rfl rfl ?_
    refine r_iload_n hg 2 dX12_rowsOfOrder_13 rfl rfl ?_
    refine r_sipush hg dX12_rowsOfOrder_14 cs_20000 ?_
    obtain ⟨v4, I5, e6, h⟩ := q_b2_some h
    refine r_cV3i hg dX12_rowsOfOrder_17 mt_X12_findOrder ml_X12_428 mv_X12_findOrder k_this (s_X12_findOrder hΓ hX k_this e6) (q_room (Nat.le_of_ble_eq_true rfl) (Nat.le_of_ble_eq_true rfl)) ⟨Nat.zero_le _, Nat.zero_le _⟩ (Nat.le_of_ble_eq_true rfl) ?_
    refine r_istore_n hg (L' := [(3, .int v4), (0, .ref this), (1, .int x1), (2, .int x2)]) dX12_rowsOfOrder_20 rfl (by decide) rfl ?_
    refine r_iconst hg dX12_rowsOfOrder_21 ci_0 ?_
    refine r_istore hg (L' := [(4, .int (nI 0)), (3, .int v4), (0, .ref this), (1, .int x1), (2, .int x2)]) dX12_rowsOfOrder_22 (by decide) rfl ?_
    refine r_sub hg [2, 1, 0] rfl ?_
    exact pl_X12_rowsOfOrder_24 hΓ hg hr hX k_this _ _ _ _ h
  · rw [if_pos (Classical.not_not.mp c3)] at h
    refine r_ldc hg dX12_rowsOfOrder_8 kc_X12_90 ?_
    exact r_ireturn hr dX12_rowsOfOrder_10 ⟨Nat.zero_le _, Nat.zero_le _⟩ ⟨_, rfl, rfl⟩ (by cases h; rfl)

def b_X12_both_10 (this : Nat) (x1 : Int32) (F_X12_both : Nat → Int32 → qI → Option (Int32 × qI)) (F_X12_either : Nat → Int32 → qI → Option (Int32 × qI)) (F_X12_part0 : Nat → Int32 → qI → Option (Int32 × qI)) (F_X12_sum : Nat → Int32 → qI → Option (Int32 × qI)) (F_X12_term : Nat → Int32 → qI → Option (Int32 × qI)) (F_X12_test : Nat → Int32 → qI → Option (Int32 × qI)) (k10 : qI → Option (Int32 × qI)) (I : qI) : Option (Int32 × qI) :=
  q_b1 (f_X12_isSign this (nI 38) I) fun v1 =>
  if v1 = 0 then
    some ((nI 1), I)
  else
    q_b1 (f_X12_next this I) fun I4 =>
    q_b2 (F_X12_test this x1 I4) fun v6 I7 =>
    if v6 = 0 then
      some ((nI 0), I7)
    else
      q_b1 (f_X12_step this (nI 2) (nI 38) I7) fun I10 =>
      k10 I10
set_option maxRecDepth 100000 in
set_option maxHeartbeats 4000000 in
theorem p_X12_both_10 {l : Launch} {Γ : qC} {g : qG} {z : Int32 × qI} {this : Nat} {x1 : Int32} {d : Nat} {F_X12_both : Nat → Int32 → qI → Option (Int32 × qI)} {F_X12_either : Nat → Int32 → qI → Option (Int32 × qI)} {F_X12_part0 : Nat → Int32 → qI → Option (Int32 × qI)} {F_X12_sum : Nat → Int32 → qI → Option (Int32 × qI)} {F_X12_term : Nat → Int32 → qI → Option (Int32 × qI)} {F_X12_test : Nat → Int32 → qI → Option (Int32 × qI)} {X : qX} (hΓ : q_gm Γ) (hg : q_Ok l Γ RX12 cX12_both 2 (q_rm (5 + (d + 1)) 0 0) "both" (some .boolean) g) (hr : q_Rt cX12_both (some .boolean) (q_rm (5 + (d + 1)) 0 0) (some (.int z.1), z.2, X) g) (hX : q_Lay X) (k_this : q_kd X this = some (14, 42)) (ih_X12_both : ∀ {X : qX} (_ : q_Lay X) {this : Nat} {x1 : Int32} (k_this : q_kd X this = some (14, 42)) {I : qI} {z : Int32 × qI}, F_X12_both this x1 I = some z → q_Sem l Γ (q_rm (5 + d) 0 0) yX12_both cX12_both 2 (some .boolean) [.ref this, .int x1] I X (some (.int z.1), z.2, X)) (ih_X12_either : ∀ {X : qX} (_ : q_Lay X) {this : Nat} {x1 : Int32} (k_this : q_kd X this = some (14, 42)) {I : qI} {z : Int32 × qI}, F_X12_either this x1 I = some z → q_Sem l Γ (q_rm (5 + d) 0 0) yX12_either cX12_either 2 (some .boolean) [.ref this, .int x1] I X (some (.int z.1), z.2, X)) (ih_X12_part0 : ∀ {X : qX} (_ : q_Lay X) {this : Nat} {x1 : Int32} (k_this : q_kd X this = some (14, 42)) {I : qI} {z : Int32 × qI}, F_X12_part0 this x1 I = some z → q_Sem l Γ (q_rm (5 + d) 0 0) yX12_part0 cX12_part0 2 (some .boolean) [.ref this, .int x1] I X (some (.int z.1), z.2, X)) (ih_X12_sum : ∀ {X : qX} (_ : q_Lay X) {this : Nat} {x1 : Int32} (k_this : q_kd X this = some (14, 42)) {I : qI} {z : Int32 × qI}, F_X12_sum this x1 I = some z → q_Sem l Γ (q_rm (5 + d) 0 0) yX12_sum cX12_sum 3 (some .boolean) [.ref this, .int x1] I X (some (.int z.1), z.2, X)) (ih_X12_term : ∀ {X : qX} (_ : q_Lay X) {this : Nat} {x1 : Int32} (k_this : q_kd X this = some (14, 42)) {I : qI} {z : Int32 × qI}, F_X12_term this x1 I = some z → q_Sem l Γ (q_rm (5 + d) 0 0) yX12_term cX12_term 3 (some .boolean) [.ref this, .int x1] I X (some (.int z.1), z.2, X)) (ih_X12_test : ∀ {X : qX} (_ : q_Lay X) {this : Nat} {x1 : Int32} (k_this : q_kd X this = some (14, 42)) {I : qI} {z : Int32 × qI}, F_X12_test this x1 I = some z → q_Sem l Γ (q_rm (5 + d) 0 0) yX12_test cX12_test 3 (some .boolean) [.ref this, .int x1] I X (some (.int z.1), z.2, X)) {k10 : qI → Option (Int32 × qI)} (hk10 : ∀ (I : qI), k10 I = some z → g 0 0 10 [(0, .ref this), (1, .int x1)] [] I X) (I : qI) (h : b_X12_both_10 this x1 F_X12_both F_X12_either F_X12_part0 F_X12_sum F_X12_term F_X12_test k10 I = some z) : g 0 0 10 [(0, .ref this), (1, .int x1)] [] I X := by
  unfold b_X12_both_10 at h
  refine r_aload_n hg 0 dX12_both_10 rfl rfl ?_
  refine r_bipush hg dX12_both_11 cb_38 ?_
  obtain ⟨v1, e2, h⟩ := q_b1_some h
  refine r_cV1i hg dX12_both_13 mt_X12_isSign ml_X12_260 mv_X12_isSign k_this (s_X12_isSign hΓ hX k_this e2) (q_room (by omega) (Nat.le_of_ble_eq_true rfl)) ⟨Nat.zero_le _, Nat.zero_le _⟩ (Nat.le_of_ble_eq_true rfl) ?_
  refine r_if_eq hg 43 dX12_both_16 (by decide) (fun c3 => ?_) (fun c3 => ?_)
  · rw [if_pos c3] at h
    refine r_iconst hg dX12_both_43 ci_1 ?_
    exact r_ireturn hr dX12_both_44 ⟨Nat.zero_le _, Nat.zero_le _⟩ ⟨_, rfl, bz_1.1⟩ (by cases h; rfl)
  · rw [if_neg c3] at h
    refine r_aload_n hg 0 dX12_both_19 rfl rfl ?_
    obtain ⟨I4, e5, h⟩ := q_b1_some h
    refine r_cV0v hg dX12_both_20 mt_X12_next ml_X12_263 mv_X12_next k_this (s_X12_next hΓ hX k_this e5) (q_room (by omega) (Nat.le_of_ble_eq_true rfl)) ⟨Nat.zero_le _, Nat.zero_le _⟩ (Nat.le_of_ble_eq_true rfl) ?_
    refine r_aload_n hg 0 dX12_both_23 rfl rfl ?_
    refine r_iload_n hg 1 dX12_both_24 rfl rfl ?_
    obtain ⟨v6, I7, e8, h⟩ := q_b2_some h
    refine r_cV1i hg dX12_both_25 mt_X12_test ml_X12_269 mv_X12_test k_this (ih_X12_test hX k_this e8) (q_room (by omega) (Nat.le_of_ble_eq_true rfl)) ⟨Nat.zero_le _, Nat.zero_le _⟩ (Nat.le_of_ble_eq_true rfl) ?_
    refine r_if_ne hg 33 dX12_both_28 (by decide) (fun c9 => ?_) (fun c9 => ?_)
    · rw [if_neg c9] at h
      refine r_aload_n hg 0 dX12_both_33 rfl rfl ?_
      refine r_iconst hg dX12_both_34 ci_2 ?_
      refine r_bipush hg dX12_both_35 cb_38 ?_
      obtain ⟨I10, e11, h⟩ := q_b1_some h
      refine r_cV2v hg dX12_both_37 mt_X12_step ml_X12_266 mv_X12_step k_this (s_X12_step hΓ hX k_this e11) (q_room (by omega) (Nat.le_of_ble_eq_true rfl)) ⟨Nat.zero_le _, Nat.zero_le _⟩ (Nat.le_of_ble_eq_true rfl) ?_
      refine r_goto hg 10 dX12_both_40 (by decide) ?_
      exact hk10 _ h
    · rw [if_pos (Classical.not_not.mp c9)] at h
      refine r_iconst hg dX12_both_31 ci_0 ?_
      exact r_ireturn hr dX12_both_32 ⟨Nat.zero_le _, Nat.zero_le _⟩ ⟨_, rfl, bz_0.1⟩ (by cases h; rfl)
theorem pl_X12_both_10 {l : Launch} {Γ : qC} {g : qG} {z : Int32 × qI} {this : Nat} {x1 : Int32} {d : Nat} {F_X12_both : Nat → Int32 → qI → Option (Int32 × qI)} {F_X12_either : Nat → Int32 → qI → Option (Int32 × qI)} {F_X12_part0 : Nat → Int32 → qI → Option (Int32 × qI)} {F_X12_sum : Nat → Int32 → qI → Option (Int32 × qI)} {F_X12_term : Nat → Int32 → qI → Option (Int32 × qI)} {F_X12_test : Nat → Int32 → qI → Option (Int32 × qI)} {X : qX} (hΓ : q_gm Γ) (hg : q_Ok l Γ RX12 cX12_both 2 (q_rm (5 + (d + 1)) 0 0) "both" (some .boolean) g) (hr : q_Rt cX12_both (some .boolean) (q_rm (5 + (d + 1)) 0 0) (some (.int z.1), z.2, X) g) (hX : q_Lay X) (k_this : q_kd X this = some (14, 42)) (ih_X12_both : ∀ {X : qX} (_ : q_Lay X) {this : Nat} {x1 : Int32} (k_this : q_kd X this = some (14, 42)) {I : qI} {z : Int32 × qI}, F_X12_both this x1 I = some z → q_Sem l Γ (q_rm (5 + d) 0 0) yX12_both cX12_both 2 (some .boolean) [.ref this, .int x1] I X (some (.int z.1), z.2, X)) (ih_X12_either : ∀ {X : qX} (_ : q_Lay X) {this : Nat} {x1 : Int32} (k_this : q_kd X this = some (14, 42)) {I : qI} {z : Int32 × qI}, F_X12_either this x1 I = some z → q_Sem l Γ (q_rm (5 + d) 0 0) yX12_either cX12_either 2 (some .boolean) [.ref this, .int x1] I X (some (.int z.1), z.2, X)) (ih_X12_part0 : ∀ {X : qX} (_ : q_Lay X) {this : Nat} {x1 : Int32} (k_this : q_kd X this = some (14, 42)) {I : qI} {z : Int32 × qI}, F_X12_part0 this x1 I = some z → q_Sem l Γ (q_rm (5 + d) 0 0) yX12_part0 cX12_part0 2 (some .boolean) [.ref this, .int x1] I X (some (.int z.1), z.2, X)) (ih_X12_sum : ∀ {X : qX} (_ : q_Lay X) {this : Nat} {x1 : Int32} (k_this : q_kd X this = some (14, 42)) {I : qI} {z : Int32 × qI}, F_X12_sum this x1 I = some z → q_Sem l Γ (q_rm (5 + d) 0 0) yX12_sum cX12_sum 3 (some .boolean) [.ref this, .int x1] I X (some (.int z.1), z.2, X)) (ih_X12_term : ∀ {X : qX} (_ : q_Lay X) {this : Nat} {x1 : Int32} (k_this : q_kd X this = some (14, 42)) {I : qI} {z : Int32 × qI}, F_X12_term this x1 I = some z → q_Sem l Γ (q_rm (5 + d) 0 0) yX12_term cX12_term 3 (some .boolean) [.ref this, .int x1] I X (some (.int z.1), z.2, X)) (ih_X12_test : ∀ {X : qX} (_ : q_Lay X) {this : Nat} {x1 : Int32} (k_this : q_kd X this = some (14, 42)) {I : qI} {z : Int32 × qI}, F_X12_test this x1 I = some z → q_Sem l Γ (q_rm (5 + d) 0 0) yX12_test cX12_test 3 (some .boolean) [.ref this, .int x1] I X (some (.int z.1), z.2, X)) : ∀ (n : Nat) (I : qI), q_fix (fun _ => none) (b_X12_both_10 this x1 F_X12_both F_X12_either F_X12_part0 F_X12_sum F_X12_term F_X12_test) n I = some z → g 0 0 10 [(0, .ref this), (1, .int x1)] [] I X := by
  intro n
  induction n with
  | zero =>
    intro I h
    cases (show (none : Option (Int32 × qI)) = some z from h)
  | succ n ih =>
    intro I h
    exact p_X12_both_10 hΓ hg hr hX k_this ih_X12_both ih_X12_either ih_X12_part0 ih_X12_sum ih_X12_term ih_X12_test ih _ h
def B_X12_both (F_X12_both : Nat → Int32 → qI → Option (Int32 × qI)) (F_X12_either : Nat → Int32 → qI → Option (Int32 × qI)) (F_X12_part0 : Nat → Int32 → qI → Option (Int32 × qI)) (F_X12_sum : Nat → Int32 → qI → Option (Int32 × qI)) (F_X12_term : Nat → Int32 → qI → Option (Int32 × qI)) (F_X12_test : Nat → Int32 → qI → Option (Int32 × qI)) (this : Nat) (x1 : Int32) (I : qI) : Option (Int32 × qI) :=
  q_b2 (F_X12_test this x1 I) fun v1 I2 =>
  if v1 = 0 then
    some ((nI 0), I2)
  else
    q_fix (fun _ => none) (b_X12_both_10 this x1 F_X12_both F_X12_either F_X12_part0 F_X12_sum F_X12_term F_X12_test) q_fu I2
set_option maxRecDepth 100000 in
set_option maxHeartbeats 4000000 in
theorem t_X12_both {l : Launch} {Γ : qC} {d : Nat} {F_X12_both : Nat → Int32 → qI → Option (Int32 × qI)} {F_X12_either : Nat → Int32 → qI → Option (Int32 × qI)} {F_X12_part0 : Nat → Int32 → qI → Option (Int32 × qI)} {F_X12_sum : Nat → Int32 → qI → Option (Int32 × qI)} {F_X12_term : Nat → Int32 → qI → Option (Int32 × qI)} {F_X12_test : Nat → Int32 → qI → Option (Int32 × qI)} (hΓ : q_gm Γ) (ih_X12_both : ∀ {X : qX} (_ : q_Lay X) {this : Nat} {x1 : Int32} (k_this : q_kd X this = some (14, 42)) {I : qI} {z : Int32 × qI}, F_X12_both this x1 I = some z → q_Sem l Γ (q_rm (5 + d) 0 0) yX12_both cX12_both 2 (some .boolean) [.ref this, .int x1] I X (some (.int z.1), z.2, X)) (ih_X12_either : ∀ {X : qX} (_ : q_Lay X) {this : Nat} {x1 : Int32} (k_this : q_kd X this = some (14, 42)) {I : qI} {z : Int32 × qI}, F_X12_either this x1 I = some z → q_Sem l Γ (q_rm (5 + d) 0 0) yX12_either cX12_either 2 (some .boolean) [.ref this, .int x1] I X (some (.int z.1), z.2, X)) (ih_X12_part0 : ∀ {X : qX} (_ : q_Lay X) {this : Nat} {x1 : Int32} (k_this : q_kd X this = some (14, 42)) {I : qI} {z : Int32 × qI}, F_X12_part0 this x1 I = some z → q_Sem l Γ (q_rm (5 + d) 0 0) yX12_part0 cX12_part0 2 (some .boolean) [.ref this, .int x1] I X (some (.int z.1), z.2, X)) (ih_X12_sum : ∀ {X : qX} (_ : q_Lay X) {this : Nat} {x1 : Int32} (k_this : q_kd X this = some (14, 42)) {I : qI} {z : Int32 × qI}, F_X12_sum this x1 I = some z → q_Sem l Γ (q_rm (5 + d) 0 0) yX12_sum cX12_sum 3 (some .boolean) [.ref this, .int x1] I X (some (.int z.1), z.2, X)) (ih_X12_term : ∀ {X : qX} (_ : q_Lay X) {this : Nat} {x1 : Int32} (k_this : q_kd X this = some (14, 42)) {I : qI} {z : Int32 × qI}, F_X12_term this x1 I = some z → q_Sem l Γ (q_rm (5 + d) 0 0) yX12_term cX12_term 3 (some .boolean) [.ref this, .int x1] I X (some (.int z.1), z.2, X)) (ih_X12_test : ∀ {X : qX} (_ : q_Lay X) {this : Nat} {x1 : Int32} (k_this : q_kd X this = some (14, 42)) {I : qI} {z : Int32 × qI}, F_X12_test this x1 I = some z → q_Sem l Γ (q_rm (5 + d) 0 0) yX12_test cX12_test 3 (some .boolean) [.ref this, .int x1] I X (some (.int z.1), z.2, X)) {X : qX} (hX : q_Lay X) {this : Nat} {x1 : Int32} (k_this : q_kd X this = some (14, 42)) {I : qI} {z : Int32 × qI} (h : B_X12_both F_X12_both F_X12_either F_X12_part0 F_X12_sum F_X12_term F_X12_test this x1 I = some z) : q_Sem l Γ (q_rm (5 + (d + 1)) 0 0) yX12_both cX12_both 2 (some .boolean) [.ref this, .int x1] I X (some (.int z.1), z.2, X) := by
  refine q_met (by decide) (Nat.le_of_ble_eq_true rfl) (fun g hg hr => ?_)
  unfold B_X12_both at h
  show g 0 0 0 [(0, .ref this), (1, .int x1)] [] I X
  refine r_aload_n hg 0 dX12_both_0 rfl rfl ?_
  refine r_iload_n hg 1 dX12_both_1 rfl rfl ?_
  obtain ⟨v1, I2, e3, h⟩ := q_b2_some h
  refine r_cV1i hg dX12_both_2 mt_X12_test ml_X12_269 mv_X12_test k_this (ih_X12_test hX k_this e3) (q_room (by omega) (Nat.le_of_ble_eq_true rfl)) ⟨Nat.zero_le _, Nat.zero_le _⟩ (Nat.le_of_ble_eq_true rfl) ?_
  refine r_if_ne hg 10 dX12_both_5 (by decide) (fun c4 => ?_) (fun c4 => ?_)
  · rw [if_neg c4] at h
    exact pl_X12_both_10 hΓ hg hr hX k_this ih_X12_both ih_X12_either ih_X12_part0 ih_X12_sum ih_X12_term ih_X12_test _ _ h
  · rw [if_pos (Classical.not_not.mp c4)] at h
    refine r_iconst hg dX12_both_8 ci_0 ?_
    exact r_ireturn hr dX12_both_9 ⟨Nat.zero_le _, Nat.zero_le _⟩ ⟨_, rfl, bz_0.1⟩ (by cases h; rfl)

def b_X12_either_10 (this : Nat) (x1 : Int32) (F_X12_both : Nat → Int32 → qI → Option (Int32 × qI)) (F_X12_either : Nat → Int32 → qI → Option (Int32 × qI)) (F_X12_part0 : Nat → Int32 → qI → Option (Int32 × qI)) (F_X12_sum : Nat → Int32 → qI → Option (Int32 × qI)) (F_X12_term : Nat → Int32 → qI → Option (Int32 × qI)) (F_X12_test : Nat → Int32 → qI → Option (Int32 × qI)) (k10 : qI → Option (Int32 × qI)) (I : qI) : Option (Int32 × qI) :=
  q_b1 (f_X12_isSign this (nI 124) I) fun v1 =>
  if v1 = 0 then
    some ((nI 1), I)
  else
    q_b1 (f_X12_next this I) fun I4 =>
    q_b2 (F_X12_both this x1 I4) fun v6 I7 =>
    if v6 = 0 then
      some ((nI 0), I7)
    else
      q_b1 (f_X12_step this (nI 2) (nI 124) I7) fun I10 =>
      k10 I10
set_option maxRecDepth 100000 in
set_option maxHeartbeats 4000000 in
theorem p_X12_either_10 {l : Launch} {Γ : qC} {g : qG} {z : Int32 × qI} {this : Nat} {x1 : Int32} {d : Nat} {F_X12_both : Nat → Int32 → qI → Option (Int32 × qI)} {F_X12_either : Nat → Int32 → qI → Option (Int32 × qI)} {F_X12_part0 : Nat → Int32 → qI → Option (Int32 × qI)} {F_X12_sum : Nat → Int32 → qI → Option (Int32 × qI)} {F_X12_term : Nat → Int32 → qI → Option (Int32 × qI)} {F_X12_test : Nat → Int32 → qI → Option (Int32 × qI)} {X : qX} (hΓ : q_gm Γ) (hg : q_Ok l Γ RX12 cX12_either 2 (q_rm (5 + (d + 1)) 0 0) "either" (some .boolean) g) (hr : q_Rt cX12_either (some .boolean) (q_rm (5 + (d + 1)) 0 0) (some (.int z.1), z.2, X) g) (hX : q_Lay X) (k_this : q_kd X this = some (14, 42)) (ih_X12_both : ∀ {X : qX} (_ : q_Lay X) {this : Nat} {x1 : Int32} (k_this : q_kd X this = some (14, 42)) {I : qI} {z : Int32 × qI}, F_X12_both this x1 I = some z → q_Sem l Γ (q_rm (5 + d) 0 0) yX12_both cX12_both 2 (some .boolean) [.ref this, .int x1] I X (some (.int z.1), z.2, X)) (ih_X12_either : ∀ {X : qX} (_ : q_Lay X) {this : Nat} {x1 : Int32} (k_this : q_kd X this = some (14, 42)) {I : qI} {z : Int32 × qI}, F_X12_either this x1 I = some z → q_Sem l Γ (q_rm (5 + d) 0 0) yX12_either cX12_either 2 (some .boolean) [.ref this, .int x1] I X (some (.int z.1), z.2, X)) (ih_X12_part0 : ∀ {X : qX} (_ : q_Lay X) {this : Nat} {x1 : Int32} (k_this : q_kd X this = some (14, 42)) {I : qI} {z : Int32 × qI}, F_X12_part0 this x1 I = some z → q_Sem l Γ (q_rm (5 + d) 0 0) yX12_part0 cX12_part0 2 (some .boolean) [.ref this, .int x1] I X (some (.int z.1), z.2, X)) (ih_X12_sum : ∀ {X : qX} (_ : q_Lay X) {this : Nat} {x1 : Int32} (k_this : q_kd X this = some (14, 42)) {I : qI} {z : Int32 × qI}, F_X12_sum this x1 I = some z → q_Sem l Γ (q_rm (5 + d) 0 0) yX12_sum cX12_sum 3 (some .boolean) [.ref this, .int x1] I X (some (.int z.1), z.2, X)) (ih_X12_term : ∀ {X : qX} (_ : q_Lay X) {this : Nat} {x1 : Int32} (k_this : q_kd X this = some (14, 42)) {I : qI} {z : Int32 × qI}, F_X12_term this x1 I = some z → q_Sem l Γ (q_rm (5 + d) 0 0) yX12_term cX12_term 3 (some .boolean) [.ref this, .int x1] I X (some (.int z.1), z.2, X)) (ih_X12_test : ∀ {X : qX} (_ : q_Lay X) {this : Nat} {x1 : Int32} (k_this : q_kd X this = some (14, 42)) {I : qI} {z : Int32 × qI}, F_X12_test this x1 I = some z → q_Sem l Γ (q_rm (5 + d) 0 0) yX12_test cX12_test 3 (some .boolean) [.ref this, .int x1] I X (some (.int z.1), z.2, X)) {k10 : qI → Option (Int32 × qI)} (hk10 : ∀ (I : qI), k10 I = some z → g 0 0 10 [(0, .ref this), (1, .int x1)] [] I X) (I : qI) (h : b_X12_either_10 this x1 F_X12_both F_X12_either F_X12_part0 F_X12_sum F_X12_term F_X12_test k10 I = some z) : g 0 0 10 [(0, .ref this), (1, .int x1)] [] I X := by
  unfold b_X12_either_10 at h
  refine r_aload_n hg 0 dX12_either_10 rfl rfl ?_
  refine r_bipush hg dX12_either_11 cb_124 ?_
  obtain ⟨v1, e2, h⟩ := q_b1_some h
  refine r_cV1i hg dX12_either_13 mt_X12_isSign ml_X12_260 mv_X12_isSign k_this (s_X12_isSign hΓ hX k_this e2) (q_room (by omega) (Nat.le_of_ble_eq_true rfl)) ⟨Nat.zero_le _, Nat.zero_le _⟩ (Nat.le_of_ble_eq_true rfl) ?_
  refine r_if_eq hg 43 dX12_either_16 (by decide) (fun c3 => ?_) (fun c3 => ?_)
  · rw [if_pos c3] at h
    refine r_iconst hg dX12_either_43 ci_1 ?_
    exact r_ireturn hr dX12_either_44 ⟨Nat.zero_le _, Nat.zero_le _⟩ ⟨_, rfl, bz_1.1⟩ (by cases h; rfl)
  · rw [if_neg c3] at h
    refine r_aload_n hg 0 dX12_either_19 rfl rfl ?_
    obtain ⟨I4, e5, h⟩ := q_b1_some h
    refine r_cV0v hg dX12_either_20 mt_X12_next ml_X12_263 mv_X12_next k_this (s_X12_next hΓ hX k_this e5) (q_room (by omega) (Nat.le_of_ble_eq_true rfl)) ⟨Nat.zero_le _, Nat.zero_le _⟩ (Nat.le_of_ble_eq_true rfl) ?_
    refine r_aload_n hg 0 dX12_either_23 rfl rfl ?_
    refine r_iload_n hg 1 dX12_either_24 rfl rfl ?_
    obtain ⟨v6, I7, e8, h⟩ := q_b2_some h
    refine r_cV1i hg dX12_either_25 mt_X12_both ml_X12_257 mv_X12_both k_this (ih_X12_both hX k_this e8) (q_room (by omega) (Nat.le_of_ble_eq_true rfl)) ⟨Nat.zero_le _, Nat.zero_le _⟩ (Nat.le_of_ble_eq_true rfl) ?_
    refine r_if_ne hg 33 dX12_either_28 (by decide) (fun c9 => ?_) (fun c9 => ?_)
    · rw [if_neg c9] at h
      refine r_aload_n hg 0 dX12_either_33 rfl rfl ?_
      refine r_iconst hg dX12_either_34 ci_2 ?_
      refine r_bipush hg dX12_either_35 cb_124 ?_
      obtain ⟨I10, e11, h⟩ := q_b1_some h
      refine r_cV2v hg dX12_either_37 mt_X12_step ml_X12_266 mv_X12_step k_this (s_X12_step hΓ hX k_this e11) (q_room (by omega) (Nat.le_of_ble_eq_true rfl)) ⟨Nat.zero_le _, Nat.zero_le _⟩ (Nat.le_of_ble_eq_true rfl) ?_
      refine r_goto hg 10 dX12_either_40 (by decide) ?_
      exact hk10 _ h
    · rw [if_pos (Classical.not_not.mp c9)] at h
      refine r_iconst hg dX12_either_31 ci_0 ?_
      exact r_ireturn hr dX12_either_32 ⟨Nat.zero_le _, Nat.zero_le _⟩ ⟨_, rfl, bz_0.1⟩ (by cases h; rfl)
theorem pl_X12_either_10 {l : Launch} {Γ : qC} {g : qG} {z : Int32 × qI} {this : Nat} {x1 : Int32} {d : Nat} {F_X12_both : Nat → Int32 → qI → Option (Int32 × qI)} {F_X12_either : Nat → Int32 → qI → Option (Int32 × qI)} {F_X12_part0 : Nat → Int32 → qI → Option (Int32 × qI)} {F_X12_sum : Nat → Int32 → qI → Option (Int32 × qI)} {F_X12_term : Nat → Int32 → qI → Option (Int32 × qI)} {F_X12_test : Nat → Int32 → qI → Option (Int32 × qI)} {X : qX} (hΓ : q_gm Γ) (hg : q_Ok l Γ RX12 cX12_either 2 (q_rm (5 + (d + 1)) 0 0) "either" (some .boolean) g) (hr : q_Rt cX12_either (some .boolean) (q_rm (5 + (d + 1)) 0 0) (some (.int z.1), z.2, X) g) (hX : q_Lay X) (k_this : q_kd X this = some (14, 42)) (ih_X12_both : ∀ {X : qX} (_ : q_Lay X) {this : Nat} {x1 : Int32} (k_this : q_kd X this = some (14, 42)) {I : qI} {z : Int32 × qI}, F_X12_both this x1 I = some z → q_Sem l Γ (q_rm (5 + d) 0 0) yX12_both cX12_both 2 (some .boolean) [.ref this, .int x1] I X (some (.int z.1), z.2, X)) (ih_X12_either : ∀ {X : qX} (_ : q_Lay X) {this : Nat} {x1 : Int32} (k_this : q_kd X this = some (14, 42)) {I : qI} {z : Int32 × qI}, F_X12_either this x1 I = some z → q_Sem l Γ (q_rm (5 + d) 0 0) yX12_either cX12_either 2 (some .boolean) [.ref this, .int x1] I X (some (.int z.1), z.2, X)) (ih_X12_part0 : ∀ {X : qX} (_ : q_Lay X) {this : Nat} {x1 : Int32} (k_this : q_kd X this = some (14, 42)) {I : qI} {z : Int32 × qI}, F_X12_part0 this x1 I = some z → q_Sem l Γ (q_rm (5 + d) 0 0) yX12_part0 cX12_part0 2 (some .boolean) [.ref this, .int x1] I X (some (.int z.1), z.2, X)) (ih_X12_sum : ∀ {X : qX} (_ : q_Lay X) {this : Nat} {x1 : Int32} (k_this : q_kd X this = some (14, 42)) {I : qI} {z : Int32 × qI}, F_X12_sum this x1 I = some z → q_Sem l Γ (q_rm (5 + d) 0 0) yX12_sum cX12_sum 3 (some .boolean) [.ref this, .int x1] I X (some (.int z.1), z.2, X)) (ih_X12_term : ∀ {X : qX} (_ : q_Lay X) {this : Nat} {x1 : Int32} (k_this : q_kd X this = some (14, 42)) {I : qI} {z : Int32 × qI}, F_X12_term this x1 I = some z → q_Sem l Γ (q_rm (5 + d) 0 0) yX12_term cX12_term 3 (some .boolean) [.ref this, .int x1] I X (some (.int z.1), z.2, X)) (ih_X12_test : ∀ {X : qX} (_ : q_Lay X) {this : Nat} {x1 : Int32} (k_this : q_kd X this = some (14, 42)) {I : qI} {z : Int32 × qI}, F_X12_test this x1 I = some z → q_Sem l Γ (q_rm (5 + d) 0 0) yX12_test cX12_test 3 (some .boolean) [.ref this, .int x1] I X (some (.int z.1), z.2, X)) : ∀ (n : Nat) (I : qI), q_fix (fun _ => none) (b_X12_either_10 this x1 F_X12_both F_X12_either F_X12_part0 F_X12_sum F_X12_term F_X12_test) n I = some z → g 0 0 10 [(0, .ref this), (1, .int x1)] [] I X := by
  intro n
  induction n with
  | zero =>
    intro I h
    cases (show (none : Option (Int32 × qI)) = some z from h)
  | succ n ih =>
    intro I h
    exact p_X12_either_10 hΓ hg hr hX k_this ih_X12_both ih_X12_either ih_X12_part0 ih_X12_sum ih_X12_term ih_X12_test ih _ h
def B_X12_either (F_X12_both : Nat → Int32 → qI → Option (Int32 × qI)) (F_X12_either : Nat → Int32 → qI → Option (Int32 × qI)) (F_X12_part0 : Nat → Int32 → qI → Option (Int32 × qI)) (F_X12_sum : Nat → Int32 → qI → Option (Int32 × qI)) (F_X12_term : Nat → Int32 → qI → Option (Int32 × qI)) (F_X12_test : Nat → Int32 → qI → Option (Int32 × qI)) (this : Nat) (x1 : Int32) (I : qI) : Option (Int32 × qI) :=
  q_b2 (F_X12_both this x1 I) fun v1 I2 =>
  if v1 = 0 then
    some ((nI 0), I2)
  else
    q_fix (fun _ => none) (b_X12_either_10 this x1 F_X12_both F_X12_either F_X12_part0 F_X12_sum F_X12_term F_X12_test) q_fu I2
set_option maxRecDepth 100000 in
set_option maxHeartbeats 4000000 in
theorem t_X12_either {l : Launch} {Γ : qC} {d : Nat} {F_X12_both : Nat → Int32 → qI → Option (Int32 × qI)} {F_X12_either : Nat → Int32 → qI → Option (Int32 × qI)} {F_X12_part0 : Nat → Int32 → qI → Option (Int32 × qI)} {F_X12_sum : Nat → Int32 → qI → Option (Int32 × qI)} {F_X12_term : Nat → Int32 → qI → Option (Int32 × qI)} {F_X12_test : Nat → Int32 → qI → Option (Int32 × qI)} (hΓ : q_gm Γ) (ih_X12_both : ∀ {X : qX} (_ : q_Lay X) {this : Nat} {x1 : Int32} (k_this : q_kd X this = some (14, 42)) {I : qI} {z : Int32 × qI}, F_X12_both this x1 I = some z → q_Sem l Γ (q_rm (5 + d) 0 0) yX12_both cX12_both 2 (some .boolean) [.ref this, .int x1] I X (some (.int z.1), z.2, X)) (ih_X12_either : ∀ {X : qX} (_ : q_Lay X) {this : Nat} {x1 : Int32} (k_this : q_kd X this = some (14, 42)) {I : qI} {z : Int32 × qI}, F_X12_either this x1 I = some z → q_Sem l Γ (q_rm (5 + d) 0 0) yX12_either cX12_either 2 (some .boolean) [.ref this, .int x1] I X (some (.int z.1), z.2, X)) (ih_X12_part0 : ∀ {X : qX} (_ : q_Lay X) {this : Nat} {x1 : Int32} (k_this : q_kd X this = some (14, 42)) {I : qI} {z : Int32 × qI}, F_X12_part0 this x1 I = some z → q_Sem l Γ (q_rm (5 + d) 0 0) yX12_part0 cX12_part0 2 (some .boolean) [.ref this, .int x1] I X (some (.int z.1), z.2, X)) (ih_X12_sum : ∀ {X : qX} (_ : q_Lay X) {this : Nat} {x1 : Int32} (k_this : q_kd X this = some (14, 42)) {I : qI} {z : Int32 × qI}, F_X12_sum this x1 I = some z → q_Sem l Γ (q_rm (5 + d) 0 0) yX12_sum cX12_sum 3 (some .boolean) [.ref this, .int x1] I X (some (.int z.1), z.2, X)) (ih_X12_term : ∀ {X : qX} (_ : q_Lay X) {this : Nat} {x1 : Int32} (k_this : q_kd X this = some (14, 42)) {I : qI} {z : Int32 × qI}, F_X12_term this x1 I = some z → q_Sem l Γ (q_rm (5 + d) 0 0) yX12_term cX12_term 3 (some .boolean) [.ref this, .int x1] I X (some (.int z.1), z.2, X)) (ih_X12_test : ∀ {X : qX} (_ : q_Lay X) {this : Nat} {x1 : Int32} (k_this : q_kd X this = some (14, 42)) {I : qI} {z : Int32 × qI}, F_X12_test this x1 I = some z → q_Sem l Γ (q_rm (5 + d) 0 0) yX12_test cX12_test 3 (some .boolean) [.ref this, .int x1] I X (some (.int z.1), z.2, X)) {X : qX} (hX : q_Lay X) {this : Nat} {x1 : Int32} (k_this : q_kd X this = some (14, 42)) {I : qI} {z : Int32 × qI} (h : B_X12_either F_X12_both F_X12_either F_X12_part0 F_X12_sum F_X12_term F_X12_test this x1 I = some z) : q_Sem l Γ (q_rm (5 + (d + 1)) 0 0) yX12_either cX12_either 2 (some .boolean) [.ref this, .int x1] I X (some (.int z.1), z.2, X) := by
  refine q_met (by decide) (Nat.le_of_ble_eq_true rfl) (fun g hg hr => ?_)
  unfold B_X12_either at h
  show g 0 0 0 [(0, .ref this), (1, .int x1)] [] I X
  refine r_aload_n hg 0 dX12_either_0 rfl rfl ?_
  refine r_iload_n hg 1 dX12_either_1 rfl rfl ?_
  obtain ⟨v1, I2, e3, h⟩ := q_b2_some h
  refine r_cV1i hg dX12_either_2 mt_X12_both ml_X12_257 mv_X12_both k_this (ih_X12_both hX k_this e3) (q_room (by omega) (Nat.le_of_ble_eq_true rfl)) ⟨Nat.zero_le _, Nat.zero_le _⟩ (Nat.le_of_ble_eq_true rfl) ?_
  refine r_if_ne hg 10 dX12_either_5 (by decide) (fun c4 => ?_) (fun c4 => ?_)
  · rw [if_neg c4] at h
    exact pl_X12_either_10 hΓ hg hr hX k_this ih_X12_both ih_X12_either ih_X12_part0 ih_X12_sum ih_X12_term ih_X12_test _ _ h
  · rw [if_pos (Classical.not_not.mp c4)] at h
    refine r_iconst hg dX12_either_8 ci_0 ?_
    exact r_ireturn hr dX12_either_9 ⟨Nat.zero_le _, Nat.zero_le _⟩ ⟨_, rfl, bz_0.1⟩ (by cases h; rfl)

def b_X12_part0_145 (this : Nat) (x1 : Int32) (F_X12_both : Nat → Int32 → qI → Option (Int32 × qI)) (F_X12_either : Nat → Int32 → qI → Option (Int32 × qI)) (F_X12_part0 : Nat → Int32 → qI → Option (Int32 × qI)) (F_X12_sum : Nat → Int32 → qI → Option (Int32 × qI)) (F_X12_term : Nat → Int32 → qI → Option (Int32 × qI)) (F_X12_test : Nat → Int32 → qI → Option (Int32 × qI)) (I : qI) : Option (Int32 × qI) :=
  q_b1 (f_X12_isSign this (nI 40) I) fun v1 =>
  if v1 = 0 then
    some ((nI 0), I)
  else
    if (I this 20) = (nI 8) then
      some ((nI 0), I)
    else
      q_b1 (some (q_up I this 20 ((I this 20) + (nI 1)))) fun I5 =>
      q_b1 (f_X12_next this I5) fun I7 =>
      q_b2 (F_X12_either this x1 I7) fun v9 I10 =>
      if v9 = 0 then
        some ((nI 0), I10)
      else
        q_b1 (f_X12_isSign this (nI 41) I10) fun v13 =>
        if v13 = 0 then
          some ((nI 0), I10)
        else
          q_b1 (some (q_up I10 this 20 ((I10 this 20) - (nI 1)))) fun I16 =>
          q_b1 (f_X12_next this I16) fun I18 =>
          some ((nI 1), I18)
set_option maxRecDepth 100000 in
set_option maxHeartbeats 4000000 in
theorem p_X12_part0_145 {l : Launch} {Γ : qC} {g : qG} {z : Int32 × qI} {this : Nat} {x1 : Int32} {d : Nat} {F_X12_both : Nat → Int32 → qI → Option (Int32 × qI)} {F_X12_either : Nat → Int32 → qI → Option (Int32 × qI)} {F_X12_part0 : Nat → Int32 → qI → Option (Int32 × qI)} {F_X12_sum : Nat → Int32 → qI → Option (Int32 × qI)} {F_X12_term : Nat → Int32 → qI → Option (Int32 × qI)} {F_X12_test : Nat → Int32 → qI → Option (Int32 × qI)} {X : qX} (hΓ : q_gm Γ) (hg : q_Ok l Γ RX12 cX12_part0 2 (q_rm (5 + (d + 1)) 0 0) "part0" (some .boolean) g) (hr : q_Rt cX12_part0 (some .boolean) (q_rm (5 + (d + 1)) 0 0) (some (.int z.1), z.2, X) g) (hX : q_Lay X) (k_this : q_kd X this = some (14, 42)) (ih_X12_both : ∀ {X : qX} (_ : q_Lay X) {this : Nat} {x1 : Int32} (k_this : q_kd X this = some (14, 42)) {I : qI} {z : Int32 × qI}, F_X12_both this x1 I = some z → q_Sem l Γ (q_rm (5 + d) 0 0) yX12_both cX12_both 2 (some .boolean) [.ref this, .int x1] I X (some (.int z.1), z.2, X)) (ih_X12_either : ∀ {X : qX} (_ : q_Lay X) {this : Nat} {x1 : Int32} (k_this : q_kd X this = some (14, 42)) {I : qI} {z : Int32 × qI}, F_X12_either this x1 I = some z → q_Sem l Γ (q_rm (5 + d) 0 0) yX12_either cX12_either 2 (some .boolean) [.ref this, .int x1] I X (some (.int z.1), z.2, X)) (ih_X12_part0 : ∀ {X : qX} (_ : q_Lay X) {this : Nat} {x1 : Int32} (k_this : q_kd X this = some (14, 42)) {I : qI} {z : Int32 × qI}, F_X12_part0 this x1 I = some z → q_Sem l Γ (q_rm (5 + d) 0 0) yX12_part0 cX12_part0 2 (some .boolean) [.ref this, .int x1] I X (some (.int z.1), z.2, X)) (ih_X12_sum : ∀ {X : qX} (_ : q_Lay X) {this : Nat} {x1 : Int32} (k_this : q_kd X this = some (14, 42)) {I : qI} {z : Int32 × qI}, F_X12_sum this x1 I = some z → q_Sem l Γ (q_rm (5 + d) 0 0) yX12_sum cX12_sum 3 (some .boolean) [.ref this, .int x1] I X (some (.int z.1), z.2, X)) (ih_X12_term : ∀ {X : qX} (_ : q_Lay X) {this : Nat} {x1 : Int32} (k_this : q_kd X this = some (14, 42)) {I : qI} {z : Int32 × qI}, F_X12_term this x1 I = some z → q_Sem l Γ (q_rm (5 + d) 0 0) yX12_term cX12_term 3 (some .boolean) [.ref this, .int x1] I X (some (.int z.1), z.2, X)) (ih_X12_test : ∀ {X : qX} (_ : q_Lay X) {this : Nat} {x1 : Int32} (k_this : q_kd X this = some (14, 42)) {I : qI} {z : Int32 × qI}, F_X12_test this x1 I = some z → q_Sem l Γ (q_rm (5 + d) 0 0) yX12_test cX12_test 3 (some .boolean) [.ref this, .int x1] I X (some (.int z.1), z.2, X)) (I : qI) (h : b_X12_part0_145 this x1 F_X12_both F_X12_either F_X12_part0 F_X12_sum F_X12_term F_X12_test I = some z) : g 0 0 145 [(0, .ref this), (1, .int x1)] [] I X := by
  unfold b_X12_part0_145 at h
  refine r_aload_n hg 0 dX12_part0_145 rfl rfl ?_
  refine r_bipush hg dX12_part0_146 cb_40 ?_
  obtain ⟨v1, e2, h⟩ := q_b1_some h
  refine r_cV1i hg dX12_part0_148 mt_X12_isSign ml_X12_260 mv_X12_isSign k_this (s_X12_isSign hΓ hX k_this e2) (q_room (by omega) (Nat.le_of_ble_eq_true rfl)) ⟨Nat.zero_le _, Nat.zero_le _⟩ (Nat.le_of_ble_eq_true rfl) ?_
  refine r_if_eq hg 163 dX12_part0_151 (by decide) (fun c3 => ?_) (fun c3 => ?_)
  · rw [if_pos c3] at h
    refine r_iconst hg dX12_part0_163 ci_0 ?_
    exact r_ireturn hr dX12_part0_164 ⟨Nat.zero_le _, Nat.zero_le _⟩ ⟨_, rfl, bz_0.1⟩ (by cases h; rfl)
  · rw [if_neg c3] at h
    refine r_aload_n hg 0 dX12_part0_154 rfl rfl ?_
    refine r_getI hg dX12_part0_155 fl_X12_291 k_this rfl ?_
    refine r_bipush hg dX12_part0_158 cb_8 ?_
    refine r_icmp_ne hg 165 dX12_part0_160 (by decide) (fun c4 => ?_) (fun c4 => ?_)
    · rw [if_neg c4] at h
      refine r_aload_n hg 0 dX12_part0_165 rfl rfl ?_
      refine r_dup hg dX12_part0_166 rfl ?_
      refine r_getI hg dX12_part0_167 fl_X12_291 k_this rfl ?_
      refine r_iconst hg dX12_part0_170 ci_1 ?_
      refine r_iadd hg dX12_part0_171 ?_
      obtain ⟨I5, e6, h⟩ := q_b1_some h
      obtain rfl := Option.some.inj e6
      refine r_putI hg dX12_part0_172 fl_X12_291 k_this rfl ⟨rfl, rfl⟩ ?_
      refine r_aload_n hg 0 dX12_part0_175 rfl rfl ?_
      obtain ⟨I7, e8, h⟩ := q_b1_some h
      refine r_cV0v hg dX12_part0_176 mt_X12_next ml_X12_263 mv_X12_next k_this (s_X12_next hΓ hX k_this e8) (q_room (by omega) (Nat.le_of_ble_eq_true rfl)) ⟨Nat.zero_le _, Nat.zero_le _⟩ (Nat.le_of_ble_eq_true rfl) ?_
      refine r_aload_n hg 0 dX12_part0_179 rfl rfl ?_
      refine r_iload_n hg 1 dX12_part0_180 rfl rfl ?_
      obtain ⟨v9, I10, e11, h⟩ := q_b2_some h
      refine r_cV1i hg dX12_part0_181 mt_X12_either ml_X12_294 mv_X12_either k_this (ih_X12_either hX k_this e11) (q_room (by omega) (Nat.le_of_ble_eq_true rfl)) ⟨Nat.zero_le _, Nat.zero_le _⟩ (Nat.le_of_ble_eq_true rfl) ?_
      refine r_if_eq hg 196 dX12_part0_184 (by decide) (fun c12 => ?_) (fun c12 => ?_)
      · rw [if_pos c12] at h
        refine r_iconst hg dX12_part0_196 ci_0 ?_
        exact r_ireturn hr dX12_part0_197 ⟨Nat.zero_le _, Nat.zero_le _⟩ ⟨_, rfl, bz_0.1⟩ (by cases h; rfl)
      · rw [if_neg c12] at h
        refine r_aload_n hg 0 dX12_part0_187 rfl rfl ?_
        refine r_bipush hg dX12_part0_188 cb_41 ?_
        obtain ⟨v13, e14, h⟩ := q_b1_some h
        refine r_cV1i hg dX12_part0_190 mt_X12_isSign ml_X12_260 mv_X12_isSign k_this (s_X12_isSign hΓ hX k_this e14) (q_room (by omega) (Nat.le_of_ble_eq_true rfl)) ⟨Nat.zero_le _, Nat.zero_le _⟩ (Nat.le_of_ble_eq_true rfl) ?_
        refine r_if_ne hg 198 dX12_part0_193 (by decide) (fun c15 => ?_) (fun c15 => ?_)
        · rw [if_neg c15] at h
          refine r_aload_n hg 0 dX12_part0_198 rfl rfl ?_
          refine r_dup hg dX12_part0_199 rfl ?_
          refine r_getI hg dX12_part0_200 fl_X12_291 k_this rfl ?_
          refine r_iconst hg dX12_part0_203 ci_1 ?_
          refine r_isub hg dX12_part0_204 ?_
          obtain ⟨I16, e17, h⟩ := q_b1_some h
          obtain rfl := Option.some.inj e17
          refine r_putI hg dX12_part0_205 fl_X12_291 k_this rfl ⟨rfl, rfl⟩ ?_
          refine r_aload_n hg 0 dX12_part0_208 rfl rfl ?_
          obtain ⟨I18, e19, h⟩ := q_b1_some h
          refine r_cV0v hg dX12_part0_209 mt_X12_next ml_X12_263 mv_X12_next k_this (s_X12_next hΓ hX k_this e19) (q_room (by omega) (Nat.le_of_ble_eq_true rfl)) ⟨Nat.zero_le _, Nat.zero_le _⟩ (Nat.le_of_ble_eq_true rfl) ?_
          refine r_iconst hg dX12_part0_212 ci_1 ?_
          exact r_ireturn hr dX12_part0_213 ⟨Nat.zero_le _, Nat.zero_le _⟩ ⟨_, rfl, bz_1.1⟩ (by cases h; rfl)
        · rw [if_pos (Classical.not_not.mp c15)] at h
          refine r_iconst hg dX12_part0_196 ci_0 ?_
          exact r_ireturn hr dX12_part0_197 ⟨Nat.zero_le _, Nat.zero_le _⟩ ⟨_, rfl, bz_0.1⟩ (by cases h; rfl)
    · rw [if_pos (Classical.not_not.mp c4)] at h
      refine r_iconst hg dX12_part0_163 ci_0 ?_
      exact r_ireturn hr dX12_part0_164 ⟨Nat.zero_le _, Nat.zero_le _⟩ ⟨_, rfl, bz_0.1⟩ (by cases h; rfl)
def b_X12_part0_84 (this : Nat) (x1 : Int32) (F_X12_both : Nat → Int32 → qI → Option (Int32 × qI)) (F_X12_either : Nat → Int32 → qI → Option (Int32 × qI)) (F_X12_part0 : Nat → Int32 → qI → Option (Int32 × qI)) (F_X12_sum : Nat → Int32 → qI → Option (Int32 × qI)) (F_X12_term : Nat → Int32 → qI → Option (Int32 × qI)) (F_X12_test : Nat → Int32 → qI → Option (Int32 × qI)) (I : qI) : Option (Int32 × qI) :=
  q_b1 (f_X12_isSign this (nI 33) I) fun v1 =>
  if v1 = 0 then
    b_X12_part0_145 this x1 F_X12_both F_X12_either F_X12_part0 F_X12_sum F_X12_term F_X12_test I
  else
    if (nI 8) ≤ (I this 21) then
      b_X12_part0_145 this x1 F_X12_both F_X12_either F_X12_part0 F_X12_sum F_X12_term F_X12_test I
    else
      q_b1 (some (q_up I this 21 ((I this 21) + (nI 1)))) fun I5 =>
      q_b1 (f_X12_next this I5) fun I7 =>
      q_b2 (F_X12_part0 this x1 I7) fun v9 I10 =>
      if v9 = 0 then
        some ((nI 0), I10)
      else
        q_b1 (some (q_up I10 this 21 ((I10 this 21) - (nI 1)))) fun I13 =>
        q_b1 (f_X12_step this (nI 2) (nI 33) I13) fun I15 =>
        some ((nI 1), I15)
set_option maxRecDepth 100000 in
set_option maxHeartbeats 4000000 in
theorem p_X12_part0_84 {l : Launch} {Γ : qC} {g : qG} {z : Int32 × qI} {this : Nat} {x1 : Int32} {d : Nat} {F_X12_both : Nat → Int32 → qI → Option (Int32 × qI)} {F_X12_either : Nat → Int32 → qI → Option (Int32 × qI)} {F_X12_part0 : Nat → Int32 → qI → Option (Int32 × qI)} {F_X12_sum : Nat → Int32 → qI → Option (Int32 × qI)} {F_X12_term : Nat → Int32 → qI → Option (Int32 × qI)} {F_X12_test : Nat → Int32 → qI → Option (Int32 × qI)} {X : qX} (hΓ : q_gm Γ) (hg : q_Ok l Γ RX12 cX12_part0 2 (q_rm (5 + (d + 1)) 0 0) "part0" (some .boolean) g) (hr : q_Rt cX12_part0 (some .boolean) (q_rm (5 + (d + 1)) 0 0) (some (.int z.1), z.2, X) g) (hX : q_Lay X) (k_this : q_kd X this = some (14, 42)) (ih_X12_both : ∀ {X : qX} (_ : q_Lay X) {this : Nat} {x1 : Int32} (k_this : q_kd X this = some (14, 42)) {I : qI} {z : Int32 × qI}, F_X12_both this x1 I = some z → q_Sem l Γ (q_rm (5 + d) 0 0) yX12_both cX12_both 2 (some .boolean) [.ref this, .int x1] I X (some (.int z.1), z.2, X)) (ih_X12_either : ∀ {X : qX} (_ : q_Lay X) {this : Nat} {x1 : Int32} (k_this : q_kd X this = some (14, 42)) {I : qI} {z : Int32 × qI}, F_X12_either this x1 I = some z → q_Sem l Γ (q_rm (5 + d) 0 0) yX12_either cX12_either 2 (some .boolean) [.ref this, .int x1] I X (some (.int z.1), z.2, X)) (ih_X12_part0 : ∀ {X : qX} (_ : q_Lay X) {this : Nat} {x1 : Int32} (k_this : q_kd X this = some (14, 42)) {I : qI} {z : Int32 × qI}, F_X12_part0 this x1 I = some z → q_Sem l Γ (q_rm (5 + d) 0 0) yX12_part0 cX12_part0 2 (some .boolean) [.ref this, .int x1] I X (some (.int z.1), z.2, X)) (ih_X12_sum : ∀ {X : qX} (_ : q_Lay X) {this : Nat} {x1 : Int32} (k_this : q_kd X this = some (14, 42)) {I : qI} {z : Int32 × qI}, F_X12_sum this x1 I = some z → q_Sem l Γ (q_rm (5 + d) 0 0) yX12_sum cX12_sum 3 (some .boolean) [.ref this, .int x1] I X (some (.int z.1), z.2, X)) (ih_X12_term : ∀ {X : qX} (_ : q_Lay X) {this : Nat} {x1 : Int32} (k_this : q_kd X this = some (14, 42)) {I : qI} {z : Int32 × qI}, F_X12_term this x1 I = some z → q_Sem l Γ (q_rm (5 + d) 0 0) yX12_term cX12_term 3 (some .boolean) [.ref this, .int x1] I X (some (.int z.1), z.2, X)) (ih_X12_test : ∀ {X : qX} (_ : q_Lay X) {this : Nat} {x1 : Int32} (k_this : q_kd X this = some (14, 42)) {I : qI} {z : Int32 × qI}, F_X12_test this x1 I = some z → q_Sem l Γ (q_rm (5 + d) 0 0) yX12_test cX12_test 3 (some .boolean) [.ref this, .int x1] I X (some (.int z.1), z.2, X)) (I : qI) (h : b_X12_part0_84 this x1 F_X12_both F_X12_either F_X12_part0 F_X12_sum F_X12_term F_X12_test I = some z) : g 0 0 84 [(0, .ref this), (1, .int x1)] [] I X := by
  unfold b_X12_part0_84 at h
  refine r_aload_n hg 0 dX12_part0_84 rfl rfl ?_
  refine r_bipush hg dX12_part0_85 cb_33 ?_
  obtain ⟨v1, e2, h⟩ := q_b1_some h
  refine r_cV1i hg dX12_part0_87 mt_X12_isSign ml_X12_260 mv_X12_isSign k_this (s_X12_isSign hΓ hX k_this e2) (q_room (by omega) (Nat.le_of_ble_eq_true rfl)) ⟨Nat.zero_le _, Nat.zero_le _⟩ (Nat.le_of_ble_eq_true rfl) ?_
  refine r_if_eq hg 145 dX12_part0_90 (by decide) (fun c3 => ?_) (fun c3 => ?_)
  · rw [if_pos c3] at h
    exact p_X12_part0_145 hΓ hg hr hX k_this ih_X12_both ih_X12_either ih_X12_part0 ih_X12_sum ih_X12_term ih_X12_test _ h
  · rw [if_neg c3] at h
    refine r_aload_n hg 0 dX12_part0_93 rfl rfl ?_
    refine r_getI hg dX12_part0_94 fl_X12_288 k_this rfl ?_
    refine r_bipush hg dX12_part0_97 cb_8 ?_
    refine r_icmp_ge hg 145 dX12_part0_99 (by decide) (fun c4 => ?_) (fun c4 => ?_)
    · rw [if_pos c4] at h
      exact p_X12_part0_145 hΓ hg hr hX k_this ih_X12_both ih_X12_either ih_X12_part0 ih_X12_sum ih_X12_term ih_X12_test _ h
    · rw [if_neg c4] at h
      refine r_aload_n hg 0 dX12_part0_102 rfl rfl ?_
      refine r_dup hg dX12_part0_103 rfl ?_
      refine r_getI hg dX12_part0_104 fl_X12_288 k_this rfl ?_
      refine r_iconst hg dX12_part0_107 ci_1 ?_
      refine r_iadd hg dX12_part0_108 ?_
      obtain ⟨I5, e6, h⟩ := q_b1_some h
      obtain rfl := Option.some.inj e6
      refine r_putI hg dX12_part0_109 fl_X12_288 k_this rfl ⟨rfl, rfl⟩ ?_
      refine r_aload_n hg 0 dX12_part0_112 rfl rfl ?_
      obtain ⟨I7, e8, h⟩ := q_b1_some h
      refine r_cV0v hg dX12_part0_113 mt_X12_next ml_X12_263 mv_X12_next k_this (s_X12_next hΓ hX k_this e8) (q_room (by omega) (Nat.le_of_ble_eq_true rfl)) ⟨Nat.zero_le _, Nat.zero_le _⟩ (Nat.le_of_ble_eq_true rfl) ?_
      refine r_aload_n hg 0 dX12_part0_116 rfl rfl ?_
      refine r_iload_n hg 1 dX12_part0_117 rfl rfl ?_
      obtain ⟨v9, I10, e11, h⟩ := q_b2_some h
      refine r_cV1i hg dX12_part0_118 mt_X12_part0 ml_X12_278 mv_X12_part0 k_this (ih_X12_part0 hX k_this e11) (q_room (by omega) (Nat.le_of_ble_eq_true rfl)) ⟨Nat.zero_le _, Nat.zero_le _⟩ (Nat.le_of_ble_eq_true rfl) ?_
      refine r_if_ne hg 126 dX12_part0_121 (by decide) (fun c12 => ?_) (fun c12 => ?_)
      · rw [if_neg c12] at h
        refine r_aload_n hg 0 dX12_part0_126 rfl rfl ?_
        refine r_dup hg dX12_part0_127 rfl ?_
        refine r_getI hg dX12_part0_128 fl_X12_288 k_this rfl ?_
        refine r_iconst hg dX12_part0_131 ci_1 ?_
        refine r_isub hg dX12_part0_132 ?_
        obtain ⟨I13, e14, h⟩ := q_b1_some h
        obtain rfl := Option.some.inj e14
        refine r_putI hg dX12_part0_133 fl_X12_288 k_this rfl ⟨rfl, rfl⟩ ?_
        refine r_aload_n hg 0 dX12_part0_136 rfl rfl ?_
        refine r_iconst hg dX12_part0_137 ci_2 ?_
        refine r_bipush hg dX12_part0_138 cb_33 ?_
        obtain ⟨I15, e16, h⟩ := q_b1_some h
        refine r_cV2v hg dX12_part0_140 mt_X12_step ml_X12_266 mv_X12_step k_this (s_X12_step hΓ hX k_this e16) (q_room (by omega) (Nat.le_of_ble_eq_true rfl)) ⟨Nat.zero_le _, Nat.zero_le _⟩ (Nat.le_of_ble_eq_true rfl) ?_
        refine r_iconst hg dX12_part0_143 ci_1 ?_
        exact r_ireturn hr dX12_part0_144 ⟨Nat.zero_le _, Nat.zero_le _⟩ ⟨_, rfl, bz_1.1⟩ (by cases h; rfl)
      · rw [if_pos (Classical.not_not.mp c12)] at h
        refine r_iconst hg dX12_part0_124 ci_0 ?_
        exact r_ireturn hr dX12_part0_125 ⟨Nat.zero_le _, Nat.zero_le _⟩ ⟨_, rfl, bz_0.1⟩ (by cases h; rfl)
def B_X12_part0 (F_X12_both : Nat → Int32 → qI → Option (Int32 × qI)) (F_X12_either : Nat → Int32 → qI → Option (Int32 × qI)) (F_X12_part0 : Nat → Int32 → qI → Option (Int32 × qI)) (F_X12_sum : Nat → Int32 → qI → Option (Int32 × qI)) (F_X12_term : Nat → Int32 → qI → Option (Int32 × qI)) (F_X12_test : Nat → Int32 → qI → Option (Int32 × qI)) (this : Nat) (x1 : Int32) (I : qI) : Option (Int32 × qI) :=
  if (I this 17) = (nI 2) then
    q_b1 (f_X12_step this (nI 0) (I this 18) I) fun I13 =>
    q_b1 (some (q_up I13 this 24 ((I13 this 24) + (nI 1)))) fun I15 =>
    q_b1 (f_X12_next this I15) fun I17 =>
    some ((nI 1), I17)
  else
    if (I this 17) = (nI 1) then
      if (I this 19) = 0 then
        b_X12_part0_84 this x1 F_X12_both F_X12_either F_X12_part0 F_X12_sum F_X12_term F_X12_test I
      else
        q_b1 (f_X12_isName x1 (I this 19)) fun v4 =>
        if v4 = 0 then
          b_X12_part0_84 this x1 F_X12_both F_X12_either F_X12_part0 F_X12_sum F_X12_term F_X12_test I
        else
          q_b1 (f_X12_step this (nI 1) (I this 19) I) fun I7 =>
          q_b1 (some (q_up I7 this 24 ((I7 this 24) + (nI 1)))) fun I9 =>
          q_b1 (f_X12_next this I9) fun I11 =>
          some ((nI 1), I11)
    else
      b_X12_part0_84 this x1 F_X12_both F_X12_either F_X12_part0 F_X12_sum F_X12_term F_X12_test I
set_option maxRecDepth 100000 in
set_option maxHeartbeats 4000000 in
theorem t_X12_part0 {l : Launch} {Γ : qC} {d : Nat} {F_X12_both : Nat → Int32 → qI → Option (Int32 × qI)} {F_X12_either : Nat → Int32 → qI → Option (Int32 × qI)} {F_X12_part0 : Nat → Int32 → qI → Option (Int32 × qI)} {F_X12_sum : Nat → Int32 → qI → Option (Int32 × qI)} {F_X12_term : Nat → Int32 → qI → Option (Int32 × qI)} {F_X12_test : Nat → Int32 → qI → Option (Int32 × qI)} (hΓ : q_gm Γ) (ih_X12_both : ∀ {X : qX} (_ : q_Lay X) {this : Nat} {x1 : Int32} (k_this : q_kd X this = some (14, 42)) {I : qI} {z : Int32 × qI}, F_X12_both this x1 I = some z → q_Sem l Γ (q_rm (5 + d) 0 0) yX12_both cX12_both 2 (some .boolean) [.ref this, .int x1] I X (some (.int z.1), z.2, X)) (ih_X12_either : ∀ {X : qX} (_ : q_Lay X) {this : Nat} {x1 : Int32} (k_this : q_kd X this = some (14, 42)) {I : qI} {z : Int32 × qI}, F_X12_either this x1 I = some z → q_Sem l Γ (q_rm (5 + d) 0 0) yX12_either cX12_either 2 (some .boolean) [.ref this, .int x1] I X (some (.int z.1), z.2, X)) (ih_X12_part0 : ∀ {X : qX} (_ : q_Lay X) {this : Nat} {x1 : Int32} (k_this : q_kd X this = some (14, 42)) {I : qI} {z : Int32 × qI}, F_X12_part0 this x1 I = some z → q_Sem l Γ (q_rm (5 + d) 0 0) yX12_part0 cX12_part0 2 (some .boolean) [.ref this, .int x1] I X (some (.int z.1), z.2, X)) (ih_X12_sum : ∀ {X : qX} (_ : q_Lay X) {this : Nat} {x1 : Int32} (k_this : q_kd X this = some (14, 42)) {I : qI} {z : Int32 × qI}, F_X12_sum this x1 I = some z → q_Sem l Γ (q_rm (5 + d) 0 0) yX12_sum cX12_sum 3 (some .boolean) [.ref this, .int x1] I X (some (.int z.1), z.2, X)) (ih_X12_term : ∀ {X : qX} (_ : q_Lay X) {this : Nat} {x1 : Int32} (k_this : q_kd X this = some (14, 42)) {I : qI} {z : Int32 × qI}, F_X12_term this x1 I = some z → q_Sem l Γ (q_rm (5 + d) 0 0) yX12_term cX12_term 3 (some .boolean) [.ref this, .int x1] I X (some (.int z.1), z.2, X)) (ih_X12_test : ∀ {X : qX} (_ : q_Lay X) {this : Nat} {x1 : Int32} (k_this : q_kd X this = some (14, 42)) {I : qI} {z : Int32 × qI}, F_X12_test this x1 I = some z → q_Sem l Γ (q_rm (5 + d) 0 0) yX12_test cX12_test 3 (some .boolean) [.ref this, .int x1] I X (some (.int z.1), z.2, X)) {X : qX} (hX : q_Lay X) {this : Nat} {x1 : Int32} (k_this : q_kd X this = some (14, 42)) {I : qI} {z : Int32 × qI} (h : B_X12_part0 F_X12_both F_X12_either F_X12_part0 F_X12_sum F_X12_term F_X12_test this x1 I = some z) : q_Sem l Γ (q_rm (5 + (d + 1)) 0 0) yX12_part0 cX12_part0 2 (some .boolean) [.ref this, .int x1] I X (some (.int z.1), z.2, X) := by
  refine q_met (by decide) (Nat.le_of_ble_eq_true rfl) (fun g hg hr => ?_)
  unfold B_X12_part0 at h
  show g 0 0 0 [(0, .ref this), (1, .int x1)] [] I X
  refine r_aload_n hg 0 dX12_part0_0 rfl rfl ?_
  refine r_getI hg dX12_part0_1 fl_X12_229 k_this rfl ?_
  refine r_iconst hg dX12_part0_4 ci_2 ?_
  refine r_icmp_ne hg 33 dX12_part0_5 (by decide) (fun c1 => ?_) (fun c1 => ?_)
  · rw [if_neg c1] at h
    refine r_aload_n hg 0 dX12_part0_33 rfl rfl ?_
    refine r_getI hg dX12_part0_34 fl_X12_229 k_this rfl ?_
    refine r_iconst hg dX12_part0_37 ci_1 ?_
    refine r_icmp_ne hg 84 dX12_part0_38 (by decide) (fun c2 => ?_) (fun c2 => ?_)
    · rw [if_neg c2] at h
      exact p_X12_part0_84 hΓ hg hr hX k_this ih_X12_both ih_X12_either ih_X12_part0 ih_X12_sum ih_X12_term ih_X12_test _ h
    · rw [if_pos (Classical.not_not.mp c2)] at h
      refine r_aload_n hg 0 dX12_part0_41 rfl rfl ?_
      refine r_getI hg dX12_part0_42 fl_X12_238 k_this rfl ?_
      refine r_if_eq hg 84 dX12_part0_45 (by decide) (fun c3 => ?_) (fun c3 => ?_)
      · rw [if_pos c3] at h
        exact p_X12_part0_84 hΓ hg hr hX k_this ih_X12_both ih_X12_either ih_X12_part0 ih_X12_sum ih_X12_term ih_X12_test _ h
      · rw [if_neg c3] at h
        refine r_iload_n hg 1 dX12_part0_48 rfl rfl ?_
        refine r_aload_n hg 0 dX12_part0_49 rfl rfl ?_
        refine r_getI hg dX12_part0_50 fl_X12_238 k_this rfl ?_
        obtain ⟨v4, e5, h⟩ := q_b1_some h
        refine r_cS2i hg dX12_part0_53 mt_X12_isName ⟨ml_X12_284, mst_X12_isName⟩ (s_X12_isName hΓ hX e5) (q_room (by omega) (Nat.le_of_ble_eq_true rfl)) ⟨Nat.zero_le _, Nat.zero_le _⟩ (Nat.le_of_ble_eq_true rfl) ?_
        refine r_if_eq hg 84 dX12_part0_56 (by decide) (fun c6 => ?_) (fun c6 => ?_)
        · rw [if_pos c6] at h
          exact p_X12_part0_84 hΓ hg hr hX k_this ih_X12_both ih_X12_either ih_X12_part0 ih_X12_sum ih_X12_term ih_X12_test _ h
        · rw [if_neg c6] at h
          refine r_aload_n hg 0 dX12_part0_59 rfl rfl ?_
          refine r_iconst hg dX12_part0_60 ci_1 ?_
          refine r_aload_n hg 0 dX12_part0_61 rfl rfl ?_
          refine r_getI hg dX12_part0_62 fl_X12_238 k_this rfl ?_
          obtain ⟨I7, e8, h⟩ := q_b1_some h
          refine r_cV2v hg dX12_part0_65 mt_X12_step ml_X12_266 mv_X12_step k_this (s_X12_step hΓ hX k_this e8) (q_room (by omega) (Nat.le_of_ble_eq_true rfl)) ⟨Nat.zero_le _, Nat.zero_le _⟩ (Nat.le_of_ble_eq_true rfl) ?_
          refine r_aload_n hg 0 dX12_part0_68 rfl rfl ?_
          refine r_dup hg dX12_part0_69 rfl ?_
          refine r_getI hg dX12_part0_70 fl_X12_281 k_this rfl ?_
          refine r_iconst hg dX12_part0_73 ci_1 ?_
          refine r_iadd hg dX12_part0_74 ?_
          obtain ⟨I9, e10, h⟩ := q_b1_some h
          obtain rfl := Option.some.inj e10
          refine r_putI hg dX12_part0_75 fl_X12_281 k_this rfl ⟨rfl, rfl⟩ ?_
          refine r_aload_n hg 0 dX12_part0_78 rfl rfl ?_
          obtain ⟨I11, e12, h⟩ := q_b1_some h
          refine r_cV0v hg dX12_part0_79 mt_X12_next ml_X12_263 mv_X12_next k_this (s_X12_next hΓ hX k_this e12) (q_room (by omega) (Nat.le_of_ble_eq_true rfl)) ⟨Nat.zero_le _, Nat.zero_le _⟩ (Nat.le_of_ble_eq_true rfl) ?_
          refine r_iconst hg dX12_part0_82 ci_1 ?_
          exact r_ireturn hr dX12_part0_83 ⟨Nat.zero_le _, Nat.zero_le _⟩ ⟨_, rfl, bz_1.1⟩ (by cases h; rfl)
  · rw [if_pos (Classical.not_not.mp c1)] at h
    refine r_aload_n hg 0 dX12_part0_8 rfl rfl ?_
    refine r_iconst hg dX12_part0_9 ci_0 ?_
    refine r_aload_n hg 0 dX12_part0_10 rfl rfl ?_
    refine r_getI hg dX12_part0_11 fl_X12_244 k_this rfl ?_
    obtain ⟨I13, e14, h⟩ := q_b1_some h
    refine r_cV2v hg dX12_part0_14 mt_X12_step ml_X12_266 mv_X12_step k_this (s_X12_step hΓ hX k_this e14) (q_room (by omega) (Nat.le_of_ble_eq_true rfl)) ⟨Nat.zero_le _, Nat.zero_le _⟩ (Nat.le_of_ble_eq_true rfl) ?_
    refine r_aload_n hg 0 dX12_part0_17 rfl rfl ?_
    refine r_dup hg dX12_part0_18 rfl ?_
    refine r_getI hg dX12_part0_19 fl_X12_281 k_this rfl ?_
    refine r_iconst hg dX12_part0_22 ci_1 ?_
    refine r_iadd hg dX12_part0_23 ?_
    obtain ⟨I15, e16, h⟩ := q_b1_some h
    obtain rfl := Option.some.inj e16
    refine r_putI hg dX12_part0_24 fl_X12_281 k_this rfl ⟨rfl, rfl⟩ ?_
    refine r_aload_n hg 0 dX12_part0_27 rfl rfl ?_
    obtain ⟨I17, e18, h⟩ := q_b1_some h
    refine r_cV0v hg dX12_part0_28 mt_X12_next ml_X12_263 mv_X12_next k_this (s_X12_next hΓ hX k_this e18) (q_room (by omega) (Nat.le_of_ble_eq_true rfl)) ⟨Nat.zero_le _, Nat.zero_le _⟩ (Nat.le_of_ble_eq_true rfl) ?_
    refine r_iconst hg dX12_part0_31 ci_1 ?_
    exact r_ireturn hr dX12_part0_32 ⟨Nat.zero_le _, Nat.zero_le _⟩ ⟨_, rfl, bz_1.1⟩ (by cases h; rfl)

def b_X12_sum_28 (this : Nat) (x1 : Int32) (F_X12_both : Nat → Int32 → qI → Option (Int32 × qI)) (F_X12_either : Nat → Int32 → qI → Option (Int32 × qI)) (F_X12_part0 : Nat → Int32 → qI → Option (Int32 × qI)) (F_X12_sum : Nat → Int32 → qI → Option (Int32 × qI)) (F_X12_term : Nat → Int32 → qI → Option (Int32 × qI)) (F_X12_test : Nat → Int32 → qI → Option (Int32 × qI)) (k10 : qI → Option (Int32 × qI)) (I : qI) : Option (Int32 × qI) :=
  q_b1 (f_X12_next this I) fun I1 =>
  q_b2 (F_X12_term this x1 I1) fun v3 I4 =>
  if v3 = 0 then
    some ((nI 0), I4)
  else
    q_b1 (f_X12_step this (nI 2) (I this 19) I4) fun I7 =>
    k10 I7
set_option maxRecDepth 100000 in
set_option maxHeartbeats 4000000 in
theorem p_X12_sum_28 {l : Launch} {Γ : qC} {g : qG} {z : Int32 × qI} {this : Nat} {x1 : Int32} {d : Nat} {F_X12_both : Nat → Int32 → qI → Option (Int32 × qI)} {F_X12_either : Nat → Int32 → qI → Option (Int32 × qI)} {F_X12_part0 : Nat → Int32 → qI → Option (Int32 × qI)} {F_X12_sum : Nat → Int32 → qI → Option (Int32 × qI)} {F_X12_term : Nat → Int32 → qI → Option (Int32 × qI)} {F_X12_test : Nat → Int32 → qI → Option (Int32 × qI)} {X : qX} (hΓ : q_gm Γ) (hg : q_Ok l Γ RX12 cX12_sum 3 (q_rm (5 + (d + 1)) 0 0) "sum" (some .boolean) g) (hr : q_Rt cX12_sum (some .boolean) (q_rm (5 + (d + 1)) 0 0) (some (.int z.1), z.2, X) g) (hX : q_Lay X) (k_this : q_kd X this = some (14, 42)) (ih_X12_both : ∀ {X : qX} (_ : q_Lay X) {this : Nat} {x1 : Int32} (k_this : q_kd X this = some (14, 42)) {I : qI} {z : Int32 × qI}, F_X12_both this x1 I = some z → q_Sem l Γ (q_rm (5 + d) 0 0) yX12_both cX12_both 2 (some .boolean) [.ref this, .int x1] I X (some (.int z.1), z.2, X)) (ih_X12_either : ∀ {X : qX} (_ : q_Lay X) {this : Nat} {x1 : Int32} (k_this : q_kd X this = some (14, 42)) {I : qI} {z : Int32 × qI}, F_X12_either this x1 I = some z → q_Sem l Γ (q_rm (5 + d) 0 0) yX12_either cX12_either 2 (some .boolean) [.ref this, .int x1] I X (some (.int z.1), z.2, X)) (ih_X12_part0 : ∀ {X : qX} (_ : q_Lay X) {this : Nat} {x1 : Int32} (k_this : q_kd X this = some (14, 42)) {I : qI} {z : Int32 × qI}, F_X12_part0 this x1 I = some z → q_Sem l Γ (q_rm (5 + d) 0 0) yX12_part0 cX12_part0 2 (some .boolean) [.ref this, .int x1] I X (some (.int z.1), z.2, X)) (ih_X12_sum : ∀ {X : qX} (_ : q_Lay X) {this : Nat} {x1 : Int32} (k_this : q_kd X this = some (14, 42)) {I : qI} {z : Int32 × qI}, F_X12_sum this x1 I = some z → q_Sem l Γ (q_rm (5 + d) 0 0) yX12_sum cX12_sum 3 (some .boolean) [.ref this, .int x1] I X (some (.int z.1), z.2, X)) (ih_X12_term : ∀ {X : qX} (_ : q_Lay X) {this : Nat} {x1 : Int32} (k_this : q_kd X this = some (14, 42)) {I : qI} {z : Int32 × qI}, F_X12_term this x1 I = some z → q_Sem l Γ (q_rm (5 + d) 0 0) yX12_term cX12_term 3 (some .boolean) [.ref this, .int x1] I X (some (.int z.1), z.2, X)) (ih_X12_test : ∀ {X : qX} (_ : q_Lay X) {this : Nat} {x1 : Int32} (k_this : q_kd X this = some (14, 42)) {I : qI} {z : Int32 × qI}, F_X12_test this x1 I = some z → q_Sem l Γ (q_rm (5 + d) 0 0) yX12_test cX12_test 3 (some .boolean) [.ref this, .int x1] I X (some (.int z.1), z.2, X)) {k10 : qI → Option (Int32 × qI)} (hk10 : ∀ (I : qI), k10 I = some z → g 0 0 10 [(0, .ref this), (1, .int x1)] [] I X) (I : qI) (h : b_X12_sum_28 this x1 F_X12_both F_X12_either F_X12_part0 F_X12_sum F_X12_term F_X12_test k10 I = some z) : g 0 0 28 [(0, .ref this), (1, .int x1)] [] I X := by
  unfold b_X12_sum_28 at h
  refine r_aload_n hg 0 dX12_sum_28 rfl rfl ?_
  refine r_getI hg dX12_sum_29 fl_X12_238 k_this rfl ?_
  refine r_istore_n hg (L' := [(2, .int (I this 19)), (0, .ref this), (1, .int x1)]) dX12_sum_32 rfl (by decide) rfl ?_
  refine r_aload_n hg 1 dX12_sum_33 rfl rfl ?_
  obtain ⟨I1, e2, h⟩ := q_b1_some h
  refine r_cV0v hg dX12_sum_34 mt_X12_next ml_X12_263 mv_X12_next k_this (s_X12_next hΓ hX k_this e2) (q_room (by omega) (Nat.le_of_ble_eq_true rfl)) ⟨Nat.zero_le _, Nat.zero_le _⟩ (Nat.le_of_ble_eq_true rfl) ?_
  refine r_aload_n hg 1 dX12_sum_37 rfl rfl ?_
  refine r_iload_n hg 2 dX12_sum_38 rfl rfl ?_
  obtain ⟨v3, I4, e5, h⟩ := q_b2_some h
  refine r_cV1i hg dX12_sum_39 mt_X12_term ml_X12_275 mv_X12_term k_this (ih_X12_term hX k_this e5) (q_room (by omega) (Nat.le_of_ble_eq_true rfl)) ⟨Nat.zero_le _, Nat.zero_le _⟩ (Nat.le_of_ble_eq_true rfl) ?_
  refine r_if_ne hg 47 dX12_sum_42 (by decide) (fun c6 => ?_) (fun c6 => ?_)
  · rw [if_neg c6] at h
    refine r_aload_n hg 1 dX12_sum_47 rfl rfl ?_
    refine r_iconst hg dX12_sum_48 ci_2 ?_
    refine r_iload_n hg 0 dX12_sum_49 rfl rfl ?_
    obtain ⟨I7, e8, h⟩ := q_b1_some h
    refine r_cV2v hg dX12_sum_50 mt_X12_step ml_X12_266 mv_X12_step k_this (s_X12_step hΓ hX k_this e8) (q_room (by omega) (Nat.le_of_ble_eq_true rfl)) ⟨Nat.zero_le _, Nat.zero_le _⟩ (Nat.le_of_ble_eq_true rfl) ?_
    refine r_goto hg 10 dX12_sum_53 (by decide) ?_
    refine r_sub hg [1, 2] rfl ?_
    exact hk10 _ h
  · rw [if_pos (Classical.not_not.mp c6)] at h
    refine r_iconst hg dX12_sum_45 ci_0 ?_
    exact r_ireturn hr dX12_sum_46 ⟨Nat.zero_le _, Nat.zero_le _⟩ ⟨_, rfl, bz_0.1⟩ (by cases h; rfl)
def b_X12_sum_10 (this : Nat) (x1 : Int32) (F_X12_both : Nat → Int32 → qI → Option (Int32 × qI)) (F_X12_either : Nat → Int32 → qI → Option (Int32 × qI)) (F_X12_part0 : Nat → Int32 → qI → Option (Int32 × qI)) (F_X12_sum : Nat → Int32 → qI → Option (Int32 × qI)) (F_X12_term : Nat → Int32 → qI → Option (Int32 × qI)) (F_X12_test : Nat → Int32 → qI → Option (Int32 × qI)) (k10 : qI → Option (Int32 × qI)) (I : qI) : Option (Int32 × qI) :=
  q_b1 (f_X12_isSign this (nI 43) I) fun v1 =>
  if v1 = 0 then
    q_b1 (f_X12_isSign this (nI 45) I) fun v4 =>
    if v4 = 0 then
      some ((nI 1), I)
    else
      b_X12_sum_28 this x1 F_X12_both F_X12_either F_X12_part0 F_X12_sum F_X12_term F_X12_test k10 I
  else
    b_X12_sum_28 this x1 F_X12_both F_X12_either F_X12_part0 F_X12_sum F_X12_term F_X12_test k10 I
set_option maxRecDepth 100000 in
set_option maxHeartbeats 4000000 in
theorem p_X12_sum_10 {l : Launch} {Γ : qC} {g : qG} {z : Int32 × qI} {this : Nat} {x1 : Int32} {d : Nat} {F_X12_both : Nat → Int32 → qI → Option (Int32 × qI)} {F_X12_either : Nat → Int32 → qI → Option (Int32 × qI)} {F_X12_part0 : Nat → Int32 → qI → Option (Int32 × qI)} {F_X12_sum : Nat → Int32 → qI → Option (Int32 × qI)} {F_X12_term : Nat → Int32 → qI → Option (Int32 × qI)} {F_X12_test : Nat → Int32 → qI → Option (Int32 × qI)} {X : qX} (hΓ : q_gm Γ) (hg : q_Ok l Γ RX12 cX12_sum 3 (q_rm (5 + (d + 1)) 0 0) "sum" (some .boolean) g) (hr : q_Rt cX12_sum (some .boolean) (q_rm (5 + (d + 1)) 0 0) (some (.int z.1), z.2, X) g) (hX : q_Lay X) (k_this : q_kd X this = some (14, 42)) (ih_X12_both : ∀ {X : qX} (_ : q_Lay X) {this : Nat} {x1 : Int32} (k_this : q_kd X this = some (14, 42)) {I : qI} {z : Int32 × qI}, F_X12_both this x1 I = some z → q_Sem l Γ (q_rm (5 + d) 0 0) yX12_both cX12_both 2 (some .boolean) [.ref this, .int x1] I X (some (.int z.1), z.2, X)) (ih_X12_either : ∀ {X : qX} (_ : q_Lay X) {this : Nat} {x1 : Int32} (k_this : q_kd X this = some (14, 42)) {I : qI} {z : Int32 × qI}, F_X12_either this x1 I = some z → q_Sem l Γ (q_rm (5 + d) 0 0) yX12_either cX12_either 2 (some .boolean) [.ref this, .int x1] I X (some (.int z.1), z.2, X)) (ih_X12_part0 : ∀ {X : qX} (_ : q_Lay X) {this : Nat} {x1 : Int32} (k_this : q_kd X this = some (14, 42)) {I : qI} {z : Int32 × qI}, F_X12_part0 this x1 I = some z → q_Sem l Γ (q_rm (5 + d) 0 0) yX12_part0 cX12_part0 2 (some .boolean) [.ref this, .int x1] I X (some (.int z.1), z.2, X)) (ih_X12_sum : ∀ {X : qX} (_ : q_Lay X) {this : Nat} {x1 : Int32} (k_this : q_kd X this = some (14, 42)) {I : qI} {z : Int32 × qI}, F_X12_sum this x1 I = some z → q_Sem l Γ (q_rm (5 + d) 0 0) yX12_sum cX12_sum 3 (some .boolean) [.ref this, .int x1] I X (some (.int z.1), z.2, X)) (ih_X12_term : ∀ {X : qX} (_ : q_Lay X) {this : Nat} {x1 : Int32} (k_this : q_kd X this = some (14, 42)) {I : qI} {z : Int32 × qI}, F_X12_term this x1 I = some z → q_Sem l Γ (q_rm (5 + d) 0 0) yX12_term cX12_term 3 (some .boolean) [.ref this, .int x1] I X (some (.int z.1), z.2, X)) (ih_X12_test : ∀ {X : qX} (_ : q_Lay X) {this : Nat} {x1 : Int32} (k_this : q_kd X this = some (14, 42)) {I : qI} {z : Int32 × qI}, F_X12_test this x1 I = some z → q_Sem l Γ (q_rm (5 + d) 0 0) yX12_test cX12_test 3 (some .boolean) [.ref this, .int x1] I X (some (.int z.1), z.2, X)) {k10 : qI → Option (Int32 × qI)} (hk10 : ∀ (I : qI), k10 I = some z → g 0 0 10 [(0, .ref this), (1, .int x1)] [] I X) (I : qI) (h : b_X12_sum_10 this x1 F_X12_both F_X12_either F_X12_part0 F_X12_sum F_X12_term F_X12_test k10 I = some z) : g 0 0 10 [(0, .ref this), (1, .int x1)] [] I X := by
  unfold b_X12_sum_10 at h
  refine r_aload_n hg 0 dX12_sum_10 rfl rfl ?_
  refine r_bipush hg dX12_sum_11 cb_43 ?_
  obtain ⟨v1, e2, h⟩ := q_b1_some h
  refine r_cV1i hg dX12_sum_13 mt_X12_isSign ml_X12_260 mv_X12_isSign k_this (s_X12_isSign hΓ hX k_this e2) (q_room (by omega) (Nat.le_of_ble_eq_true rfl)) ⟨Nat.zero_le _, Nat.zero_le _⟩ (Nat.le_of_ble_eq_true rfl) ?_
  refine r_if_ne hg 28 dX12_sum_16 (by decide) (fun c3 => ?_) (fun c3 => ?_)
  · rw [if_neg c3] at h
    exact p_X12_sum_28 hΓ hg hr hX k_this ih_X12_both ih_X12_either ih_X12_part0 ih_X12_sum ih_X12_term ih_X12_test hk10 _ h
  · rw [if_pos (Classical.not_not.mp c3)] at h
    refine r_aload_n hg 0 dX12_sum_19 rfl rfl ?_
    refine r_bipush hg dX12_sum_20 cb_45 ?_
    obtain ⟨v4, e5, h⟩ := q_b1_some h
    refine r_cV1i hg dX12_sum_22 mt_X12_isSign ml_X12_260 mv_X12_isSign k_this (s_X12_isSign hΓ hX k_this e5) (q_room (by omega) (Nat.le_of_ble_eq_true rfl)) ⟨Nat.zero_le _, Nat.zero_le _⟩ (Nat.le_of_ble_eq_true rfl) ?_
    refine r_if_eq hg 56 dX12_sum_25 (by decide) (fun c6 => ?_) (fun c6 => ?_)
    · rw [if_pos c6] at h
      refine r_iconst hg dX12_sum_56 ci_1 ?_
      exact r_ireturn hr dX12_sum_57 ⟨Nat.zero_le _, Nat.zero_le _⟩ ⟨_, rfl, bz_1.1⟩ (by cases h; rfl)
    · rw [if_neg c6] at h
      exact p_X12_sum_28 hΓ hg hr hX k_this ih_X12_both ih_X12_either ih_X12_part0 ih_X12_sum ih_X12_term ih_X12_test hk10 _ h
theorem pl_X12_sum_10 {l : Launch} {Γ : qC} {g : qG} {z : Int32 × qI} {this : Nat} {x1 : Int32} {d : Nat} {F_X12_both : Nat → Int32 → qI → Option (Int32 × qI)} {F_X12_either : Nat → Int32 → qI → Option (Int32 × qI)} {F_X12_part0 : Nat → Int32 → qI → Option (Int32 × qI)} {F_X12_sum : Nat → Int32 → qI → Option (Int32 × qI)} {F_X12_term : Nat → Int32 → qI → Option (Int32 × qI)} {F_X12_test : Nat → Int32 → qI → Option (Int32 × qI)} {X : qX} (hΓ : q_gm Γ) (hg : q_Ok l Γ RX12 cX12_sum 3 (q_rm (5 + (d + 1)) 0 0) "sum" (some .boolean) g) (hr : q_Rt cX12_sum (some .boolean) (q_rm (5 + (d + 1)) 0 0) (some (.int z.1), z.2, X) g) (hX : q_Lay X) (k_this : q_kd X this = some (14, 42)) (ih_X12_both : ∀ {X : qX} (_ : q_Lay X) {this : Nat} {x1 : Int32} (k_this : q_kd X this = some (14, 42)) {I : qI} {z : Int32 × qI}, F_X12_both this x1 I = some z → q_Sem l Γ (q_rm (5 + d) 0 0) yX12_both cX12_both 2 (some .boolean) [.ref this, .int x1] I X (some (.int z.1), z.2, X)) (ih_X12_either : ∀ {X : qX} (_ : q_Lay X) {this : Nat} {x1 : Int32} (k_this : q_kd X this = some (14, 42)) {I : qI} {z : Int32 × qI}, F_X12_either this x1 I = some z → q_Sem l Γ (q_rm (5 + d) 0 0) yX12_either cX12_either 2 (some .boolean) [.ref this, .int x1] I X (some (.int z.1), z.2, X)) (ih_X12_part0 : ∀ {X : qX} (_ : q_Lay X) {this : Nat} {x1 : Int32} (k_this : q_kd X this = some (14, 42)) {I : qI} {z : Int32 × qI}, F_X12_part0 this x1 I = some z → q_Sem l Γ (q_rm (5 + d) 0 0) yX12_part0 cX12_part0 2 (some .boolean) [.ref this, .int x1] I X (some (.int z.1), z.2, X)) (ih_X12_sum : ∀ {X : qX} (_ : q_Lay X) {this : Nat} {x1 : Int32} (k_this : q_kd X this = some (14, 42)) {I : qI} {z : Int32 × qI}, F_X12_sum this x1 I = some z → q_Sem l Γ (q_rm (5 + d) 0 0) yX12_sum cX12_sum 3 (some .boolean) [.ref this, .int x1] I X (some (.int z.1), z.2, X)) (ih_X12_term : ∀ {X : qX} (_ : q_Lay X) {this : Nat} {x1 : Int32} (k_this : q_kd X this = some (14, 42)) {I : qI} {z : Int32 × qI}, F_X12_term this x1 I = some z → q_Sem l Γ (q_rm (5 + d) 0 0) yX12_term cX12_term 3 (some .boolean) [.ref this, .int x1] I X (some (.int z.1), z.2, X)) (ih_X12_test : ∀ {X : qX} (_ : q_Lay X) {this : Nat} {x1 : Int32} (k_this : q_kd X this = some (14, 42)) {I : qI} {z : Int32 × qI}, F_X12_test this x1 I = some z → q_Sem l Γ (q_rm (5 + d) 0 0) yX12_test cX12_test 3 (some .boolean) [.ref this, .int x1] I X (some (.int z.1), z.2, X)) : ∀ (n : Nat) (I : qI), q_fix (fun _ => none) (b_X12_sum_10 this x1 F_X12_both F_X12_either F_X12_part0 F_X12_sum F_X12_term F_X12_test) n I = some z → g 0 0 10 [(0, .ref this), (1, .int x1)] [] I X := by
  intro n
  induction n with
  | zero =>
    intro I h
    cases (show (none : Option (Int32 × qI)) = some z from h)
  | succ n ih =>
    intro I h
    exact p_X12_sum_10 hΓ hg hr hX k_this ih_X12_both ih_X12_either ih_X12_part0 ih_X12_sum ih_X12_term ih_X12_test ih _ h
def B_X12_sum (F_X12_both : Nat → Int32 → qI → Option (Int32 × qI)) (F_X12_either : Nat → Int32 → qI → Option (Int32 × qI)) (F_X12_part0 : Nat → Int32 → qI → Option (Int32 × qI)) (F_X12_sum : Nat → Int32 → qI → Option (Int32 × qI)) (F_X12_term : Nat → Int32 → qI → Option (Int32 × qI)) (F_X12_test : Nat → Int32 → qI → Option (Int32 × qI)) (this : Nat) (x1 : Int32) (I : qI) : Option (Int32 × qI) :=
  q_b2 (F_X12_term this x1 I) fun v1 I2 =>
  if v1 = 0 then
    some ((nI 0), I2)
  else
    q_fix (fun _ => none) (b_X12_sum_10 this x1 F_X12_both F_X12_either F_X12_part0 F_X12_sum F_X12_term F_X12_test) q_fu I2
set_option maxRecDepth 100000 in
set_option maxHeartbeats 4000000 in
theorem t_X12_sum {l : Launch} {Γ : qC} {d : Nat} {F_X12_both : Nat → Int32 → qI → Option (Int32 × qI)} {F_X12_either : Nat → Int32 → qI → Option (Int32 × qI)} {F_X12_part0 : Nat → Int32 → qI → Option (Int32 × qI)} {F_X12_sum : Nat → Int32 → qI → Option (Int32 × qI)} {F_X12_term : Nat → Int32 → qI → Option (Int32 × qI)} {F_X12_test : Nat → Int32 → qI → Option (Int32 × qI)} (hΓ : q_gm Γ) (ih_X12_both : ∀ {X : qX} (_ : q_Lay X) {this : Nat} {x1 : Int32} (k_this : q_kd X this = some (14, 42)) {I : qI} {z : Int32 × qI}, F_X12_both this x1 I = some z → q_Sem l Γ (q_rm (5 + d) 0 0) yX12_both cX12_both 2 (some .boolean) [.ref this, .int x1] I X (some (.int z.1), z.2, X)) (ih_X12_either : ∀ {X : qX} (_ : q_Lay X) {this : Nat} {x1 : Int32} (k_this : q_kd X this = some (14, 42)) {I : qI} {z : Int32 × qI}, F_X12_either this x1 I = some z → q_Sem l Γ (q_rm (5 + d) 0 0) yX12_either cX12_either 2 (some .boolean) [.ref this, .int x1] I X (some (.int z.1), z.2, X)) (ih_X12_part0 : ∀ {X : qX} (_ : q_Lay X) {this : Nat} {x1 : Int32} (k_this : q_kd X this = some (14, 42)) {I : qI} {z : Int32 × qI}, F_X12_part0 this x1 I = some z → q_Sem l Γ (q_rm (5 + d) 0 0) yX12_part0 cX12_part0 2 (some .boolean) [.ref this, .int x1] I X (some (.int z.1), z.2, X)) (ih_X12_sum : ∀ {X : qX} (_ : q_Lay X) {this : Nat} {x1 : Int32} (k_this : q_kd X this = some (14, 42)) {I : qI} {z : Int32 × qI}, F_X12_sum this x1 I = some z → q_Sem l Γ (q_rm (5 + d) 0 0) yX12_sum cX12_sum 3 (some .boolean) [.ref this, .int x1] I X (some (.int z.1), z.2, X)) (ih_X12_term : ∀ {X : qX} (_ : q_Lay X) {this : Nat} {x1 : Int32} (k_this : q_kd X this = some (14, 42)) {I : qI} {z : Int32 × qI}, F_X12_term this x1 I = some z → q_Sem l Γ (q_rm (5 + d) 0 0) yX12_term cX12_term 3 (some .boolean) [.ref this, .int x1] I X (some (.int z.1), z.2, X)) (ih_X12_test : ∀ {X : qX} (_ : q_Lay X) {this : Nat} {x1 : Int32} (k_this : q_kd X this = some (14, 42)) {I : qI} {z : Int32 × qI}, F_X12_test this x1 I = some z → q_Sem l Γ (q_rm (5 + d) 0 0) yX12_test cX12_test 3 (some .boolean) [.ref this, .int x1] I X (some (.int z.1), z.2, X)) {X : qX} (hX : q_Lay X) {this : Nat} {x1 : Int32} (k_this : q_kd X this = some (14, 42)) {I : qI} {z : Int32 × qI} (h : B_X12_sum F_X12_both F_X12_either F_X12_part0 F_X12_sum F_X12_term F_X12_test this x1 I = some z) : q_Sem l Γ (q_rm (5 + (d + 1)) 0 0) yX12_sum cX12_sum 3 (some .boolean) [.ref this, .int x1] I X (some (.int z.1), z.2, X) := by
  refine q_met (by decide) (Nat.le_of_ble_eq_true rfl) (fun g hg hr => ?_)
  unfold B_X12_sum at h
  show g 0 0 0 [(0, .ref this), (1, .int x1)] [] I X
  refine r_aload_n hg 0 dX12_sum_0 rfl rfl ?_
  refine r_iload_n hg 1 dX12_sum_1 rfl rfl ?_
  obtain ⟨v1, I2, e3, h⟩ := q_b2_some h
  refine r_cV1i hg dX12_sum_2 mt_X12_term ml_X12_275 mv_X12_term k_this (ih_X12_term hX k_this e3) (q_room (by omega) (Nat.le_of_ble_eq_true rfl)) ⟨Nat.zero_le _, Nat.zero_le _⟩ (Nat.le_of_ble_eq_true rfl) ?_
  refine r_if_ne hg 10 dX12_sum_5 (by decide) (fun c4 => ?_) (fun c4 => ?_)
  · rw [if_neg c4] at h
    exact pl_X12_sum_10 hΓ hg hr hX k_this ih_X12_both ih_X12_either ih_X12_part0 ih_X12_sum ih_X12_term ih_X12_test _ _ h
  · rw [if_pos (Classical.not_not.mp c4)] at h
    refine r_iconst hg dX12_sum_8 ci_0 ?_
    exact r_ireturn hr dX12_sum_9 ⟨Nat.zero_le _, Nat.zero_le _⟩ ⟨_, rfl, bz_0.1⟩ (by cases h; rfl)

def b_X12_term_28 (this : Nat) (x1 : Int32) (F_X12_both : Nat → Int32 → qI → Option (Int32 × qI)) (F_X12_either : Nat → Int32 → qI → Option (Int32 × qI)) (F_X12_part0 : Nat → Int32 → qI → Option (Int32 × qI)) (F_X12_sum : Nat → Int32 → qI → Option (Int32 × qI)) (F_X12_term : Nat → Int32 → qI → Option (Int32 × qI)) (F_X12_test : Nat → Int32 → qI → Option (Int32 × qI)) (k10 : qI → Option (Int32 × qI)) (I : qI) : Option (Int32 × qI) :=
  q_b1 (f_X12_next this I) fun I1 =>
  q_b2 (F_X12_part0 this x1 I1) fun v3 I4 =>
  if v3 = 0 then
    some ((nI 0), I4)
  else
    q_b1 (f_X12_step this (nI 2) (I this 19) I4) fun I7 =>
    k10 I7
set_option maxRecDepth 100000 in
set_option maxHeartbeats 4000000 in
theorem p_X12_term_28 {l : Launch} {Γ : qC} {g : qG} {z : Int32 × qI} {this : Nat} {x1 : Int32} {d : Nat} {F_X12_both : Nat → Int32 → qI → Option (Int32 × qI)} {F_X12_either : Nat → Int32 → qI → Option (Int32 × qI)} {F_X12_part0 : Nat → Int32 → qI → Option (Int32 × qI)} {F_X12_sum : Nat → Int32 → qI → Option (Int32 × qI)} {F_X12_term : Nat → Int32 → qI → Option (Int32 × qI)} {F_X12_test : Nat → Int32 → qI → Option (Int32 × qI)} {X : qX} (hΓ : q_gm Γ) (hg : q_Ok l Γ RX12 cX12_term 3 (q_rm (5 + (d + 1)) 0 0) "term" (some .boolean) g) (hr : q_Rt cX12_term (some .boolean) (q_rm (5 + (d + 1)) 0 0) (some (.int z.1), z.2, X) g) (hX : q_Lay X) (k_this : q_kd X this = some (14, 42)) (ih_X12_both : ∀ {X : qX} (_ : q_Lay X) {this : Nat} {x1 : Int32} (k_this : q_kd X this = some (14, 42)) {I : qI} {z : Int32 × qI}, F_X12_both this x1 I = some z → q_Sem l Γ (q_rm (5 + d) 0 0) yX12_both cX12_both 2 (some .boolean) [.ref this, .int x1] I X (some (.int z.1), z.2, X)) (ih_X12_either : ∀ {X : qX} (_ : q_Lay X) {this : Nat} {x1 : Int32} (k_this : q_kd X this = some (14, 42)) {I : qI} {z : Int32 × qI}, F_X12_either this x1 I = some z → q_Sem l Γ (q_rm (5 + d) 0 0) yX12_either cX12_either 2 (some .boolean) [.ref this, .int x1] I X (some (.int z.1), z.2, X)) (ih_X12_part0 : ∀ {X : qX} (_ : q_Lay X) {this : Nat} {x1 : Int32} (k_this : q_kd X this = some (14, 42)) {I : qI} {z : Int32 × qI}, F_X12_part0 this x1 I = some z → q_Sem l Γ (q_rm (5 + d) 0 0) yX12_part0 cX12_part0 2 (some .boolean) [.ref this, .int x1] I X (some (.int z.1), z.2, X)) (ih_X12_sum : ∀ {X : qX} (_ : q_Lay X) {this : Nat} {x1 : Int32} (k_this : q_kd X this = some (14, 42)) {I : qI} {z : Int32 × qI}, F_X12_sum this x1 I = some z → q_Sem l Γ (q_rm (5 + d) 0 0) yX12_sum cX12_sum 3 (some .boolean) [.ref this, .int x1] I X (some (.int z.1), z.2, X)) (ih_X12_term : ∀ {X : qX} (_ : q_Lay X) {this : Nat} {x1 : Int32} (k_this : q_kd X this = some (14, 42)) {I : qI} {z : Int32 × qI}, F_X12_term this x1 I = some z → q_Sem l Γ (q_rm (5 + d) 0 0) yX12_term cX12_term 3 (some .boolean) [.ref this, .int x1] I X (some (.int z.1), z.2, X)) (ih_X12_test : ∀ {X : qX} (_ : q_Lay X) {this : Nat} {x1 : Int32} (k_this : q_kd X this = some (14, 42)) {I : qI} {z : Int32 × qI}, F_X12_test this x1 I = some z → q_Sem l Γ (q_rm (5 + d) 0 0) yX12_test cX12_test 3 (some .boolean) [.ref this, .int x1] I X (some (.int z.1), z.2, X)) {k10 : qI → Option (Int32 × qI)} (hk10 : ∀ (I : qI), k10 I = some z → g 0 0 10 [(0, .ref this), (1, .int x1)] [] I X) (I : qI) (h : b_X12_term_28 this x1 F_X12_both F_X12_either F_X12_part0 F_X12_sum F_X12_term F_X12_test k10 I = some z) : g 0 0 28 [(0, .ref this), (1, .int x1)] [] I X := by
  unfold b_X12_term_28 at h
  refine r_aload_n hg 0 dX12_term_28 rfl rfl ?_
  refine r_getI hg dX12_term_29 fl_X12_238 k_this rfl ?_
  refine r_istore_n hg (L' := [(2, .int (I this 19)), (0, .ref this), (1, .int x1)]) dX12_term_32 rfl (by decide) rfl ?_
  refine r_aload_n hg 1 dX12_term_33 rfl rfl ?_
  obtain ⟨I1, e2, h⟩ := q_b1_some h
  refine r_cV0v hg dX12_term_34 mt_X12_next ml_X12_263 mv_X12_next k_this (s_X12_next hΓ hX k_this e2) (q_room (by omega) (Nat.le_of_ble_eq_true rfl)) ⟨Nat.zero_le _, Nat.zero_le _⟩ (Nat.le_of_ble_eq_true rfl) ?_
  refine r_aload_n hg 1 dX12_term_37 rfl rfl ?_
  refine r_iload_n hg 2 dX12_term_38 rfl rfl ?_
  obtain ⟨v3, I4, e5, h⟩ := q_b2_some h
  refine r_cV1i hg dX12_term_39 mt_X12_part0 ml_X12_278 mv_X12_part0 k_this (ih_X12_part0 hX k_this e5) (q_room (by omega) (Nat.le_of_ble_eq_true rfl)) ⟨Nat.zero_le _, Nat.zero_le _⟩ (Nat.le_of_ble_eq_true rfl) ?_
  refine r_if_ne hg 47 dX12_term_42 (by decide) (fun c6 => ?_) (fun c6 => ?_)
  · rw [if_neg c6] at h
    refine r_aload_n hg 1 dX12_term_47 rfl rfl ?_
    refine r_iconst hg dX12_term_48 ci_2 ?_
    refine r_iload_n hg 0 dX12_term_49 rfl rfl ?_
    obtain ⟨I7, e8, h⟩ := q_b1_some h
    refine r_cV2v hg dX12_term_50 mt_X12_step ml_X12_266 mv_X12_step k_this (s_X12_step hΓ hX k_this e8) (q_room (by omega) (Nat.le_of_ble_eq_true rfl)) ⟨Nat.zero_le _, Nat.zero_le _⟩ (Nat.le_of_ble_eq_true rfl) ?_
    refine r_goto hg 10 dX12_term_53 (by decide) ?_
    refine r_sub hg [1, 2] rfl ?_
    exact hk10 _ h
  · rw [if_pos (Classical.not_not.mp c6)] at h
    refine r_iconst hg dX12_term_45 ci_0 ?_
    exact r_ireturn hr dX12_term_46 ⟨Nat.zero_le _, Nat.zero_le _⟩ ⟨_, rfl, bz_0.1⟩ (by cases h; rfl)
def b_X12_term_10 (this : Nat) (x1 : Int32) (F_X12_both : Nat → Int32 → qI → Option (Int32 × qI)) (F_X12_either : Nat → Int32 → qI → Option (Int32 × qI)) (F_X12_part0 : Nat → Int32 → qI → Option (Int32 × qI)) (F_X12_sum : Nat → Int32 → qI → Option (Int32 × qI)) (F_X12_term : Nat → Int32 → qI → Option (Int32 × qI)) (F_X12_test : Nat → Int32 → qI → Option (Int32 × qI)) (k10 : qI → Option (Int32 × qI)) (I : qI) : Option (Int32 × qI) :=
  q_b1 (f_X12_isSign this (nI 42) I) fun v1 =>
  if v1 = 0 then
    q_b1 (f_X12_isSign this (nI 47) I) fun v4 =>
    if v4 = 0 then
      some ((nI 1), I)
    else
      b_X12_term_28 this x1 F_X12_both F_X12_either F_X12_part0 F_X12_sum F_X12_term F_X12_test k10 I
  else
    b_X12_term_28 this x1 F_X12_both F_X12_either F_X12_part0 F_X12_sum F_X12_term F_X12_test k10 I
set_option maxRecDepth 100000 in
set_option maxHeartbeats 4000000 in
theorem p_X12_term_10 {l : Launch} {Γ : qC} {g : qG} {z : Int32 × qI} {this : Nat} {x1 : Int32} {d : Nat} {F_X12_both : Nat → Int32 → qI → Option (Int32 × qI)} {F_X12_either : Nat → Int32 → qI → Option (Int32 × qI)} {F_X12_part0 : Nat → Int32 → qI → Option (Int32 × qI)} {F_X12_sum : Nat → Int32 → qI → Option (Int32 × qI)} {F_X12_term : Nat → Int32 → qI → Option (Int32 × qI)} {F_X12_test : Nat → Int32 → qI → Option (Int32 × qI)} {X : qX} (hΓ : q_gm Γ) (hg : q_Ok l Γ RX12 cX12_term 3 (q_rm (5 + (d + 1)) 0 0) "term" (some .boolean) g) (hr : q_Rt cX12_term (some .boolean) (q_rm (5 + (d + 1)) 0 0) (some (.int z.1), z.2, X) g) (hX : q_Lay X) (k_this : q_kd X this = some (14, 42)) (ih_X12_both : ∀ {X : qX} (_ : q_Lay X) {this : Nat} {x1 : Int32} (k_this : q_kd X this = some (14, 42)) {I : qI} {z : Int32 × qI}, F_X12_both this x1 I = some z → q_Sem l Γ (q_rm (5 + d) 0 0) yX12_both cX12_both 2 (some .boolean) [.ref this, .int x1] I X (some (.int z.1), z.2, X)) (ih_X12_either : ∀ {X : qX} (_ : q_Lay X) {this : Nat} {x1 : Int32} (k_this : q_kd X this = some (14, 42)) {I : qI} {z : Int32 × qI}, F_X12_either this x1 I = some z → q_Sem l Γ (q_rm (5 + d) 0 0) yX12_either cX12_either 2 (some .boolean) [.ref this, .int x1] I X (some (.int z.1), z.2, X)) (ih_X12_part0 : ∀ {X : qX} (_ : q_Lay X) {this : Nat} {x1 : Int32} (k_this : q_kd X this = some (14, 42)) {I : qI} {z : Int32 × qI}, F_X12_part0 this x1 I = some z → q_Sem l Γ (q_rm (5 + d) 0 0) yX12_part0 cX12_part0 2 (some .boolean) [.ref this, .int x1] I X (some (.int z.1), z.2, X)) (ih_X12_sum : ∀ {X : qX} (_ : q_Lay X) {this : Nat} {x1 : Int32} (k_this : q_kd X this = some (14, 42)) {I : qI} {z : Int32 × qI}, F_X12_sum this x1 I = some z → q_Sem l Γ (q_rm (5 + d) 0 0) yX12_sum cX12_sum 3 (some .boolean) [.ref this, .int x1] I X (some (.int z.1), z.2, X)) (ih_X12_term : ∀ {X : qX} (_ : q_Lay X) {this : Nat} {x1 : Int32} (k_this : q_kd X this = some (14, 42)) {I : qI} {z : Int32 × qI}, F_X12_term this x1 I = some z → q_Sem l Γ (q_rm (5 + d) 0 0) yX12_term cX12_term 3 (some .boolean) [.ref this, .int x1] I X (some (.int z.1), z.2, X)) (ih_X12_test : ∀ {X : qX} (_ : q_Lay X) {this : Nat} {x1 : Int32} (k_this : q_kd X this = some (14, 42)) {I : qI} {z : Int32 × qI}, F_X12_test this x1 I = some z → q_Sem l Γ (q_rm (5 + d) 0 0) yX12_test cX12_test 3 (some .boolean) [.ref this, .int x1] I X (some (.int z.1), z.2, X)) {k10 : qI → Option (Int32 × qI)} (hk10 : ∀ (I : qI), k10 I = some z → g 0 0 10 [(0, .ref this), (1, .int x1)] [] I X) (I : qI) (h : b_X12_term_10 this x1 F_X12_both F_X12_either F_X12_part0 F_X12_sum F_X12_term F_X12_test k10 I = some z) : g 0 0 10 [(0, .ref this), (1, .int x1)] [] I X := by
  unfold b_X12_term_10 at h
  refine r_aload_n hg 0 dX12_term_10 rfl rfl ?_
  refine r_bipush hg dX12_term_11 cb_42 ?_
  obtain ⟨v1, e2, h⟩ := q_b1_some h
  refine r_cV1i hg dX12_term_13 mt_X12_isSign ml_X12_260 mv_X12_isSign k_this (s_X12_isSign hΓ hX k_this e2) (q_room (by omega) (Nat.le_of_ble_eq_true rfl)) ⟨Nat.zero_le _, Nat.zero_le _⟩ (Nat.le_of_ble_eq_true rfl) ?_
  refine r_if_ne hg 28 dX12_term_16 (by decide) (fun c3 => ?_) (fun c3 => ?_)
  · rw [if_neg c3] at h
    exact p_X12_term_28 hΓ hg hr hX k_this ih_X12_both ih_X12_either ih_X12_part0 ih_X12_sum ih_X12_term ih_X12_test hk10 _ h
  · rw [if_pos (Classical.not_not.mp c3)] at h
    refine r_aload_n hg 0 dX12_term_19 rfl rfl ?_
    refine r_bipush hg dX12_term_20 cb_47 ?_
    obtain ⟨v4, e5, h⟩ := q_b1_some h
    refine r_cV1i hg dX12_term_22 mt_X12_isSign ml_X12_260 mv_X12_isSign k_this (s_X12_isSign hΓ hX k_this e5) (q_room (by omega) (Nat.le_of_ble_eq_true rfl)) ⟨Nat.zero_le _, Nat.zero_le _⟩ (Nat.le_of_ble_eq_true rfl) ?_
    refine r_if_eq hg 56 dX12_term_25 (by decide) (fun c6 => ?_) (fun c6 => ?_)
    · rw [if_pos c6] at h
      refine r_iconst hg dX12_term_56 ci_1 ?_
      exact r_ireturn hr dX12_term_57 ⟨Nat.zero_le _, Nat.zero_le _⟩ ⟨_, rfl, bz_1.1⟩ (by cases h; rfl)
    · rw [if_neg c6] at h
      exact p_X12_term_28 hΓ hg hr hX k_this ih_X12_both ih_X12_either ih_X12_part0 ih_X12_sum ih_X12_term ih_X12_test hk10 _ h
theorem pl_X12_term_10 {l : Launch} {Γ : qC} {g : qG} {z : Int32 × qI} {this : Nat} {x1 : Int32} {d : Nat} {F_X12_both : Nat → Int32 → qI → Option (Int32 × qI)} {F_X12_either : Nat → Int32 → qI → Option (Int32 × qI)} {F_X12_part0 : Nat → Int32 → qI → Option (Int32 × qI)} {F_X12_sum : Nat → Int32 → qI → Option (Int32 × qI)} {F_X12_term : Nat → Int32 → qI → Option (Int32 × qI)} {F_X12_test : Nat → Int32 → qI → Option (Int32 × qI)} {X : qX} (hΓ : q_gm Γ) (hg : q_Ok l Γ RX12 cX12_term 3 (q_rm (5 + (d + 1)) 0 0) "term" (some .boolean) g) (hr : q_Rt cX12_term (some .boolean) (q_rm (5 + (d + 1)) 0 0) (some (.int z.1), z.2, X) g) (hX : q_Lay X) (k_this : q_kd X this = some (14, 42)) (ih_X12_both : ∀ {X : qX} (_ : q_Lay X) {this : Nat} {x1 : Int32} (k_this : q_kd X this = some (14, 42)) {I : qI} {z : Int32 × qI}, F_X12_both this x1 I = some z → q_Sem l Γ (q_rm (5 + d) 0 0) yX12_both cX12_both 2 (some .boolean) [.ref this, .int x1] I X (some (.int z.1), z.2, X)) (ih_X12_either : ∀ {X : qX} (_ : q_Lay X) {this : Nat} {x1 : Int32} (k_this : q_kd X this = some (14, 42)) {I : qI} {z : Int32 × qI}, F_X12_either this x1 I = some z → q_Sem l Γ (q_rm (5 + d) 0 0) yX12_either cX12_either 2 (some .boolean) [.ref this, .int x1] I X (some (.int z.1), z.2, X)) (ih_X12_part0 : ∀ {X : qX} (_ : q_Lay X) {this : Nat} {x1 : Int32} (k_this : q_kd X this = some (14, 42)) {I : qI} {z : Int32 × qI}, F_X12_part0 this x1 I = some z → q_Sem l Γ (q_rm (5 + d) 0 0) yX12_part0 cX12_part0 2 (some .boolean) [.ref this, .int x1] I X (some (.int z.1), z.2, X)) (ih_X12_sum : ∀ {X : qX} (_ : q_Lay X) {this : Nat} {x1 : Int32} (k_this : q_kd X this = some (14, 42)) {I : qI} {z : Int32 × qI}, F_X12_sum this x1 I = some z → q_Sem l Γ (q_rm (5 + d) 0 0) yX12_sum cX12_sum 3 (some .boolean) [.ref this, .int x1] I X (some (.int z.1), z.2, X)) (ih_X12_term : ∀ {X : qX} (_ : q_Lay X) {this : Nat} {x1 : Int32} (k_this : q_kd X this = some (14, 42)) {I : qI} {z : Int32 × qI}, F_X12_term this x1 I = some z → q_Sem l Γ (q_rm (5 + d) 0 0) yX12_term cX12_term 3 (some .boolean) [.ref this, .int x1] I X (some (.int z.1), z.2, X)) (ih_X12_test : ∀ {X : qX} (_ : q_Lay X) {this : Nat} {x1 : Int32} (k_this : q_kd X this = some (14, 42)) {I : qI} {z : Int32 × qI}, F_X12_test this x1 I = some z → q_Sem l Γ (q_rm (5 + d) 0 0) yX12_test cX12_test 3 (some .boolean) [.ref this, .int x1] I X (some (.int z.1), z.2, X)) : ∀ (n : Nat) (I : qI), q_fix (fun _ => none) (b_X12_term_10 this x1 F_X12_both F_X12_either F_X12_part0 F_X12_sum F_X12_term F_X12_test) n I = some z → g 0 0 10 [(0, .ref this), (1, .int x1)] [] I X := by
  intro n
  induction n with
  | zero =>
    intro I h
    cases (show (none : Option (Int32 × qI)) = some z from h)
  | succ n ih =>
    intro I h
    exact p_X12_term_10 hΓ hg hr hX k_this ih_X12_both ih_X12_either ih_X12_part0 ih_X12_sum ih_X12_term ih_X12_test ih _ h
def B_X12_term (F_X12_both : Nat → Int32 → qI → Option (Int32 × qI)) (F_X12_either : Nat → Int32 → qI → Option (Int32 × qI)) (F_X12_part0 : Nat → Int32 → qI → Option (Int32 × qI)) (F_X12_sum : Nat → Int32 → qI → Option (Int32 × qI)) (F_X12_term : Nat → Int32 → qI → Option (Int32 × qI)) (F_X12_test : Nat → Int32 → qI → Option (Int32 × qI)) (this : Nat) (x1 : Int32) (I : qI) : Option (Int32 × qI) :=
  q_b2 (F_X12_part0 this x1 I) fun v1 I2 =>
  if v1 = 0 then
    some ((nI 0), I2)
  else
    q_fix (fun _ => none) (b_X12_term_10 this x1 F_X12_both F_X12_either F_X12_part0 F_X12_sum F_X12_term F_X12_test) q_fu I2
set_option maxRecDepth 100000 in
set_option maxHeartbeats 4000000 in
theorem t_X12_term {l : Launch} {Γ : qC} {d : Nat} {F_X12_both : Nat → Int32 → qI → Option (Int32 × qI)} {F_X12_either : Nat → Int32 → qI → Option (Int32 × qI)} {F_X12_part0 : Nat → Int32 → qI → Option (Int32 × qI)} {F_X12_sum : Nat → Int32 → qI → Option (Int32 × qI)} {F_X12_term : Nat → Int32 → qI → Option (Int32 × qI)} {F_X12_test : Nat → Int32 → qI → Option (Int32 × qI)} (hΓ : q_gm Γ) (ih_X12_both : ∀ {X : qX} (_ : q_Lay X) {this : Nat} {x1 : Int32} (k_this : q_kd X this = some (14, 42)) {I : qI} {z : Int32 × qI}, F_X12_both this x1 I = some z → q_Sem l Γ (q_rm (5 + d) 0 0) yX12_both cX12_both 2 (some .boolean) [.ref this, .int x1] I X (some (.int z.1), z.2, X)) (ih_X12_either : ∀ {X : qX} (_ : q_Lay X) {this : Nat} {x1 : Int32} (k_this : q_kd X this = some (14, 42)) {I : qI} {z : Int32 × qI}, F_X12_either this x1 I = some z → q_Sem l Γ (q_rm (5 + d) 0 0) yX12_either cX12_either 2 (some .boolean) [.ref this, .int x1] I X (some (.int z.1), z.2, X)) (ih_X12_part0 : ∀ {X : qX} (_ : q_Lay X) {this : Nat} {x1 : Int32} (k_this : q_kd X this = some (14, 42)) {I : qI} {z : Int32 × qI}, F_X12_part0 this x1 I = some z → q_Sem l Γ (q_rm (5 + d) 0 0) yX12_part0 cX12_part0 2 (some .boolean) [.ref this, .int x1] I X (some (.int z.1), z.2, X)) (ih_X12_sum : ∀ {X : qX} (_ : q_Lay X) {this : Nat} {x1 : Int32} (k_this : q_kd X this = some (14, 42)) {I : qI} {z : Int32 × qI}, F_X12_sum this x1 I = some z → q_Sem l Γ (q_rm (5 + d) 0 0) yX12_sum cX12_sum 3 (some .boolean) [.ref this, .int x1] I X (some (.int z.1), z.2, X)) (ih_X12_term : ∀ {X : qX} (_ : q_Lay X) {this : Nat} {x1 : Int32} (k_this : q_kd X this = some (14, 42)) {I : qI} {z : Int32 × qI}, F_X12_term this x1 I = some z → q_Sem l Γ (q_rm (5 + d) 0 0) yX12_term cX12_term 3 (some .boolean) [.ref this, .int x1] I X (some (.int z.1), z.2, X)) (ih_X12_test : ∀ {X : qX} (_ : q_Lay X) {this : Nat} {x1 : Int32} (k_this : q_kd X this = some (14, 42)) {I : qI} {z : Int32 × qI}, F_X12_test this x1 I = some z → q_Sem l Γ (q_rm (5 + d) 0 0) yX12_test cX12_test 3 (some .boolean) [.ref this, .int x1] I X (some (.int z.1), z.2, X)) {X : qX} (hX : q_Lay X) {this : Nat} {x1 : Int32} (k_this : q_kd X this = some (14, 42)) {I : qI} {z : Int32 × qI} (h : B_X12_term F_X12_both F_X12_either F_X12_part0 F_X12_sum F_X12_term F_X12_test this x1 I = some z) : q_Sem l Γ (q_rm (5 + (d + 1)) 0 0) yX12_term cX12_term 3 (some .boolean) [.ref this, .int x1] I X (some (.int z.1), z.2, X) := by
  refine q_met (by decide) (Nat.le_of_ble_eq_true rfl) (fun g hg hr => ?_)
  unfold B_X12_term at h
  show g 0 0 0 [(0, .ref this), (1, .int x1)] [] I X
  refine r_aload_n hg 0 dX12_term_0 rfl rfl ?_
  refine r_iload_n hg 1 dX12_term_1 rfl rfl ?_
  obtain ⟨v1, I2, e3, h⟩ := q_b2_some h
  refine r_cV1i hg dX12_term_2 mt_X12_part0 ml_X12_278 mv_X12_part0 k_this (ih_X12_part0 hX k_this e3) (q_room (by omega) (Nat.le_of_ble_eq_true rfl)) ⟨Nat.zero_le _, Nat.zero_le _⟩ (Nat.le_of_ble_eq_true rfl) ?_
  refine r_if_ne hg 10 dX12_term_5 (by decide) (fun c4 => ?_) (fun c4 => ?_)
  · rw [if_neg c4] at h
    exact pl_X12_term_10 hΓ hg hr hX k_this ih_X12_both ih_X12_either ih_X12_part0 ih_X12_sum ih_X12_term ih_X12_test _ _ h
  · rw [if_pos (Classical.not_not.mp c4)] at h
    refine r_iconst hg dX12_term_8 ci_0 ?_
    exact r_ireturn hr dX12_term_9 ⟨Nat.zero_le _, Nat.zero_le _⟩ ⟨_, rfl, bz_0.1⟩ (by cases h; rfl)

def b_X12_test_37 (this : Nat) (x1 : Int32) (F_X12_both : Nat → Int32 → qI → Option (Int32 × qI)) (F_X12_either : Nat → Int32 → qI → Option (Int32 × qI)) (F_X12_part0 : Nat → Int32 → qI → Option (Int32 × qI)) (F_X12_sum : Nat → Int32 → qI → Option (Int32 × qI)) (F_X12_term : Nat → Int32 → qI → Option (Int32 × qI)) (F_X12_test : Nat → Int32 → qI → Option (Int32 × qI)) (I : qI) : Option (Int32 × qI) :=
  q_b1 (f_X12_next this I) fun I1 =>
  q_b2 (F_X12_sum this x1 I1) fun v3 I4 =>
  if v3 = 0 then
    some ((nI 0), I4)
  else
    q_b1 (f_X12_step this (nI 2) (I this 19) I4) fun I7 =>
    some ((nI 1), I7)
set_option maxRecDepth 100000 in
set_option maxHeartbeats 4000000 in
theorem p_X12_test_37 {l : Launch} {Γ : qC} {g : qG} {z : Int32 × qI} {this : Nat} {x1 : Int32} {d : Nat} {F_X12_both : Nat → Int32 → qI → Option (Int32 × qI)} {F_X12_either : Nat → Int32 → qI → Option (Int32 × qI)} {F_X12_part0 : Nat → Int32 → qI → Option (Int32 × qI)} {F_X12_sum : Nat → Int32 → qI → Option (Int32 × qI)} {F_X12_term : Nat → Int32 → qI → Option (Int32 × qI)} {F_X12_test : Nat → Int32 → qI → Option (Int32 × qI)} {X : qX} (hΓ : q_gm Γ) (hg : q_Ok l Γ RX12 cX12_test 3 (q_rm (5 + (d + 1)) 0 0) "test" (some .boolean) g) (hr : q_Rt cX12_test (some .boolean) (q_rm (5 + (d + 1)) 0 0) (some (.int z.1), z.2, X) g) (hX : q_Lay X) (k_this : q_kd X this = some (14, 42)) (ih_X12_both : ∀ {X : qX} (_ : q_Lay X) {this : Nat} {x1 : Int32} (k_this : q_kd X this = some (14, 42)) {I : qI} {z : Int32 × qI}, F_X12_both this x1 I = some z → q_Sem l Γ (q_rm (5 + d) 0 0) yX12_both cX12_both 2 (some .boolean) [.ref this, .int x1] I X (some (.int z.1), z.2, X)) (ih_X12_either : ∀ {X : qX} (_ : q_Lay X) {this : Nat} {x1 : Int32} (k_this : q_kd X this = some (14, 42)) {I : qI} {z : Int32 × qI}, F_X12_either this x1 I = some z → q_Sem l Γ (q_rm (5 + d) 0 0) yX12_either cX12_either 2 (some .boolean) [.ref this, .int x1] I X (some (.int z.1), z.2, X)) (ih_X12_part0 : ∀ {X : qX} (_ : q_Lay X) {this : Nat} {x1 : Int32} (k_this : q_kd X this = some (14, 42)) {I : qI} {z : Int32 × qI}, F_X12_part0 this x1 I = some z → q_Sem l Γ (q_rm (5 + d) 0 0) yX12_part0 cX12_part0 2 (some .boolean) [.ref this, .int x1] I X (some (.int z.1), z.2, X)) (ih_X12_sum : ∀ {X : qX} (_ : q_Lay X) {this : Nat} {x1 : Int32} (k_this : q_kd X this = some (14, 42)) {I : qI} {z : Int32 × qI}, F_X12_sum this x1 I = some z → q_Sem l Γ (q_rm (5 + d) 0 0) yX12_sum cX12_sum 3 (some .boolean) [.ref this, .int x1] I X (some (.int z.1), z.2, X)) (ih_X12_term : ∀ {X : qX} (_ : q_Lay X) {this : Nat} {x1 : Int32} (k_this : q_kd X this = some (14, 42)) {I : qI} {z : Int32 × qI}, F_X12_term this x1 I = some z → q_Sem l Γ (q_rm (5 + d) 0 0) yX12_term cX12_term 3 (some .boolean) [.ref this, .int x1] I X (some (.int z.1), z.2, X)) (ih_X12_test : ∀ {X : qX} (_ : q_Lay X) {this : Nat} {x1 : Int32} (k_this : q_kd X this = some (14, 42)) {I : qI} {z : Int32 × qI}, F_X12_test this x1 I = some z → q_Sem l Γ (q_rm (5 + d) 0 0) yX12_test cX12_test 3 (some .boolean) [.ref this, .int x1] I X (some (.int z.1), z.2, X)) (I : qI) (h : b_X12_test_37 this x1 F_X12_both F_X12_either F_X12_part0 F_X12_sum F_X12_term F_X12_test I = some z) : g 0 0 37 [(0, .ref this), (1, .int x1)] [] I X := by
  unfold b_X12_test_37 at h
  refine r_aload_n hg 0 dX12_test_37 rfl rfl ?_
  refine r_getI hg dX12_test_38 fl_X12_238 k_this rfl ?_
  refine r_istore_n hg (L' := [(2, .int (I this 19)), (0, .ref this), (1, .int x1)]) dX12_test_41 rfl (by decide) rfl ?_
  refine r_aload_n hg 1 dX12_test_42 rfl rfl ?_
  obtain ⟨I1, e2, h⟩ := q_b1_some h
  refine r_cV0v hg dX12_test_43 mt_X12_next ml_X12_263 mv_X12_next k_this (s_X12_next hΓ hX k_this e2) (q_room (by omega) (Nat.le_of_ble_eq_true rfl)) ⟨Nat.zero_le _, Nat.zero_le _⟩ (Nat.le_of_ble_eq_true rfl) ?_
  refine r_aload_n hg 1 dX12_test_46 rfl rfl ?_
  refine r_iload_n hg 2 dX12_test_47 rfl rfl ?_
  obtain ⟨v3, I4, e5, h⟩ := q_b2_some h
  refine r_cV1i hg dX12_test_48 mt_X12_sum ml_X12_272 mv_X12_sum k_this (ih_X12_sum hX k_this e5) (q_room (by omega) (Nat.le_of_ble_eq_true rfl)) ⟨Nat.zero_le _, Nat.zero_le _⟩ (Nat.le_of_ble_eq_true rfl) ?_
  refine r_if_ne hg 56 dX12_test_51 (by decide) (fun c6 => ?_) (fun c6 => ?_)
  · rw [if_neg c6] at h
    refine r_aload_n hg 1 dX12_test_56 rfl rfl ?_
    refine r_iconst hg dX12_test_57 ci_2 ?_
    refine r_iload_n hg 0 dX12_test_58 rfl rfl ?_
    obtain ⟨I7, e8, h⟩ := q_b1_some h
    refine r_cV2v hg dX12_test_59 mt_X12_step ml_X12_266 mv_X12_step k_this (s_X12_step hΓ hX k_this e8) (q_room (by omega) (Nat.le_of_ble_eq_true rfl)) ⟨Nat.zero_le _, Nat.zero_le _⟩ (Nat.le_of_ble_eq_true rfl) ?_
    refine r_iconst hg dX12_test_62 ci_1 ?_
    exact r_ireturn hr dX12_test_63 ⟨Nat.zero_le _, Nat.zero_le _⟩ ⟨_, rfl, bz_1.1⟩ (by cases h; rfl)
  · rw [if_pos (Classical.not_not.mp c6)] at h
    refine r_iconst hg dX12_test_54 ci_0 ?_
    exact r_ireturn hr dX12_test_55 ⟨Nat.zero_le _, Nat.zero_le _⟩ ⟨_, rfl, bz_0.1⟩ (by cases h; rfl)
def B_X12_test (F_X12_both : Nat → Int32 → qI → Option (Int32 × qI)) (F_X12_either : Nat → Int32 → qI → Option (Int32 × qI)) (F_X12_part0 : Nat → Int32 → qI → Option (Int32 × qI)) (F_X12_sum : Nat → Int32 → qI → Option (Int32 × qI)) (F_X12_term : Nat → Int32 → qI → Option (Int32 × qI)) (F_X12_test : Nat → Int32 → qI → Option (Int32 × qI)) (this : Nat) (x1 : Int32) (I : qI) : Option (Int32 × qI) :=
  q_b2 (F_X12_sum this x1 I) fun v1 I2 =>
  if v1 = 0 then
    some ((nI 0), I2)
  else
    q_b1 (f_X12_isSign this (nI 60) I2) fun v5 =>
    if v5 = 0 then
      q_b1 (f_X12_isSign this (nI 61) I2) fun v8 =>
      if v8 = 0 then
        q_b1 (f_X12_isSign this (nI 62) I2) fun v11 =>
        if v11 = 0 then
          some ((nI 1), I2)
        else
          b_X12_test_37 this x1 F_X12_both F_X12_either F_X12_part0 F_X12_sum F_X12_term F_X12_test I2
      else
        b_X12_test_37 this x1 F_X12_both F_X12_either F_X12_part0 F_X12_sum F_X12_term F_X12_test I2
    else
      b_X12_test_37 this x1 F_X12_both F_X12_either F_X12_part0 F_X12_sum F_X12_term F_X12_test I2
set_option maxRecDepth 100000 in
set_option maxHeartbeats 4000000 in
theorem t_X12_test {l : Launch} {Γ : qC} {d : Nat} {F_X12_both : Nat → Int32 → qI → Option (Int32 × qI)} {F_X12_either : Nat → Int32 → qI → Option (Int32 × qI)} {F_X12_part0 : Nat → Int32 → qI → Option (Int32 × qI)} {F_X12_sum : Nat → Int32 → qI → Option (Int32 × qI)} {F_X12_term : Nat → Int32 → qI → Option (Int32 × qI)} {F_X12_test : Nat → Int32 → qI → Option (Int32 × qI)} (hΓ : q_gm Γ) (ih_X12_both : ∀ {X : qX} (_ : q_Lay X) {this : Nat} {x1 : Int32} (k_this : q_kd X this = some (14, 42)) {I : qI} {z : Int32 × qI}, F_X12_both this x1 I = some z → q_Sem l Γ (q_rm (5 + d) 0 0) yX12_both cX12_both 2 (some .boolean) [.ref this, .int x1] I X (some (.int z.1), z.2, X)) (ih_X12_either : ∀ {X : qX} (_ : q_Lay X) {this : Nat} {x1 : Int32} (k_this : q_kd X this = some (14, 42)) {I : qI} {z : Int32 × qI}, F_X12_either this x1 I = some z → q_Sem l Γ (q_rm (5 + d) 0 0) yX12_either cX12_either 2 (some .boolean) [.ref this, .int x1] I X (some (.int z.1), z.2, X)) (ih_X12_part0 : ∀ {X : qX} (_ : q_Lay X) {this : Nat} {x1 : Int32} (k_this : q_kd X this = some (14, 42)) {I : qI} {z : Int32 × qI}, F_X12_part0 this x1 I = some z → q_Sem l Γ (q_rm (5 + d) 0 0) yX12_part0 cX12_part0 2 (some .boolean) [.ref this, .int x1] I X (some (.int z.1), z.2, X)) (ih_X12_sum : ∀ {X : qX} (_ : q_Lay X) {this : Nat} {x1 : Int32} (k_this : q_kd X this = some (14, 42)) {I : qI} {z : Int32 × qI}, F_X12_sum this x1 I = some z → q_Sem l Γ (q_rm (5 + d) 0 0) yX12_sum cX12_sum 3 (some .boolean) [.ref this, .int x1] I X (some (.int z.1), z.2, X)) (ih_X12_term : ∀ {X : qX} (_ : q_Lay X) {this : Nat} {x1 : Int32} (k_this : q_kd X this = some (14, 42)) {I : qI} {z : Int32 × qI}, F_X12_term this x1 I = some z → q_Sem l Γ (q_rm (5 + d) 0 0) yX12_term cX12_term 3 (some .boolean) [.ref this, .int x1] I X (some (.int z.1), z.2, X)) (ih_X12_test : ∀ {X : qX} (_ : q_Lay X) {this : Nat} {x1 : Int32} (k_this : q_kd X this = some (14, 42)) {I : qI} {z : Int32 × qI}, F_X12_test this x1 I = some z → q_Sem l Γ (q_rm (5 + d) 0 0) yX12_test cX12_test 3 (some .boolean) [.ref this, .int x1] I X (some (.int z.1), z.2, X)) {X : qX} (hX : q_Lay X) {this : Nat} {x1 : Int32} (k_this : q_kd X this = some (14, 42)) {I : qI} {z : Int32 × qI} (h : B_X12_test F_X12_both F_X12_either F_X12_part0 F_X12_sum F_X12_term F_X12_test this x1 I = some z) : q_Sem l Γ (q_rm (5 + (d + 1)) 0 0) yX12_test cX12_test 3 (some .boolean) [.ref this, .int x1] I X (some (.int z.1), z.2, X) := by
  refine q_met (by decide) (Nat.le_of_ble_eq_true rfl) (fun g hg hr => ?_)
  unfold B_X12_test at h
  show g 0 0 0 [(0, .ref this), (1, .int x1)] [] I X
  refine r_aload_n hg 0 dX12_test_0 rfl rfl ?_
  refine r_iload_n hg 1 dX12_test_1 rfl rfl ?_
  obtain ⟨v1, I2, e3, h⟩ := q_b2_some h
  refine r_cV1i hg dX12_test_2 mt_X12_sum ml_X12_272 mv_X12_sum k_this (ih_X12_sum hX k_this e3) (q_room (by omega) (Nat.le_of_ble_eq_true rfl)) ⟨Nat.zero_le _, Nat.zero_le _⟩ (Nat.le_of_ble_eq_true rfl) ?_
  refine r_if_ne hg 10 dX12_test_5 (by decide) (fun c4 => ?_) (fun c4 => ?_)
  · rw [if_neg c4] at h
    refine r_aload_n hg 0 dX12_test_10 rfl rfl ?_
    refine r_bipush hg dX12_test_11 cb_60 ?_
    obtain ⟨v5, e6, h⟩ := q_b1_some h
    refine r_cV1i hg dX12_test_13 mt_X12_isSign ml_X12_260 mv_X12_isSign k_this (s_X12_isSign hΓ hX k_this e6) (q_room (by omega) (Nat.le_of_ble_eq_true rfl)) ⟨Nat.zero_le _, Nat.zero_le _⟩ (Nat.le_of_ble_eq_true rfl) ?_
    refine r_if_ne hg 37 dX12_test_16 (by decide) (fun c7 => ?_) (fun c7 => ?_)
    · rw [if_neg c7] at h
      exact p_X12_test_37 hΓ hg hr hX k_this ih_X12_both ih_X12_either ih_X12_part0 ih_X12_sum ih_X12_term ih_X12_test _ h
    · rw [if_pos (Classical.not_not.mp c7)] at h
      refine r_aload_n hg 0 dX12_test_19 rfl rfl ?_
      refine r_bipush hg dX12_test_20 cb_61 ?_
      obtain ⟨v8, e9, h⟩ := q_b1_some h
      refine r_cV1i hg dX12_test_22 mt_X12_isSign ml_X12_260 mv_X12_isSign k_this (s_X12_isSign hΓ hX k_this e9) (q_room (by omega) (Nat.le_of_ble_eq_true rfl)) ⟨Nat.zero_le _, Nat.zero_le _⟩ (Nat.le_of_ble_eq_true rfl) ?_
      refine r_if_ne hg 37 dX12_test_25 (by decide) (fun c10 => ?_) (fun c10 => ?_)
      · rw [if_neg c10] at h
        exact p_X12_test_37 hΓ hg hr hX k_this ih_X12_both ih_X12_either ih_X12_part0 ih_X12_sum ih_X12_term ih_X12_test _ h
      · rw [if_pos (Classical.not_not.mp c10)] at h
        refine r_aload_n hg 0 dX12_test_28 rfl rfl ?_
        refine r_bipush hg dX12_test_29 cb_62 ?_
        obtain ⟨v11, e12, h⟩ := q_b1_some h
        refine r_cV1i hg dX12_test_31 mt_X12_isSign ml_X12_260 mv_X12_isSign k_this (s_X12_isSign hΓ hX k_this e12) (q_room (by omega) (Nat.le_of_ble_eq_true rfl)) ⟨Nat.zero_le _, Nat.zero_le _⟩ (Nat.le_of_ble_eq_true rfl) ?_
        refine r_if_eq hg 62 dX12_test_34 (by decide) (fun c13 => ?_) (fun c13 => ?_)
        · rw [if_pos c13] at h
          refine r_iconst hg dX12_test_62 ci_1 ?_
          exact r_ireturn hr dX12_test_63 ⟨Nat.zero_le _, Nat.zero_le _⟩ ⟨_, rfl, bz_1.1⟩ (by cases h; rfl)
        · rw [if_neg c13] at h
          exact p_X12_test_37 hΓ hg hr hX k_this ih_X12_both ih_X12_either ih_X12_part0 ih_X12_sum ih_X12_term ih_X12_test _ h
  · rw [if_pos (Classical.not_not.mp c4)] at h
    refine r_iconst hg dX12_test_8 ci_0 ?_
    exact r_ireturn hr dX12_test_9 ⟨Nat.zero_le _, Nat.zero_le _⟩ ⟨_, rfl, bz_0.1⟩ (by cases h; rfl)

def G_X12_both : Nat → (Nat → Int32 → qI → Option (Int32 × qI)) × (Nat → Int32 → qI → Option (Int32 × qI)) × (Nat → Int32 → qI → Option (Int32 × qI)) × (Nat → Int32 → qI → Option (Int32 × qI)) × (Nat → Int32 → qI → Option (Int32 × qI)) × (Nat → Int32 → qI → Option (Int32 × qI)) := q_fix (fun _ _ _ => none, fun _ _ _ => none, fun _ _ _ => none, fun _ _ _ => none, fun _ _ _ => none, fun _ _ _ => none) (fun F => (B_X12_both (F.1) (F.2.1) (F.2.2.1) (F.2.2.2.1) (F.2.2.2.2.1) (F.2.2.2.2.2), B_X12_either (F.1) (F.2.1) (F.2.2.1) (F.2.2.2.1) (F.2.2.2.2.1) (F.2.2.2.2.2), B_X12_part0 (F.1) (F.2.1) (F.2.2.1) (F.2.2.2.1) (F.2.2.2.2.1) (F.2.2.2.2.2), B_X12_sum (F.1) (F.2.1) (F.2.2.1) (F.2.2.2.1) (F.2.2.2.2.1) (F.2.2.2.2.2), B_X12_term (F.1) (F.2.1) (F.2.2.1) (F.2.2.2.1) (F.2.2.2.2.1) (F.2.2.2.2.2), B_X12_test (F.1) (F.2.1) (F.2.2.1) (F.2.2.2.1) (F.2.2.2.2.1) (F.2.2.2.2.2)))
def f_X12_both (d : Nat) : Nat → Int32 → qI → Option (Int32 × qI) := (G_X12_both d).1
def f_X12_either (d : Nat) : Nat → Int32 → qI → Option (Int32 × qI) := (G_X12_both d).2.1
def f_X12_part0 (d : Nat) : Nat → Int32 → qI → Option (Int32 × qI) := (G_X12_both d).2.2.1
def f_X12_sum (d : Nat) : Nat → Int32 → qI → Option (Int32 × qI) := (G_X12_both d).2.2.2.1
def f_X12_term (d : Nat) : Nat → Int32 → qI → Option (Int32 × qI) := (G_X12_both d).2.2.2.2.1
def f_X12_test (d : Nat) : Nat → Int32 → qI → Option (Int32 × qI) := (G_X12_both d).2.2.2.2.2
theorem sg_X12_both {l : Launch} {Γ : qC} (hΓ : q_gm Γ) : ∀ d : Nat, (∀ {X : qX} (_ : q_Lay X) {this : Nat} {x1 : Int32} (k_this : q_kd X this = some (14, 42)) {I : qI} {z : Int32 × qI}, f_X12_both d this x1 I = some z → q_Sem l Γ (q_rm (5 + d) 0 0) yX12_both cX12_both 2 (some .boolean) [.ref this, .int x1] I X (some (.int z.1), z.2, X)) ∧ (∀ {X : qX} (_ : q_Lay X) {this : Nat} {x1 : Int32} (k_this : q_kd X this = some (14, 42)) {I : qI} {z : Int32 × qI}, f_X12_either d this x1 I = some z → q_Sem l Γ (q_rm (5 + d) 0 0) yX12_either cX12_either 2 (some .boolean) [.ref this, .int x1] I X (some (.int z.1), z.2, X)) ∧ (∀ {X : qX} (_ : q_Lay X) {this : Nat} {x1 : Int32} (k_this : q_kd X this = some (14, 42)) {I : qI} {z : Int32 × qI}, f_X12_part0 d this x1 I = some z → q_Sem l Γ (q_rm (5 + d) 0 0) yX12_part0 cX12_part0 2 (some .boolean) [.ref this, .int x1] I X (some (.int z.1), z.2, X)) ∧ (∀ {X : qX} (_ : q_Lay X) {this : Nat} {x1 : Int32} (k_this : q_kd X this = some (14, 42)) {I : qI} {z : Int32 × qI}, f_X12_sum d this x1 I = some z → q_Sem l Γ (q_rm (5 + d) 0 0) yX12_sum cX12_sum 3 (some .boolean) [.ref this, .int x1] I X (some (.int z.1), z.2, X)) ∧ (∀ {X : qX} (_ : q_Lay X) {this : Nat} {x1 : Int32} (k_this : q_kd X this = some (14, 42)) {I : qI} {z : Int32 × qI}, f_X12_term d this x1 I = some z → q_Sem l Γ (q_rm (5 + d) 0 0) yX12_term cX12_term 3 (some .boolean) [.ref this, .int x1] I X (some (.int z.1), z.2, X)) ∧ (∀ {X : qX} (_ : q_Lay X) {this : Nat} {x1 : Int32} (k_this : q_kd X this = some (14, 42)) {I : qI} {z : Int32 × qI}, f_X12_test d this x1 I = some z → q_Sem l Γ (q_rm (5 + d) 0 0) yX12_test cX12_test 3 (some .boolean) [.ref this, .int x1] I X (some (.int z.1), z.2, X)) := by
  intro d
  induction d with
  | zero =>
    refine ⟨?_, ?_, ?_, ?_, ?_, ?_⟩
    · intros; rename_i h; cases (show (none : Option (Int32 × qI)) = some _ from h)
    · intros; rename_i h; cases (show (none : Option (Int32 × qI)) = some _ from h)
    · intros; rename_i h; cases (show (none : Option (Int32 × qI)) = some _ from h)
    · intros; rename_i h; cases (show (none : Option (Int32 × qI)) = some _ from h)
    · intros; rename_i h; cases (show (none : Option (Int32 × qI)) = some _ from h)
    · intros; rename_i h; cases (show (none : Option (Int32 × qI)) = some _ from h)
  | succ d ih =>
    obtain ⟨ih0, ih1, ih2, ih3, ih4, ih5⟩ := ih
    refine ⟨?_, ?_, ?_, ?_, ?_, ?_⟩
    · intro X hX this x1 k_this I z h
      exact t_X12_both hΓ ih0 ih1 ih2 ih3 ih4 ih5 hX k_this h
    · intro X hX this x1 k_this I z h
      exact t_X12_either hΓ ih0 ih1 ih2 ih3 ih4 ih5 hX k_this h
    · intro X hX this x1 k_this I z h
      exact t_X12_part0 hΓ ih0 ih1 ih2 ih3 ih4 ih5 hX k_this h
    · intro X hX this x1 k_this I z h
      exact t_X12_sum hΓ ih0 ih1 ih2 ih3 ih4 ih5 hX k_this h
    · intro X hX this x1 k_this I z h
      exact t_X12_term hΓ ih0 ih1 ih2 ih3 ih4 ih5 hX k_this h
    · intro X hX this x1 k_this I z h
      exact t_X12_test hΓ ih0 ih1 ih2 ih3 ih4 ih5 hX k_this h
theorem s_X12_both {l : Launch} {Γ : qC} (hΓ : q_gm Γ) {d : Nat} {X : qX} (hX : q_Lay X) {this : Nat} {x1 : Int32} (k_this : q_kd X this = some (14, 42)) {I : qI} {z : Int32 × qI} (h : f_X12_both d this x1 I = some z) : q_Sem l Γ (q_rm (5 + d) 0 0) yX12_both cX12_both 2 (some .boolean) [.ref this, .int x1] I X (some (.int z.1), z.2, X) := (sg_X12_both hΓ d).1 hX k_this h
theorem s_X12_either {l : Launch} {Γ : qC} (hΓ : q_gm Γ) {d : Nat} {X : qX} (hX : q_Lay X) {this : Nat} {x1 : Int32} (k_this : q_kd X this = some (14, 42)) {I : qI} {z : Int32 × qI} (h : f_X12_either d this x1 I = some z) : q_Sem l Γ (q_rm (5 + d) 0 0) yX12_either cX12_either 2 (some .boolean) [.ref this, .int x1] I X (some (.int z.1), z.2, X) := (sg_X12_both hΓ d).2.1 hX k_this h
theorem s_X12_part0 {l : Launch} {Γ : qC} (hΓ : q_gm Γ) {d : Nat} {X : qX} (hX : q_Lay X) {this : Nat} {x1 : Int32} (k_this : q_kd X this = some (14, 42)) {I : qI} {z : Int32 × qI} (h : f_X12_part0 d this x1 I = some z) : q_Sem l Γ (q_rm (5 + d) 0 0) yX12_part0 cX12_part0 2 (some .boolean) [.ref this, .int x1] I X (some (.int z.1), z.2, X) := (sg_X12_both hΓ d).2.2.1 hX k_this h
theorem s_X12_sum {l : Launch} {Γ : qC} (hΓ : q_gm Γ) {d : Nat} {X : qX} (hX : q_Lay X) {this : Nat} {x1 : Int32} (k_this : q_kd X this = some (14, 42)) {I : qI} {z : Int32 × qI} (h : f_X12_sum d this x1 I = some z) : q_Sem l Γ (q_rm (5 + d) 0 0) yX12_sum cX12_sum 3 (some .boolean) [.ref this, .int x1] I X (some (.int z.1), z.2, X) := (sg_X12_both hΓ d).2.2.2.1 hX k_this h
theorem s_X12_term {l : Launch} {Γ : qC} (hΓ : q_gm Γ) {d : Nat} {X : qX} (hX : q_Lay X) {this : Nat} {x1 : Int32} (k_this : q_kd X this = some (14, 42)) {I : qI} {z : Int32 × qI} (h : f_X12_term d this x1 I = some z) : q_Sem l Γ (q_rm (5 + d) 0 0) yX12_term cX12_term 3 (some .boolean) [.ref this, .int x1] I X (some (.int z.1), z.2, X) := (sg_X12_both hΓ d).2.2.2.2.1 hX k_this h
theorem s_X12_test {l : Launch} {Γ : qC} (hΓ : q_gm Γ) {d : Nat} {X : qX} (hX : q_Lay X) {this : Nat} {x1 : Int32} (k_this : q_kd X this = some (14, 42)) {I : qI} {z : Int32 × qI} (h : f_X12_test d this x1 I = some z) : q_Sem l Γ (q_rm (5 + d) 0 0) yX12_test cX12_test 3 (some .boolean) [.ref this, .int x1] I X (some (.int z.1), z.2, X) := (sg_X12_both hΓ d).2.2.2.2.2 hX k_this h

def b_X12_check_96 (this : Nat) (x1 : Int32) (x2 : Int32) (x3 : Int32) (X : qX) (x4 : Int32) (x6 : Int32) (I : qI) : Option (Int32 × qI) :=
  if x6 = x4 then
    if x6 = (I this 41) then
      some ((nI 0), I)
    else
      some (((nI 1) + x6), I)
  else
    some (((nI 1) + x6), I)
set_option maxRecDepth 100000 in
set_option maxHeartbeats 4000000 in
theorem p_X12_check_96 {l : Launch} {Γ : qC} {g : qG} {z : Int32 × qI} {this : Nat} {x1 : Int32} {x2 : Int32} {x3 : Int32} {X : qX} (hΓ : q_gm Γ) (hg : q_Ok l Γ RX12 cX12_check 7 (q_rm 125 0 0) "check" (some .int) g) (hr : q_Rt cX12_check (some .int) (q_rm 125 0 0) (some (.int z.1), z.2, X) g) (hX : q_Lay X) (k_this : q_kd X this = some (14, 42)) (x4 : Int32) (x6 : Int32) (I : qI) (h : b_X12_check_96 this x1 x2 x3 X x4 x6 I = some z) : g 0 0 96 [(0, .ref this), (4, .int x4), (6, .int x6)] [] I X := by
  unfold b_X12_check_96 at h
  refine r_iload hg 2 dX12_check_96 rfl ?_
  refine r_iload hg 1 dX12_check_98 rfl ?_
  refine r_icmp_ne hg 116 dX12_check_100 (by decide) (fun c1 => ?_) (fun c1 => ?_)
  · rw [if_neg c1] at h
    refine r_iconst hg dX12_check_116 ci_1 ?_
    refine r_iload hg 2 dX12_check_117 rfl ?_
    refine r_iadd hg dX12_check_119 ?_
    exact r_ireturn hr dX12_check_120 ⟨Nat.zero_le _, Nat.zero_le _⟩ ⟨_, rfl, rfl⟩ (by cases h; rfl)
  · rw [if_pos (Classical.not_not.mp c1)] at h
    refine r_iload hg 2 dX12_check_103 rfl ?_
    refine r_aload_n hg 0 dX12_check_105 rfl rfl ?_
    refine r_getI hg dX12_check_106 fl_X12_434 k_this rfl ?_
    refine r_icmp_ne hg 116 dX12_check_109 (by decide) (fun c2 => ?_) (fun c2 => ?_)
    · rw [if_neg c2] at h
      refine r_iconst hg dX12_check_116 ci_1 ?_
      refine r_iload hg 2 dX12_check_117 rfl ?_
      refine r_iadd hg dX12_check_119 ?_
      exact r_ireturn hr dX12_check_120 ⟨Nat.zero_le _, Nat.zero_le _⟩ ⟨_, rfl, rfl⟩ (by cases h; rfl)
    · rw [if_pos (Classical.not_not.mp c2)] at h
      refine r_iconst hg dX12_check_112 ci_0 ?_
      refine r_goto hg 120 dX12_check_113 (by decide) ?_
      exact r_ireturn hr dX12_check_120 ⟨Nat.zero_le _, Nat.zero_le _⟩ ⟨_, rfl, rfl⟩ (by cases h; rfl)
def b_X12_check_57 (this : Nat) (x1 : Int32) (x2 : Int32) (x3 : Int32) (X : qX) (k57 : Int32 → Int32 → qI → Option (Int32 × qI)) (x4 : Int32) (x6 : Int32) (I : qI) : Option (Int32 × qI) :=
  if x4 ≤ x6 then
    b_X12_check_96 this x1 x2 x3 X x4 x6 I
  else
    if (I this 41) ≤ x6 then
      b_X12_check_96 this x1 x2 x3 X x4 x6 I
    else
      q_b1 (q_rd I (this + 16) 60 x6) fun v4 =>
      q_b1 (q_rd I (this + 17) 60 x6) fun v7 =>
      if v4 = v7 then
        k57 x4 (x6 + (nI 1)) I
      else
        b_X12_check_96 this x1 x2 x3 X x4 x6 I
set_option maxRecDepth 100000 in
set_option maxHeartbeats 4000000 in
theorem p_X12_check_57 {l : Launch} {Γ : qC} {g : qG} {z : Int32 × qI} {this : Nat} {x1 : Int32} {x2 : Int32} {x3 : Int32} {X : qX} (hΓ : q_gm Γ) (hg : q_Ok l Γ RX12 cX12_check 7 (q_rm 125 0 0) "check" (some .int) g) (hr : q_Rt cX12_check (some .int) (q_rm 125 0 0) (some (.int z.1), z.2, X) g) (hX : q_Lay X) (k_this : q_kd X this = some (14, 42)) {k57 : Int32 → Int32 → qI → Option (Int32 × qI)} (hk57 : ∀ (x4 : Int32) (x6 : Int32) (I : qI), k57 x4 x6 I = some z → g 0 0 57 [(0, .ref this), (4, .int x4), (6, .int x6)] [] I X) (x4 : Int32) (x6 : Int32) (I : qI) (h : b_X12_check_57 this x1 x2 x3 X k57 x4 x6 I = some z) : g 0 0 57 [(0, .ref this), (4, .int x4), (6, .int x6)] [] I X := by
  unfold b_X12_check_57 at h
  refine r_iload hg 2 dX12_check_57 rfl ?_
  refine r_iload hg 1 dX12_check_59 rfl ?_
  refine r_icmp_ge hg 96 dX12_check_61 (by decide) (fun c1 => ?_) (fun c1 => ?_)
  · rw [if_pos c1] at h
    exact p_X12_check_96 hΓ hg hr hX k_this _ _ _ h
  · rw [if_neg c1] at h
    refine r_iload hg 2 dX12_check_64 rfl ?_
    refine r_aload_n hg 0 dX12_check_66 rfl rfl ?_
    refine r_getI hg dX12_check_67 fl_X12_434 k_this rfl ?_
    refine r_icmp_ge hg 96 dX12_check_70 (by decide) (fun c2 => ?_) (fun c2 => ?_)
    · rw [if_pos c2] at h
      exact p_X12_check_96 hΓ hg hr hX k_this _ _ _ h
    · rw [if_neg c2] at h
      refine r_aload_n hg 0 dX12_check_73 rfl rfl ?_
      have e3 := ly_12_38 hX k_this
      refine r_getR hg dX12_check_74 fl_X12_55 k_this rfl e3.1 ?_
      refine r_iload hg 2 dX12_check_77 rfl ?_
      obtain ⟨v4, e5, h⟩ := q_b1_some h
      refine r_iald hg dX12_check_79 e3.2 e5 ?_
      refine r_aload_n hg 0 dX12_check_80 rfl rfl ?_
      have e6 := ly_12_40 hX k_this
      refine r_getR hg dX12_check_81 fl_X12_58 k_this rfl e6.1 ?_
      refine r_iload hg 2 dX12_check_84 rfl ?_
      obtain ⟨v7, e8, h⟩ := q_b1_some h
      refine r_iald hg dX12_check_86 e6.2 e8 ?_
      refine r_icmp_ne hg 96 dX12_check_87 (by decide) (fun c9 => ?_) (fun c9 => ?_)
      · rw [if_neg c9] at h
        exact p_X12_check_96 hΓ hg hr hX k_this _ _ _ h
      · rw [if_pos (Classical.not_not.mp c9)] at h
        refine r_iinc hg 2 (v := (x6 + (nI 1))) (L' := [(6, .int (x6 + (nI 1))), (0, .ref this), (4, .int x4)]) dX12_check_90 rfl (by rw [ci_1]) (by decide) rfl ?_
        refine r_goto hg 57 dX12_check_93 (by decide) ?_
        refine r_sub hg [1, 2, 0] rfl ?_
        exact hk57 _ _ _ h
theorem pl_X12_check_57 {l : Launch} {Γ : qC} {g : qG} {z : Int32 × qI} {this : Nat} {x1 : Int32} {x2 : Int32} {x3 : Int32} {X : qX} (hΓ : q_gm Γ) (hg : q_Ok l Γ RX12 cX12_check 7 (q_rm 125 0 0) "check" (some .int) g) (hr : q_Rt cX12_check (some .int) (q_rm 125 0 0) (some (.int z.1), z.2, X) g) (hX : q_Lay X) (k_this : q_kd X this = some (14, 42)) : ∀ (n : Nat) (x4 : Int32) (x6 : Int32) (I : qI), q_fix (fun _ _ _ => none) (b_X12_check_57 this x1 x2 x3 X) n x4 x6 I = some z → g 0 0 57 [(0, .ref this), (4, .int x4), (6, .int x6)] [] I X := by
  intro n
  induction n with
  | zero =>
    intro x4 x6 I h
    cases (show (none : Option (Int32 × qI)) = some z from h)
  | succ n ih =>
    intro x4 x6 I h
    exact p_X12_check_57 hΓ hg hr hX k_this ih _ _ _ h
def b_X12_check_44 (this : Nat) (x1 : Int32) (x2 : Int32) (x3 : Int32) (X : qX) (x4 : Int32) (s0 : Int32) (I : qI) : Option (Int32 × qI) :=
  if s0 = 0 then
    q_fix (fun _ _ _ => none) (b_X12_check_57 this x1 x2 x3 X) q_fu x4 (nI 0) I
  else
    some (s0, I)
set_option maxRecDepth 100000 in
set_option maxHeartbeats 4000000 in
theorem p_X12_check_44 {l : Launch} {Γ : qC} {g : qG} {z : Int32 × qI} {this : Nat} {x1 : Int32} {x2 : Int32} {x3 : Int32} {X : qX} (hΓ : q_gm Γ) (hg : q_Ok l Γ RX12 cX12_check 7 (q_rm 125 0 0) "check" (some .int) g) (hr : q_Rt cX12_check (some .int) (q_rm 125 0 0) (some (.int z.1), z.2, X) g) (hX : q_Lay X) (k_this : q_kd X this = some (14, 42)) (x4 : Int32) (s0 : Int32) (I : qI) (h : b_X12_check_44 this x1 x2 x3 X x4 s0 I = some z) : g 0 0 44 [(0, .ref this), (4, .int x4)] [.int s0] I X := by
  unfold b_X12_check_44 at h
  refine r_istore hg (L' := [(5, .int s0), (0, .ref this), (4, .int x4)]) dX12_check_44 (by decide) rfl ?_
  refine r_iload hg 0 dX12_check_46 rfl ?_
  refine r_if_eq hg 54 dX12_check_48 (by decide) (fun c1 => ?_) (fun c1 => ?_)
  · rw [if_pos c1] at h
    refine r_iconst hg dX12_check_54 ci_0 ?_
    refine r_istore hg (L' := [(6, .int (nI 0)), (5, .int s0), (0, .ref this), (4, .int x4)]) dX12_check_55 (by decide) rfl ?_
    refine r_sub hg [2, 3, 0] rfl ?_
    exact pl_X12_check_57 hΓ hg hr hX k_this _ _ _ _ h
  · rw [if_neg c1] at h
    refine r_iload hg 0 dX12_check_51 rfl ?_
    exact r_ireturn hr dX12_check_53 ⟨Nat.zero_le _, Nat.zero_le _⟩ ⟨_, rfl, rfl⟩ (by cases h; rfl)
def f_X12_check (this : Nat) (x1 : Int32) (x2 : Int32) (x3 : Int32) (X : qX) (I : qI) : Option (Int32 × qI) :=
  q_b1 (some (q_up I this 39 (nI 0))) fun I1 =>
  q_b1 (some (q_up I1 this 41 (nI 0))) fun I3 =>
  if x1 = 0 then
    q_b2 (f_X12_rowsOfOrder this x2 x3 I3) fun v10 I11 =>
    b_X12_check_44 this x1 x2 x3 X (I this 39) v10 I11
  else
    if x1 = (nI 1) then
      q_b2 (f_X12_rowsOfDays this x2 X I3) fun v7 I8 =>
      b_X12_check_44 this x1 x2 x3 X (I this 39) v7 I8
    else
      b_X12_check_44 this x1 x2 x3 X (I this 39) (-1000000001) I3
set_option maxRecDepth 100000 in
set_option maxHeartbeats 4000000 in
theorem s_X12_check {l : Launch} {Γ : qC} (hΓ : q_gm Γ) {X : qX} (hX : q_Lay X) {this : Nat} {x1 : Int32} {x2 : Int32} {x3 : Int32} (k_this : q_kd X this = some (14, 42)) {I : qI} {z : Int32 × qI} (h : f_X12_check this x1 x2 x3 X I = some z) : q_Sem l Γ (q_rm 125 0 0) yX12_check cX12_check 7 (some .int) [.ref this, .int x1, .int x2, .int x3] I X (some (.int z.1), z.2, X) := by
  refine q_met (by decide) (Nat.le_of_ble_eq_true rfl) (fun g hg hr => ?_)
  unfold f_X12_check at h
  show g 0 0 0 [(0, .ref this), (1, .int x1), (2, .int x2), (3, .int x3)] [] I X
  refine r_aload_n hg 0 dX12_check_0 rfl rfl ?_
  refine r_getI hg dX12_check_1 fl_X12_431 k_this rfl ?_
  refine r_istore hg (L' := [(4, .int (I this 39)), (0, .ref this), (1, .int x1), (2, .int x2), (3, .int x3)]) dX12_check_4 (by decide) rfl ?_
  refine r_aload_n hg 1 dX12_check_6 rfl rfl ?_
  refine r_iconst hg dX12_check_7 ci_0 ?_
  obtain ⟨I1, e2, h⟩ := q_b1_some h
  obtain rfl := Option.some.inj e2
  refine r_putI hg dX12_check_8 fl_X12_431 k_this rfl ⟨rfl, rfl⟩ ?_
  refine r_aload_n hg 1 dX12_check_11 rfl rfl ?_
  refine r_iconst hg dX12_check_12 ci_0 ?_
  obtain ⟨I3, e4, h⟩ := q_b1_some h
  obtain rfl := Option.some.inj e4
  refine r_putI hg dX12_check_13 fl_X12_434 k_this rfl ⟨rfl, rfl⟩ ?_
  refine r_iload_n hg 2 dX12_check_16 rfl rfl ?_
  refine r_if_ne hg 29 dX12_check_17 (by decide) (fun c5 => ?_) (fun c5 => ?_)
  · rw [if_neg c5] at h
    refine r_iload_n hg 2 dX12_check_29 rfl rfl ?_
    refine r_iconst hg dX12_check_30 ci_1 ?_
    refine r_icmp_ne hg 42 dX12_check_31 (by decide) (fun c6 => ?_) (fun c6 => ?_)
    · rw [if_neg c6] at h
      refine r_ldc hg dX12_check_42 kc_X12_90 ?_
      refine r_sub hg [1, 0] rfl ?_
      exact p_X12_check_44 hΓ hg hr hX k_this _ _ _ h
    · rw [if_pos (Classical.not_not.mp c6)] at h
      refine r_aload_n hg 1 dX12_check_34 rfl rfl ?_
      refine r_iload_n hg 3 dX12_check_35 rfl rfl ?_
      obtain ⟨v7, I8, e9, h⟩ := q_b2_some h
      refine r_cV1i hg dX12_check_36 mt_X12_rowsOfDays ml_X12_451 mv_X12_rowsOfDays k_this (s_X12_rowsOfDays hΓ hX k_this e9) (q_room (Nat.le_of_ble_eq_true rfl) (Nat.le_of_ble_eq_true rfl)) ⟨Nat.zero_le _, Nat.zero_le _⟩ (Nat.le_of_ble_eq_true rfl) ?_
      refine r_goto hg 44 dX12_check_39 (by decide) ?_
      refine r_sub hg [1, 0] rfl ?_
      exact p_X12_check_44 hΓ hg hr hX k_this _ _ _ h
  · rw [if_pos (Classical.not_not.mp c5)] at h
    refine r_aload_n hg 1 dX12_check_20 rfl rfl ?_
    refine r_iload_n hg 3 dX12_check_21 rfl rfl ?_
    refine r_iload_n hg 4 dX12_check_22 rfl rfl ?_
    obtain ⟨v10, I11, e12, h⟩ := q_b2_some h
    refine r_cV2i hg dX12_check_23 mt_X12_rowsOfOrder ml_X12_448 mv_X12_rowsOfOrder k_this (s_X12_rowsOfOrder hΓ hX k_this e12) (q_room (Nat.le_of_ble_eq_true rfl) (Nat.le_of_ble_eq_true rfl)) ⟨Nat.zero_le _, Nat.zero_le _⟩ (Nat.le_of_ble_eq_true rfl) ?_
    refine r_goto hg 44 dX12_check_26 (by decide) ?_
    refine r_sub hg [1, 0] rfl ?_
    exact p_X12_check_44 hΓ hg hr hX k_this _ _ _ h

def b_X12_parse_111 (this : Nat) (x1 : Int32) (x2 : Int32) (I : qI) : Option (Int32 × qI) :=
  q_b1 (some (q_up I this 14 (nI 0))) fun I1 =>
  if x2 = 0 then
    some ((-1), I1)
  else
    some (x1, I1)
set_option maxRecDepth 100000 in
set_option maxHeartbeats 4000000 in
theorem p_X12_parse_111 {l : Launch} {Γ : qC} {g : qG} {z : Int32 × qI} {this : Nat} {X : qX} (hΓ : q_gm Γ) (hg : q_Ok l Γ RX12 cX12_parse 3 (q_rm 126 0 0) "parse" (some .int) g) (hr : q_Rt cX12_parse (some .int) (q_rm 126 0 0) (some (.int z.1), z.2, X) g) (hX : q_Lay X) (k_this : q_kd X this = some (14, 42)) (x1 : Int32) (x2 : Int32) (I : qI) (h : b_X12_parse_111 this x1 x2 I = some z) : g 0 0 111 [(0, .ref this), (1, .int x1), (2, .int x2)] [] I X := by
  unfold b_X12_parse_111 at h
  refine r_aload_n hg 0 dX12_parse_111 rfl rfl ?_
  refine r_iconst hg dX12_parse_112 ci_0 ?_
  obtain ⟨I1, e2, h⟩ := q_b1_some h
  obtain rfl := Option.some.inj e2
  refine r_putI hg dX12_parse_113 fl_X12_215 k_this rfl ⟨rfl, rfl⟩ ?_
  refine r_iload_n hg 2 dX12_parse_116 rfl rfl ?_
  refine r_if_eq hg 124 dX12_parse_117 (by decide) (fun c3 => ?_) (fun c3 => ?_)
  · rw [if_pos c3] at h
    refine r_iconst hg dX12_parse_124 ci_m1 ?_
    exact r_ireturn hr dX12_parse_125 ⟨Nat.zero_le _, Nat.zero_le _⟩ ⟨_, rfl, rfl⟩ (by cases h; rfl)
  · rw [if_neg c3] at h
    refine r_iload_n hg 1 dX12_parse_120 rfl rfl ?_
    refine r_goto hg 125 dX12_parse_121 (by decide) ?_
    exact r_ireturn hr dX12_parse_125 ⟨Nat.zero_le _, Nat.zero_le _⟩ ⟨_, rfl, rfl⟩ (by cases h; rfl)
def b_X12_parse_110 (this : Nat) (x1 : Int32) (s0 : Int32) (I : qI) : Option (Int32 × qI) :=
  b_X12_parse_111 this x1 s0 I
set_option maxRecDepth 100000 in
set_option maxHeartbeats 4000000 in
theorem p_X12_parse_110 {l : Launch} {Γ : qC} {g : qG} {z : Int32 × qI} {this : Nat} {X : qX} (hΓ : q_gm Γ) (hg : q_Ok l Γ RX12 cX12_parse 3 (q_rm 126 0 0) "parse" (some .int) g) (hr : q_Rt cX12_parse (some .int) (q_rm 126 0 0) (some (.int z.1), z.2, X) g) (hX : q_Lay X) (k_this : q_kd X this = some (14, 42)) (x1 : Int32) (s0 : Int32) (I : qI) (h : b_X12_parse_110 this x1 s0 I = some z) : g 0 0 110 [(0, .ref this), (1, .int x1)] [.int s0] I X := by
  unfold b_X12_parse_110 at h
  refine r_istore_n hg (L' := [(2, .int s0), (0, .ref this), (1, .int x1)]) dX12_parse_110 rfl (by decide) rfl ?_
  refine r_sub hg [1, 2, 0] rfl ?_
  exact p_X12_parse_111 hΓ hg hr hX k_this _ _ _ h
def b_X12_parse_109 (this : Nat) (x1 : Int32) (I : qI) : Option (Int32 × qI) :=
  b_X12_parse_110 this x1 (nI 0) I
set_option maxRecDepth 100000 in
set_option maxHeartbeats 4000000 in
theorem p_X12_parse_109 {l : Launch} {Γ : qC} {g : qG} {z : Int32 × qI} {this : Nat} {X : qX} (hΓ : q_gm Γ) (hg : q_Ok l Γ RX12 cX12_parse 3 (q_rm 126 0 0) "parse" (some .int) g) (hr : q_Rt cX12_parse (some .int) (q_rm 126 0 0) (some (.int z.1), z.2, X) g) (hX : q_Lay X) (k_this : q_kd X this = some (14, 42)) (x1 : Int32) (I : qI) (h : b_X12_parse_109 this x1 I = some z) : g 0 0 109 [(0, .ref this), (1, .int x1)] [] I X := by
  unfold b_X12_parse_109 at h
  refine r_iconst hg dX12_parse_109 ci_0 ?_
  exact p_X12_parse_110 hΓ hg hr hX k_this _ _ _ h
def b_X12_parse_81 (this : Nat) (x1 : Int32) (s0 : Int32) (I : qI) : Option (Int32 × qI) :=
  if s0 = 0 then
    b_X12_parse_111 this x1 s0 I
  else
    q_b1 (f_X12_next this I) fun I2 =>
    q_b2 (f_X12_either q_rd0 this x1 I2) fun v4 I5 =>
    if v4 = 0 then
      b_X12_parse_109 this x1 I5
    else
      if (I5 this 17) = 0 then
        b_X12_parse_110 this x1 (nI 1) I5
      else
        b_X12_parse_109 this x1 I5
set_option maxRecDepth 100000 in
set_option maxHeartbeats 4000000 in
theorem p_X12_parse_81 {l : Launch} {Γ : qC} {g : qG} {z : Int32 × qI} {this : Nat} {X : qX} (hΓ : q_gm Γ) (hg : q_Ok l Γ RX12 cX12_parse 3 (q_rm 126 0 0) "parse" (some .int) g) (hr : q_Rt cX12_parse (some .int) (q_rm 126 0 0) (some (.int z.1), z.2, X) g) (hX : q_Lay X) (k_this : q_kd X this = some (14, 42)) (x1 : Int32) (s0 : Int32) (I : qI) (h : b_X12_parse_81 this x1 s0 I = some z) : g 0 0 81 [(0, .ref this), (1, .int x1)] [.int s0] I X := by
  unfold b_X12_parse_81 at h
  refine r_istore_n hg (L' := [(2, .int s0), (0, .ref this), (1, .int x1)]) dX12_parse_81 rfl (by decide) rfl ?_
  refine r_iload_n hg 0 dX12_parse_82 rfl rfl ?_
  refine r_if_eq hg 111 dX12_parse_83 (by decide) (fun c1 => ?_) (fun c1 => ?_)
  · rw [if_pos c1] at h
    refine r_sub hg [1, 2, 0] rfl ?_
    exact p_X12_parse_111 hΓ hg hr hX k_this _ _ _ h
  · rw [if_neg c1] at h
    refine r_aload_n hg 1 dX12_parse_86 rfl rfl ?_
    obtain ⟨I2, e3, h⟩ := q_b1_some h
    refine r_cV0v hg dX12_parse_87 mt_X12_next ml_X12_263 mv_X12_next k_this (s_X12_next hΓ hX k_this e3) (q_room (Nat.le_of_ble_eq_true rfl) (Nat.le_of_ble_eq_true rfl)) ⟨Nat.zero_le _, Nat.zero_le _⟩ (Nat.le_of_ble_eq_true rfl) ?_
    refine r_aload_n hg 1 dX12_parse_90 rfl rfl ?_
    refine r_iload_n hg 2 dX12_parse_91 rfl rfl ?_
    obtain ⟨v4, I5, e6, h⟩ := q_b2_some h
    refine r_cV1i hg dX12_parse_92 mt_X12_either ml_X12_294 mv_X12_either k_this (s_X12_either hΓ hX k_this e6) (q_room (Nat.le_of_ble_eq_true rfl) (Nat.le_of_ble_eq_true rfl)) ⟨Nat.zero_le _, Nat.zero_le _⟩ (Nat.le_of_ble_eq_true rfl) ?_
    refine r_if_eq hg 109 dX12_parse_95 (by decide) (fun c7 => ?_) (fun c7 => ?_)
    · rw [if_pos c7] at h
      refine r_sub hg [1, 2] rfl ?_
      exact p_X12_parse_109 hΓ hg hr hX k_this _ _ h
    · rw [if_neg c7] at h
      refine r_aload_n hg 1 dX12_parse_98 rfl rfl ?_
      refine r_getI hg dX12_parse_99 fl_X12_229 k_this rfl ?_
      refine r_if_ne hg 109 dX12_parse_102 (by decide) (fun c8 => ?_) (fun c8 => ?_)
      · rw [if_neg c8] at h
        refine r_sub hg [1, 2] rfl ?_
        exact p_X12_parse_109 hΓ hg hr hX k_this _ _ h
      · rw [if_pos (Classical.not_not.mp c8)] at h
        refine r_iconst hg dX12_parse_105 ci_1 ?_
        refine r_goto hg 110 dX12_parse_106 (by decide) ?_
        refine r_sub hg [1, 2] rfl ?_
        exact p_X12_parse_110 hΓ hg hr hX k_this _ _ _ h
def b_X12_parse_60 (this : Nat) (s1 : Int32) (I : qI) : Option (Int32 × qI) :=
  q_b1 (some (q_up I this 23 s1)) fun I1 =>
  q_b1 (f_X12_next this I1) fun I3 =>
  q_b1 (f_X12_key this I3) fun v5 =>
  if v5 < 0 then
    b_X12_parse_81 this v5 (nI 0) I3
  else
    b_X12_parse_81 this v5 (nI 1) I3
set_option maxRecDepth 100000 in
set_option maxHeartbeats 4000000 in
theorem p_X12_parse_60 {l : Launch} {Γ : qC} {g : qG} {z : Int32 × qI} {this : Nat} {X : qX} (hΓ : q_gm Γ) (hg : q_Ok l Γ RX12 cX12_parse 3 (q_rm 126 0 0) "parse" (some .int) g) (hr : q_Rt cX12_parse (some .int) (q_rm 126 0 0) (some (.int z.1), z.2, X) g) (hX : q_Lay X) (k_this : q_kd X this = some (14, 42)) (s1 : Int32) (I : qI) (h : b_X12_parse_60 this s1 I = some z) : g 0 0 60 [(0, .ref this)] [.int s1, .ref this] I X := by
  unfold b_X12_parse_60 at h
  obtain ⟨I1, e2, h⟩ := q_b1_some h
  obtain rfl := Option.some.inj e2
  refine r_putI hg dX12_parse_60 fl_X12_251 k_this rfl ⟨rfl, rfl⟩ ?_
  refine r_aload_n hg 0 dX12_parse_63 rfl rfl ?_
  obtain ⟨I3, e4, h⟩ := q_b1_some h
  refine r_cV0v hg dX12_parse_64 mt_X12_next ml_X12_263 mv_X12_next k_this (s_X12_next hΓ hX k_this e4) (q_room (Nat.le_of_ble_eq_true rfl) (Nat.le_of_ble_eq_true rfl)) ⟨Nat.zero_le _, Nat.zero_le _⟩ (Nat.le_of_ble_eq_true rfl) ?_
  refine r_aload_n hg 0 dX12_parse_67 rfl rfl ?_
  obtain ⟨v5, e6, h⟩ := q_b1_some h
  refine r_cV0i hg dX12_parse_68 mt_X12_key ml_X12_300 mv_X12_key k_this (s_X12_key hΓ hX k_this e6) (q_room (Nat.le_of_ble_eq_true rfl) (Nat.le_of_ble_eq_true rfl)) ⟨Nat.zero_le _, Nat.zero_le _⟩ (Nat.le_of_ble_eq_true rfl) ?_
  refine r_istore_n hg (L' := [(1, .int v5), (0, .ref this)]) dX12_parse_71 rfl (by decide) rfl ?_
  refine r_iload_n hg 0 dX12_parse_72 rfl rfl ?_
  refine r_if_lt hg 80 dX12_parse_73 (by decide) (fun c7 => ?_) (fun c7 => ?_)
  · rw [if_pos c7] at h
    refine r_iconst hg dX12_parse_80 ci_0 ?_
    refine r_sub hg [1, 0] rfl ?_
    exact p_X12_parse_81 hΓ hg hr hX k_this _ _ _ h
  · rw [if_neg c7] at h
    refine r_iconst hg dX12_parse_76 ci_1 ?_
    refine r_goto hg 81 dX12_parse_77 (by decide) ?_
    refine r_sub hg [1, 0] rfl ?_
    exact p_X12_parse_81 hΓ hg hr hX k_this _ _ _ h
def f_X12_parse (this : Nat) (I : qI) : Option (Int32 × qI) :=
  q_b1 (some (q_up I this 16 (nI 0))) fun I1 =>
  q_b1 (some (q_up I1 this 17 (nI 3))) fun I3 =>
  q_b1 (some (q_up I3 this 20 (nI 0))) fun I5 =>
  q_b1 (some (q_up I5 this 21 (nI 0))) fun I7 =>
  q_b1 (some (q_up I7 this 22 (nI 0))) fun I9 =>
  q_b1 (some (q_up I9 this 24 (nI 0))) fun I11 =>
  q_b1 (q_rd I11 (this + 1) 3580 (nI 4)) fun v14 =>
  if (nI 12) ≤ v14 then
    b_X12_parse_60 this (nI 3380) I11
  else
    q_b1 (q_rd I11 (this + 1) 3580 (nI 4)) fun v18 =>
    q_b1 (f_X12_textAt this v18) fun v20 =>
    b_X12_parse_60 this (v20 + (nI 4)) I11
set_option maxRecDepth 100000 in
set_option maxHeartbeats 4000000 in
theorem s_X12_parse {l : Launch} {Γ : qC} (hΓ : q_gm Γ) {X : qX} (hX : q_Lay X) {this : Nat} (k_this : q_kd X this = some (14, 42)) {I : qI} {z : Int32 × qI} (h : f_X12_parse this I = some z) : q_Sem l Γ (q_rm 126 0 0) yX12_parse cX12_parse 3 (some .int) [.ref this] I X (some (.int z.1), z.2, X) := by
  refine q_met (by decide) (Nat.le_of_ble_eq_true rfl) (fun g hg hr => ?_)
  unfold f_X12_parse at h
  show g 0 0 0 [(0, .ref this)] [] I X
  refine r_aload_n hg 0 dX12_parse_0 rfl rfl ?_
  refine r_iconst hg dX12_parse_1 ci_0 ?_
  obtain ⟨I1, e2, h⟩ := q_b1_some h
  obtain rfl := Option.some.inj e2
  refine r_putI hg dX12_parse_2 fl_X12_226 k_this rfl ⟨rfl, rfl⟩ ?_
  refine r_aload_n hg 0 dX12_parse_5 rfl rfl ?_
  refine r_iconst hg dX12_parse_6 ci_3 ?_
  obtain ⟨I3, e4, h⟩ := q_b1_some h
  obtain rfl := Option.some.inj e4
  refine r_putI hg dX12_parse_7 fl_X12_229 k_this rfl ⟨rfl, rfl⟩ ?_
  refine r_aload_n hg 0 dX12_parse_10 rfl rfl ?_
  refine r_iconst hg dX12_parse_11 ci_0 ?_
  obtain ⟨I5, e6, h⟩ := q_b1_some h
  obtain rfl := Option.some.inj e6
  refine r_putI hg dX12_parse_12 fl_X12_291 k_this rfl ⟨rfl, rfl⟩ ?_
  refine r_aload_n hg 0 dX12_parse_15 rfl rfl ?_
  refine r_iconst hg dX12_parse_16 ci_0 ?_
  obtain ⟨I7, e8, h⟩ := q_b1_some h
  obtain rfl := Option.some.inj e8
  refine r_putI hg dX12_parse_17 fl_X12_288 k_this rfl ⟨rfl, rfl⟩ ?_
  refine r_aload_n hg 0 dX12_parse_20 rfl rfl ?_
  refine r_iconst hg dX12_parse_21 ci_0 ?_
  obtain ⟨I9, e10, h⟩ := q_b1_some h
  obtain rfl := Option.some.inj e10
  refine r_putI hg dX12_parse_22 fl_X12_254 k_this rfl ⟨rfl, rfl⟩ ?_
  refine r_aload_n hg 0 dX12_parse_25 rfl rfl ?_
  refine r_iconst hg dX12_parse_26 ci_0 ?_
  obtain ⟨I11, e12, h⟩ := q_b1_some h
  obtain rfl := Option.some.inj e12
  refine r_putI hg dX12_parse_27 fl_X12_281 k_this rfl ⟨rfl, rfl⟩ ?_
  refine r_aload_n hg 0 dX12_parse_30 rfl rfl ?_
  refine r_aload_n hg 0 dX12_parse_31 rfl rfl ?_
  have e13 := ly_12_0 hX k_this
  refine r_getR hg dX12_parse_32 fl_X12_7 k_this rfl e13.1 ?_
  refine r_iconst hg dX12_parse_35 ci_4 ?_
  obtain ⟨v14, e15, h⟩ := q_b1_some h
  refine r_iald hg dX12_parse_36 e13.2 e15 ?_
  refine r_bipush hg dX12_parse_37 cb_12 ?_
  refine r_icmp_ge hg 57 dX12_parse_39 (by decide) (fun c16 => ?_) (fun c16 => ?_)
  · rw [if_pos c16] at h
    refine r_sipush hg dX12_parse_57 cs_3380 ?_
    exact p_X12_parse_60 hΓ hg hr hX k_this _ _ h
  · rw [if_neg c16] at h
    refine r_aload_n hg 0 dX12_parse_42 rfl rfl ?_
    refine r_aload_n hg 0 dX12_parse_43 rfl rfl ?_
    have e17 := ly_12_0 hX k_this
    refine r_getR hg dX12_parse_44 fl_X12_7 k_this rfl e17.1 ?_
    refine r_iconst hg dX12_parse_47 ci_4 ?_
    obtain ⟨v18, e19, h⟩ := q_b1_some h
    refine r_iald hg dX12_parse_48 e17.2 e19 ?_
    obtain ⟨v20, e21, h⟩ := q_b1_some h
    refine r_cV1i hg dX12_parse_49 mt_X12_textAt ml_X12_297 mv_X12_textAt k_this (s_X12_textAt hΓ hX k_this e21) (q_room (Nat.le_of_ble_eq_true rfl) (Nat.le_of_ble_eq_true rfl)) ⟨Nat.zero_le _, Nat.zero_le _⟩ (Nat.le_of_ble_eq_true rfl) ?_
    refine r_iconst hg dX12_parse_52 ci_4 ?_
    refine r_iadd hg dX12_parse_53 ?_
    refine r_goto hg 60 dX12_parse_54 (by decide) ?_
    exact p_X12_parse_60 hΓ hg hr hX k_this _ _ h

def f_X12_text (this : Nat) (x1 : Int32) (I : qI) : Option (Int32 × qI) :=
  q_b1 (f_X12_isIn x1.toInt64 (0 : Int64) (6999 : Int64)) fun v1 =>
  q_b2 (f_X12_parse this I) fun v3 I4 =>
  if v1 = 0 then
    some ((-1000000001), I4)
  else
    if 0 ≤ v3 then
      q_b1 (q_rd I4 (this + 1) 3580 (nI 4)) fun v9 =>
      if v9 = (nI 12) then
        some ((-1000000003), I4)
      else
        q_b1 (q_rd I4 (this + 1) 3580 (nI 4)) fun v13 =>
        q_b1 (f_X12_textAt this v13) fun v15 =>
        q_b1 (q_wr I4 (this + 1) 3580 (v15 + (nI 0)) v3) fun I18 =>
        q_b1 (q_wr I18 (this + 1) 3580 (v15 + (nI 1)) x1) fun I21 =>
        q_b1 (q_wr I21 (this + 1) 3580 (v15 + (nI 2)) (I21 this 24)) fun I24 =>
        q_b1 (q_wr I24 (this + 1) 3580 (v15 + (nI 3)) (I24 this 22)) fun I27 =>
        q_b1 (q_rd I27 (this + 1) 3580 (nI 4)) fun v30 =>
        q_b1 (q_wr I27 (this + 1) 3580 (nI 4) (v30 + (nI 1))) fun I32 =>
        q_b1 (q_rd I32 (this + 1) 3580 (nI 4)) fun v35 =>
        some ((v35 - (nI 1)), I32)
    else
      some (((-100) - (I4 this 15)), I4)
set_option maxRecDepth 100000 in
set_option maxHeartbeats 4000000 in
theorem s_X12_text {l : Launch} {Γ : qC} (hΓ : q_gm Γ) {X : qX} (hX : q_Lay X) {this : Nat} {x1 : Int32} (k_this : q_kd X this = some (14, 42)) {I : qI} {z : Int32 × qI} (h : f_X12_text this x1 I = some z) : q_Sem l Γ (q_rm 127 0 0) yX12_text cX12_text 5 (some .int) [.ref this, .int x1] I X (some (.int z.1), z.2, X) := by
  refine q_met (by decide) (Nat.le_of_ble_eq_true rfl) (fun g hg hr => ?_)
  unfold f_X12_text at h
  show g 0 0 0 [(0, .ref this), (1, .int x1)] [] I X
  refine r_iload_n hg 1 dX12_text_0 rfl rfl ?_
  refine r_i2l hg dX12_text_1 ?_
  refine r_lconst hg dX12_text_2 lc_0 ?_
  refine r_ldc2 hg dX12_text_3 kl_X12_303 ?_
  obtain ⟨v1, e2, h⟩ := q_b1_some h
  refine r_cS3i hg dX12_text_6 mt_X12_isIn ⟨ml_X12_64, mst_X12_isIn⟩ (s_X12_isIn hΓ hX e2) (q_room (Nat.le_of_ble_eq_true rfl) (Nat.le_of_ble_eq_true rfl)) ⟨Nat.zero_le _, Nat.zero_le _⟩ (Nat.le_of_ble_eq_true rfl) ?_
  refine r_istore_n hg (L' := [(2, .int v1), (0, .ref this), (1, .int x1)]) dX12_text_9 rfl (by decide) rfl ?_
  refine r_aload_n hg 1 dX12_text_10 rfl rfl ?_
  obtain ⟨v3, I4, e5, h⟩ := q_b2_some h
  refine r_cV0i hg dX12_text_11 mt_X12_parse ml_X12_305 mv_X12_parse k_this (s_X12_parse hΓ hX k_this e5) (q_room (Nat.le_of_ble_eq_true rfl) (Nat.le_of_ble_eq_true rfl)) ⟨Nat.zero_le _, Nat.zero_le _⟩ (Nat.le_of_ble_eq_true rfl) ?_
  refine r_istore_n hg (L' := [(3, .int v3), (2, .int v1), (0, .ref this), (1, .int x1)]) dX12_text_14 rfl (by decide) rfl ?_
  refine r_iload_n hg 1 dX12_text_15 rfl rfl ?_
  refine r_if_ne hg 22 dX12_text_16 (by decide) (fun c6 => ?_) (fun c6 => ?_)
  · rw [if_neg c6] at h
    refine r_iload_n hg 0 dX12_text_22 rfl rfl ?_
    refine r_if_ge hg 34 dX12_text_23 (by decide) (fun c7 => ?_) (fun c7 => ?_)
    · rw [if_pos c7] at h
      refine r_aload_n hg 2 dX12_text_34 rfl rfl ?_
      have e8 := ly_12_0 hX k_this
      refine r_getR hg dX12_text_35 fl_X12_7 k_this rfl e8.1 ?_
      refine r_iconst hg dX12_text_38 ci_4 ?_
      obtain ⟨v9, e10, h⟩ := q_b1_some h
      refine r_iald hg dX12_text_39 e8.2 e10 ?_
      refine r_bipush hg dX12_text_40 cb_12 ?_
      refine r_icmp_ne hg 48 dX12_text_42 (by decide) (fun c11 => ?_) (fun c11 => ?_)
      · rw [if_neg c11] at h
        refine r_aload_n hg 2 dX12_text_48 rfl rfl ?_
        refine r_aload_n hg 2 dX12_text_49 rfl rfl ?_
        have e12 := ly_12_0 hX k_this
        refine r_getR hg dX12_text_50 fl_X12_7 k_this rfl e12.1 ?_
        refine r_iconst hg dX12_text_53 ci_4 ?_
        obtain ⟨v13, e14, h⟩ := q_b1_some h
        refine r_iald hg dX12_text_54 e12.2 e14 ?_
        obtain ⟨v15, e16, h⟩ := q_b1_some h
        refine r_cV1i hg dX12_text_55 mt_X12_textAt ml_X12_297 mv_X12_textAt k_this (s_X12_textAt hΓ hX k_this e16) (q_room (Nat.le_of_ble_eq_true rfl) (Nat.le_of_ble_eq_true rfl)) ⟨Nat.zero_le _, Nat.zero_le _⟩ (Nat.le_of_ble_eq_true rfl) ?_
        refine r_istore hg (L' := [(4, .int v15), (3, .int v3), (2, .int v1), (0, .ref this), (1, .int x1)]) dX12_text_58 (by decide) rfl ?_
        refine r_aload_n hg 3 dX12_text_60 rfl rfl ?_
        have e17 := ly_12_0 hX k_this
        refine r_getR hg dX12_text_61 fl_X12_7 k_this rfl e17.1 ?_
        refine r_iload hg 0 dX12_text_64 rfl ?_
        refine r_iconst hg dX12_text_66 ci_0 ?_
        refine r_iadd hg dX12_text_67 ?_
        refine r_iload_n hg 1 dX12_text_68 rfl rfl ?_
        obtain ⟨I18, e19, h⟩ := q_b1_some h
        refine r_iast hg dX12_text_69 e17.2 e19 ?_
        refine r_aload_n hg 3 dX12_text_70 rfl rfl ?_
        have e20 := ly_12_0 hX k_this
        refine r_getR hg dX12_text_71 fl_X12_7 k_this rfl e20.1 ?_
        refine r_iload hg 0 dX12_text_74 rfl ?_
        refine r_iconst hg dX12_text_76 ci_1 ?_
        refine r_iadd hg dX12_text_77 ?_
        refine r_iload_n hg 4 dX12_text_78 rfl rfl ?_
        obtain ⟨I21, e22, h⟩ := q_b1_some h
        refine r_iast hg dX12_text_79 e20.2 e22 ?_
        refine r_aload_n hg 3 dX12_text_80 rfl rfl ?_
        have e23 := ly_12_0 hX k_this
        refine r_getR hg dX12_text_81 fl_X12_7 k_this rfl e23.1 ?_
        refine r_iload hg 0 dX12_text_84 rfl ?_
        refine r_iconst hg dX12_text_86 ci_2 ?_
        refine r_iadd hg dX12_text_87 ?_
        refine r_aload_n hg 3 dX12_text_88 rfl rfl ?_
        refine r_getI hg dX12_text_89 fl_X12_281 k_this rfl ?_
        obtain ⟨I24, e25, h⟩ := q_b1_some h
        refine r_iast hg dX12_text_92 e23.2 e25 ?_
        refine r_aload_n hg 3 dX12_text_93 rfl rfl ?_
        have e26 := ly_12_0 hX k_this
        refine r_getR hg dX12_text_94 fl_X12_7 k_this rfl e26.1 ?_
        refine r_iload hg 0 dX12_text_97 rfl ?_
        refine r_iconst hg dX12_text_99 ci_3 ?_
        refine r_iadd hg dX12_text_100 ?_
        refine r_aload_n hg 3 dX12_text_101 rfl rfl ?_
        refine r_getI hg dX12_text_102 fl_X12_254 k_this rfl ?_
        obtain ⟨I27, e28, h⟩ := q_b1_some h
        refine r_iast hg dX12_text_105 e26.2 e28 ?_
        refine r_aload_n hg 3 dX12_text_106 rfl rfl ?_
        have e29 := ly_12_0 hX k_this
        refine r_getR hg dX12_text_107 fl_X12_7 k_this rfl e29.1 ?_
        refine r_iconst hg dX12_text_110 ci_4 ?_
        refine r_dup2 hg dX12_text_111 rfl rfl ?_
        obtain ⟨v30, e31, h⟩ := q_b1_some h
        refine r_iald hg dX12_text_112 e29.2 e31 ?_
        refine r_iconst hg dX12_text_113 ci_1 ?_
        refine r_iadd hg dX12_text_114 ?_
        obtain ⟨I32, e33, h⟩ := q_b1_some h
        refine r_iast hg dX12_text_115 e29.2 e33 ?_
        refine r_aload_n hg 3 dX12_text_116 rfl rfl ?_
        have e34 := ly_12_0 hX k_this
        refine r_getR hg dX12_text_117 fl_X12_7 k_this rfl e34.1 ?_
        refine r_iconst hg dX12_text_120 ci_4 ?_
        obtain ⟨v35, e36, h⟩ := q_b1_some h
        refine r_iald hg dX12_text_121 e34.2 e36 ?_
        refine r_iconst hg dX12_text_122 ci_1 ?_
        refine r_isub hg dX12_text_123 ?_
        exact r_ireturn hr dX12_text_124 ⟨Nat.zero_le _, Nat.zero_le _⟩ ⟨_, rfl, rfl⟩ (by cases h; rfl)
      · rw [if_pos (Classical.not_not.mp c11)] at h
        refine r_ldc hg dX12_text_45 kc_X12_98 ?_
        exact r_ireturn hr dX12_text_47 ⟨Nat.zero_le _, Nat.zero_le _⟩ ⟨_, rfl, rfl⟩ (by cases h; rfl)
    · rw [if_neg c7] at h
      refine r_bipush hg dX12_text_26 cb_m100 ?_
      refine r_aload_n hg 2 dX12_text_28 rfl rfl ?_
      refine r_getI hg dX12_text_29 fl_X12_232 k_this rfl ?_
      refine r_isub hg dX12_text_32 ?_
      exact r_ireturn hr dX12_text_33 ⟨Nat.zero_le _, Nat.zero_le _⟩ ⟨_, rfl, vp_nar_int _⟩ (by obtain rfl := Option.some.inj h; rfl)
  · rw [if_pos (Classical.not_not.mp c6)] at h
    refine r_ldc hg dX12_text_19 kc_X12_90 ?_
    exact r_ireturn hr dX12_text_21 ⟨Nat.zero_le _, Nat.zero_le _⟩ ⟨_, rfl, rfl⟩ (by cases h; rfl)
