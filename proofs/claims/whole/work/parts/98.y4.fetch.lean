set_option maxRecDepth 10000 in
theorem lf_0 : fl_9 0 = some (.new 7, 3, 7, 53, 0, 0, 0) := by rfl
set_option maxRecDepth 10000 in
theorem lf_3 : fl_9 3 = some (.dup, 4, 0, 0, 0, 0, 0) := by rfl
set_option maxRecDepth 10000 in
theorem lf_4 : fl_9 4 = some (.invokespecial 9, 7, 7, 0, 55, 0, 0) := by rfl
set_option maxRecDepth 10000 in
theorem lf_7 : fl_9 7 = some (.astore_n 1, 8, 1, 0, 0, 0, 0) := by rfl
set_option maxRecDepth 10000 in
theorem lf_8 : fl_9 8 = some (.new 10, 11, 8, 726, 0, 0, 0) := by rfl
set_option maxRecDepth 10000 in
theorem lf_11 : fl_9 11 = some (.dup, 12, 0, 0, 0, 0, 0) := by rfl
set_option maxRecDepth 10000 in
theorem lf_12 : fl_9 12 = some (.invokespecial 12, 15, 8, 0, 728, 0, 0) := by rfl
set_option maxRecDepth 10000 in
theorem lf_15 : fl_9 15 = some (.astore_n 2, 16, 2, 0, 0, 0, 0) := by rfl
set_option maxRecDepth 10000 in
theorem lf_16 : fl_9 16 = some (.iconst 0, 17, 0, 0, 0, 0, nI 0) := by rfl
set_option maxRecDepth 10000 in
theorem lf_17 : fl_9 17 = some (.istore_n 3, 18, 3, 0, 0, 0, 0) := by rfl
set_option maxRecDepth 10000 in
theorem lf_18 : fl_9 18 = some (.iload_n 3, 19, 3, 0, 0, 0, 0) := by rfl
set_option maxRecDepth 10000 in
theorem lf_19 : fl_9 19 = some (.aload_n 0, 20, 0, 0, 0, 0, 0) := by rfl
set_option maxRecDepth 10000 in
theorem lf_20 : fl_9 20 = some (.arraylength, 21, 0, 0, 0, 0, 0) := by rfl
set_option maxRecDepth 10000 in
theorem lf_21 : fl_9 21 = some (.bipush 7, 23, 0, 0, 0, 0, nI 7) := by rfl
set_option maxRecDepth 10000 in
theorem lf_23 : fl_9 23 = some (.isub, 24, 0, 0, 0, 0, 0) := by rfl
set_option maxRecDepth 10000 in
theorem lf_24 : fl_9 24 = some (.if_icmp .gt 630, 27, 654, 0, 0, 0, 0) := by rfl
set_option maxRecDepth 10000 in
theorem lf_27 : fl_9 27 = some (.aload_n 0, 28, 0, 0, 0, 0, 0) := by rfl
set_option maxRecDepth 10000 in
theorem lf_28 : fl_9 28 = some (.iload_n 3, 29, 3, 0, 0, 0, 0) := by rfl
set_option maxRecDepth 10000 in
theorem lf_29 : fl_9 29 = some (.iaload, 30, 0, 0, 0, 0, 0) := by rfl
set_option maxRecDepth 10000 in
theorem lf_30 : fl_9 30 = some (.bipush 15, 32, 0, 0, 0, 0, nI 15) := by rfl
set_option maxRecDepth 10000 in
theorem lf_32 : fl_9 32 = some (.iand, 33, 0, 0, 0, 0, 0) := by rfl
set_option maxRecDepth 10000 in
theorem lf_33 : fl_9 33 = some (.tableswitch 615 0 15 #[79, 142, 155, 168, 243, 277, 321, 364, 398, 471, 484, 507, 531, 565, 579, 602], 112, 648, 79, 0, 0, 0) := by rfl
set_option maxRecDepth 10000 in
theorem lf_112 : fl_9 112 = some (.aload_n 1, 113, 1, 0, 0, 0, 0) := by rfl
set_option maxRecDepth 10000 in
theorem lf_113 : fl_9 113 = some (.aload_n 0, 114, 0, 0, 0, 0, 0) := by rfl
set_option maxRecDepth 10000 in
theorem lf_114 : fl_9 114 = some (.iload_n 3, 115, 3, 0, 0, 0, 0) := by rfl
set_option maxRecDepth 10000 in
theorem lf_115 : fl_9 115 = some (.iconst 1, 116, 0, 0, 0, 0, nI 1) := by rfl
set_option maxRecDepth 10000 in
theorem lf_116 : fl_9 116 = some (.iadd, 117, 0, 0, 0, 0, 0) := by rfl
set_option maxRecDepth 10000 in
theorem lf_117 : fl_9 117 = some (.iaload, 118, 0, 0, 0, 0, 0) := by rfl
set_option maxRecDepth 10000 in
theorem lf_118 : fl_9 118 = some (.aload_n 0, 119, 0, 0, 0, 0, 0) := by rfl
set_option maxRecDepth 10000 in
theorem lf_119 : fl_9 119 = some (.iload_n 3, 120, 3, 0, 0, 0, 0) := by rfl
set_option maxRecDepth 10000 in
theorem lf_120 : fl_9 120 = some (.iconst 2, 121, 0, 0, 0, 0, nI 2) := by rfl
set_option maxRecDepth 10000 in
theorem lf_121 : fl_9 121 = some (.iadd, 122, 0, 0, 0, 0, 0) := by rfl
set_option maxRecDepth 10000 in
theorem lf_122 : fl_9 122 = some (.iaload, 123, 0, 0, 0, 0, 0) := by rfl
set_option maxRecDepth 10000 in
theorem lf_123 : fl_9 123 = some (.aload_n 0, 124, 0, 0, 0, 0, 0) := by rfl
set_option maxRecDepth 10000 in
theorem lf_124 : fl_9 124 = some (.iload_n 3, 125, 3, 0, 0, 0, 0) := by rfl
set_option maxRecDepth 10000 in
theorem lf_125 : fl_9 125 = some (.iconst 3, 126, 0, 0, 0, 0, nI 3) := by rfl
set_option maxRecDepth 10000 in
theorem lf_126 : fl_9 126 = some (.iadd, 127, 0, 0, 0, 0, 0) := by rfl
set_option maxRecDepth 10000 in
theorem lf_127 : fl_9 127 = some (.iaload, 128, 0, 0, 0, 0, 0) := by rfl
set_option maxRecDepth 10000 in
theorem lf_128 : fl_9 128 = some (.aload_n 0, 129, 0, 0, 0, 0, 0) := by rfl
set_option maxRecDepth 10000 in
theorem lf_129 : fl_9 129 = some (.iload_n 3, 130, 3, 0, 0, 0, 0) := by rfl
set_option maxRecDepth 10000 in
theorem lf_130 : fl_9 130 = some (.iconst 4, 131, 0, 0, 0, 0, nI 4) := by rfl
set_option maxRecDepth 10000 in
theorem lf_131 : fl_9 131 = some (.iadd, 132, 0, 0, 0, 0, 0) := by rfl
set_option maxRecDepth 10000 in
theorem lf_132 : fl_9 132 = some (.iaload, 133, 0, 0, 0, 0, 0) := by rfl
set_option maxRecDepth 10000 in
theorem lf_133 : fl_9 133 = some (.aload_n 0, 134, 0, 0, 0, 0, 0) := by rfl
set_option maxRecDepth 10000 in
theorem lf_134 : fl_9 134 = some (.iload_n 3, 135, 3, 0, 0, 0, 0) := by rfl
set_option maxRecDepth 10000 in
theorem lf_135 : fl_9 135 = some (.iconst 5, 136, 0, 0, 0, 0, nI 5) := by rfl
set_option maxRecDepth 10000 in
theorem lf_136 : fl_9 136 = some (.iadd, 137, 0, 0, 0, 0, 0) := by rfl
set_option maxRecDepth 10000 in
theorem lf_137 : fl_9 137 = some (.iaload, 138, 0, 0, 0, 0, 0) := by rfl
set_option maxRecDepth 10000 in
theorem lf_138 : fl_9 138 = some (.invokevirtual 13, 141, 0, 0, 385, 0, 0) := by rfl
set_option maxRecDepth 10000 in
theorem lf_141 : fl_9 141 = some (.aload_n 2, 142, 2, 0, 0, 0, 0) := by rfl
set_option maxRecDepth 10000 in
theorem lf_142 : fl_9 142 = some (.aload_n 0, 143, 0, 0, 0, 0, 0) := by rfl
set_option maxRecDepth 10000 in
theorem lf_143 : fl_9 143 = some (.iload_n 3, 144, 3, 0, 0, 0, 0) := by rfl
set_option maxRecDepth 10000 in
theorem lf_144 : fl_9 144 = some (.iconst 1, 145, 0, 0, 0, 0, nI 1) := by rfl
set_option maxRecDepth 10000 in
theorem lf_145 : fl_9 145 = some (.iadd, 146, 0, 0, 0, 0, 0) := by rfl
set_option maxRecDepth 10000 in
theorem lf_146 : fl_9 146 = some (.iaload, 147, 0, 0, 0, 0, 0) := by rfl
set_option maxRecDepth 10000 in
theorem lf_147 : fl_9 147 = some (.aload_n 0, 148, 0, 0, 0, 0, 0) := by rfl
set_option maxRecDepth 10000 in
theorem lf_148 : fl_9 148 = some (.iload_n 3, 149, 3, 0, 0, 0, 0) := by rfl
set_option maxRecDepth 10000 in
theorem lf_149 : fl_9 149 = some (.iconst 2, 150, 0, 0, 0, 0, nI 2) := by rfl
set_option maxRecDepth 10000 in
theorem lf_150 : fl_9 150 = some (.iadd, 151, 0, 0, 0, 0, 0) := by rfl
set_option maxRecDepth 10000 in
theorem lf_151 : fl_9 151 = some (.iaload, 152, 0, 0, 0, 0, 0) := by rfl
set_option maxRecDepth 10000 in
theorem lf_152 : fl_9 152 = some (.aload_n 0, 153, 0, 0, 0, 0, 0) := by rfl
set_option maxRecDepth 10000 in
theorem lf_153 : fl_9 153 = some (.iload_n 3, 154, 3, 0, 0, 0, 0) := by rfl
set_option maxRecDepth 10000 in
theorem lf_154 : fl_9 154 = some (.iconst 3, 155, 0, 0, 0, 0, nI 3) := by rfl
set_option maxRecDepth 10000 in
theorem lf_155 : fl_9 155 = some (.iadd, 156, 0, 0, 0, 0, 0) := by rfl
set_option maxRecDepth 10000 in
theorem lf_156 : fl_9 156 = some (.iaload, 157, 0, 0, 0, 0, 0) := by rfl
set_option maxRecDepth 10000 in
theorem lf_157 : fl_9 157 = some (.aload_n 0, 158, 0, 0, 0, 0, 0) := by rfl
set_option maxRecDepth 10000 in
theorem lf_158 : fl_9 158 = some (.iload_n 3, 159, 3, 0, 0, 0, 0) := by rfl
set_option maxRecDepth 10000 in
theorem lf_159 : fl_9 159 = some (.iconst 4, 160, 0, 0, 0, 0, nI 4) := by rfl
set_option maxRecDepth 10000 in
theorem lf_160 : fl_9 160 = some (.iadd, 161, 0, 0, 0, 0, 0) := by rfl
set_option maxRecDepth 10000 in
theorem lf_161 : fl_9 161 = some (.iaload, 162, 0, 0, 0, 0, 0) := by rfl
set_option maxRecDepth 10000 in
theorem lf_162 : fl_9 162 = some (.aload_n 0, 163, 0, 0, 0, 0, 0) := by rfl
set_option maxRecDepth 10000 in
theorem lf_163 : fl_9 163 = some (.iload_n 3, 164, 3, 0, 0, 0, 0) := by rfl
set_option maxRecDepth 10000 in
theorem lf_164 : fl_9 164 = some (.iconst 5, 165, 0, 0, 0, 0, nI 5) := by rfl
set_option maxRecDepth 10000 in
theorem lf_165 : fl_9 165 = some (.iadd, 166, 0, 0, 0, 0, 0) := by rfl
set_option maxRecDepth 10000 in
theorem lf_166 : fl_9 166 = some (.iaload, 167, 0, 0, 0, 0, 0) := by rfl
set_option maxRecDepth 10000 in
theorem lf_167 : fl_9 167 = some (.invokevirtual 17, 170, 74, 0, 832, 0, 0) := by rfl
set_option maxRecDepth 10000 in
theorem lf_170 : fl_9 170 = some (.if_icmp .eq 478, 173, 648, 0, 0, 0, 0) := by rfl
set_option maxRecDepth 10000 in
theorem lf_173 : fl_9 173 = some (.iconst 0, 174, 0, 0, 0, 0, nI 0) := by rfl
set_option maxRecDepth 10000 in
theorem lf_174 : fl_9 174 = some (.ireturn, 175, 0, 0, 0, 0, 0) := by rfl
set_option maxRecDepth 10000 in
theorem lf_175 : fl_9 175 = some (.aload_n 1, 176, 1, 0, 0, 0, 0) := by rfl
set_option maxRecDepth 10000 in
theorem lf_176 : fl_9 176 = some (.invokevirtual 18, 179, 12, 0, 445, 0, 0) := by rfl
set_option maxRecDepth 10000 in
theorem lf_179 : fl_9 179 = some (.aload_n 2, 180, 2, 0, 0, 0, 0) := by rfl
set_option maxRecDepth 10000 in
theorem lf_180 : fl_9 180 = some (.invokevirtual 22, 183, 84, 0, 876, 0, 0) := by rfl
set_option maxRecDepth 10000 in
theorem lf_183 : fl_9 183 = some (.if_icmp .eq 465, 186, 648, 0, 0, 0, 0) := by rfl
set_option maxRecDepth 10000 in
theorem lf_186 : fl_9 186 = some (.iconst 0, 187, 0, 0, 0, 0, nI 0) := by rfl
set_option maxRecDepth 10000 in
theorem lf_187 : fl_9 187 = some (.ireturn, 188, 0, 0, 0, 0, 0) := by rfl
set_option maxRecDepth 10000 in
theorem lf_188 : fl_9 188 = some (.aload_n 1, 189, 1, 0, 0, 0, 0) := by rfl
set_option maxRecDepth 10000 in
theorem lf_189 : fl_9 189 = some (.invokevirtual 23, 192, 13, 0, 449, 0, 0) := by rfl
set_option maxRecDepth 10000 in
theorem lf_192 : fl_9 192 = some (.aload_n 2, 193, 2, 0, 0, 0, 0) := by rfl
set_option maxRecDepth 10000 in
theorem lf_193 : fl_9 193 = some (.invokevirtual 26, 196, 85, 0, 880, 0, 0) := by rfl
set_option maxRecDepth 10000 in
theorem lf_196 : fl_9 196 = some (.if_icmp .eq 452, 199, 648, 0, 0, 0, 0) := by rfl
set_option maxRecDepth 10000 in
theorem lf_199 : fl_9 199 = some (.iconst 0, 200, 0, 0, 0, 0, nI 0) := by rfl
set_option maxRecDepth 10000 in
theorem lf_200 : fl_9 200 = some (.ireturn, 201, 0, 0, 0, 0, 0) := by rfl
set_option maxRecDepth 10000 in
theorem lf_201 : fl_9 201 = some (.aload_n 1, 202, 1, 0, 0, 0, 0) := by rfl
set_option maxRecDepth 10000 in
theorem lf_202 : fl_9 202 = some (.aload_n 0, 203, 0, 0, 0, 0, 0) := by rfl
set_option maxRecDepth 10000 in
theorem lf_203 : fl_9 203 = some (.iload_n 3, 204, 3, 0, 0, 0, 0) := by rfl
set_option maxRecDepth 10000 in
theorem lf_204 : fl_9 204 = some (.iconst 1, 205, 0, 0, 0, 0, nI 1) := by rfl
set_option maxRecDepth 10000 in
theorem lf_205 : fl_9 205 = some (.iadd, 206, 0, 0, 0, 0, 0) := by rfl
set_option maxRecDepth 10000 in
theorem lf_206 : fl_9 206 = some (.iaload, 207, 0, 0, 0, 0, 0) := by rfl
set_option maxRecDepth 10000 in
theorem lf_207 : fl_9 207 = some (.aload_n 0, 208, 0, 0, 0, 0, 0) := by rfl
set_option maxRecDepth 10000 in
theorem lf_208 : fl_9 208 = some (.iload_n 3, 209, 3, 0, 0, 0, 0) := by rfl
set_option maxRecDepth 10000 in
theorem lf_209 : fl_9 209 = some (.iconst 2, 210, 0, 0, 0, 0, nI 2) := by rfl
set_option maxRecDepth 10000 in
theorem lf_210 : fl_9 210 = some (.iadd, 211, 0, 0, 0, 0, 0) := by rfl
set_option maxRecDepth 10000 in
theorem lf_211 : fl_9 211 = some (.iaload, 212, 0, 0, 0, 0, 0) := by rfl
set_option maxRecDepth 10000 in
theorem lf_212 : fl_9 212 = some (.aload_n 0, 213, 0, 0, 0, 0, 0) := by rfl
set_option maxRecDepth 10000 in
theorem lf_213 : fl_9 213 = some (.iload_n 3, 214, 3, 0, 0, 0, 0) := by rfl
set_option maxRecDepth 10000 in
theorem lf_214 : fl_9 214 = some (.iconst 3, 215, 0, 0, 0, 0, nI 3) := by rfl
set_option maxRecDepth 10000 in
theorem lf_215 : fl_9 215 = some (.iadd, 216, 0, 0, 0, 0, 0) := by rfl
set_option maxRecDepth 10000 in
theorem lf_216 : fl_9 216 = some (.iaload, 217, 0, 0, 0, 0, 0) := by rfl
set_option maxRecDepth 10000 in
theorem lf_217 : fl_9 217 = some (.aload_n 0, 218, 0, 0, 0, 0, 0) := by rfl
set_option maxRecDepth 10000 in
theorem lf_218 : fl_9 218 = some (.iload_n 3, 219, 3, 0, 0, 0, 0) := by rfl
set_option maxRecDepth 10000 in
theorem lf_219 : fl_9 219 = some (.iconst 4, 220, 0, 0, 0, 0, nI 4) := by rfl
set_option maxRecDepth 10000 in
theorem lf_220 : fl_9 220 = some (.iadd, 221, 0, 0, 0, 0, 0) := by rfl
set_option maxRecDepth 10000 in
theorem lf_221 : fl_9 221 = some (.iaload, 222, 0, 0, 0, 0, 0) := by rfl
set_option maxRecDepth 10000 in
theorem lf_222 : fl_9 222 = some (.aload_n 0, 223, 0, 0, 0, 0, 0) := by rfl
set_option maxRecDepth 10000 in
theorem lf_223 : fl_9 223 = some (.iload_n 3, 224, 3, 0, 0, 0, 0) := by rfl
set_option maxRecDepth 10000 in
theorem lf_224 : fl_9 224 = some (.iconst 5, 225, 0, 0, 0, 0, nI 5) := by rfl
set_option maxRecDepth 10000 in
theorem lf_225 : fl_9 225 = some (.iadd, 226, 0, 0, 0, 0, 0) := by rfl
set_option maxRecDepth 10000 in
theorem lf_226 : fl_9 226 = some (.iaload, 227, 0, 0, 0, 0, 0) := by rfl
set_option maxRecDepth 10000 in
theorem lf_227 : fl_9 227 = some (.aload_n 0, 228, 0, 0, 0, 0, 0) := by rfl
set_option maxRecDepth 10000 in
theorem lf_228 : fl_9 228 = some (.iload_n 3, 229, 3, 0, 0, 0, 0) := by rfl
set_option maxRecDepth 10000 in
theorem lf_229 : fl_9 229 = some (.bipush 6, 231, 0, 0, 0, 0, nI 6) := by rfl
set_option maxRecDepth 10000 in
theorem lf_231 : fl_9 231 = some (.iadd, 232, 0, 0, 0, 0, 0) := by rfl
set_option maxRecDepth 10000 in
theorem lf_232 : fl_9 232 = some (.iaload, 233, 0, 0, 0, 0, 0) := by rfl
set_option maxRecDepth 10000 in
theorem lf_233 : fl_9 233 = some (.invokevirtual 27, 236, 14, 0, 453, 0, 0) := by rfl
set_option maxRecDepth 10000 in
theorem lf_236 : fl_9 236 = some (.aload_n 2, 237, 2, 0, 0, 0, 0) := by rfl
set_option maxRecDepth 10000 in
theorem lf_237 : fl_9 237 = some (.aload_n 0, 238, 0, 0, 0, 0, 0) := by rfl
set_option maxRecDepth 10000 in
theorem lf_238 : fl_9 238 = some (.iload_n 3, 239, 3, 0, 0, 0, 0) := by rfl
set_option maxRecDepth 10000 in
theorem lf_239 : fl_9 239 = some (.iconst 1, 240, 0, 0, 0, 0, nI 1) := by rfl
set_option maxRecDepth 10000 in
theorem lf_240 : fl_9 240 = some (.iadd, 241, 0, 0, 0, 0, 0) := by rfl
set_option maxRecDepth 10000 in
theorem lf_241 : fl_9 241 = some (.iaload, 242, 0, 0, 0, 0, 0) := by rfl
set_option maxRecDepth 10000 in
theorem lf_242 : fl_9 242 = some (.aload_n 0, 243, 0, 0, 0, 0, 0) := by rfl
set_option maxRecDepth 10000 in
theorem lf_243 : fl_9 243 = some (.iload_n 3, 244, 3, 0, 0, 0, 0) := by rfl
set_option maxRecDepth 10000 in
theorem lf_244 : fl_9 244 = some (.iconst 2, 245, 0, 0, 0, 0, nI 2) := by rfl
set_option maxRecDepth 10000 in
theorem lf_245 : fl_9 245 = some (.iadd, 246, 0, 0, 0, 0, 0) := by rfl
set_option maxRecDepth 10000 in
theorem lf_246 : fl_9 246 = some (.iaload, 247, 0, 0, 0, 0, 0) := by rfl
set_option maxRecDepth 10000 in
theorem lf_247 : fl_9 247 = some (.aload_n 0, 248, 0, 0, 0, 0, 0) := by rfl
set_option maxRecDepth 10000 in
theorem lf_248 : fl_9 248 = some (.iload_n 3, 249, 3, 0, 0, 0, 0) := by rfl
set_option maxRecDepth 10000 in
theorem lf_249 : fl_9 249 = some (.iconst 3, 250, 0, 0, 0, 0, nI 3) := by rfl
set_option maxRecDepth 10000 in
theorem lf_250 : fl_9 250 = some (.iadd, 251, 0, 0, 0, 0, 0) := by rfl
set_option maxRecDepth 10000 in
theorem lf_251 : fl_9 251 = some (.iaload, 252, 0, 0, 0, 0, 0) := by rfl
set_option maxRecDepth 10000 in
theorem lf_252 : fl_9 252 = some (.aload_n 0, 253, 0, 0, 0, 0, 0) := by rfl
set_option maxRecDepth 10000 in
theorem lf_253 : fl_9 253 = some (.iload_n 3, 254, 3, 0, 0, 0, 0) := by rfl
set_option maxRecDepth 10000 in
theorem lf_254 : fl_9 254 = some (.iconst 4, 255, 0, 0, 0, 0, nI 4) := by rfl
set_option maxRecDepth 10000 in
theorem lf_255 : fl_9 255 = some (.iadd, 256, 0, 0, 0, 0, 0) := by rfl
set_option maxRecDepth 10000 in
theorem lf_256 : fl_9 256 = some (.iaload, 257, 0, 0, 0, 0, 0) := by rfl
set_option maxRecDepth 10000 in
theorem lf_257 : fl_9 257 = some (.aload_n 0, 258, 0, 0, 0, 0, 0) := by rfl
set_option maxRecDepth 10000 in
theorem lf_258 : fl_9 258 = some (.iload_n 3, 259, 3, 0, 0, 0, 0) := by rfl
set_option maxRecDepth 10000 in
theorem lf_259 : fl_9 259 = some (.iconst 5, 260, 0, 0, 0, 0, nI 5) := by rfl
set_option maxRecDepth 10000 in
theorem lf_260 : fl_9 260 = some (.iadd, 261, 0, 0, 0, 0, 0) := by rfl
set_option maxRecDepth 10000 in
theorem lf_261 : fl_9 261 = some (.iaload, 262, 0, 0, 0, 0, 0) := by rfl
set_option maxRecDepth 10000 in
theorem lf_262 : fl_9 262 = some (.aload_n 0, 263, 0, 0, 0, 0, 0) := by rfl
set_option maxRecDepth 10000 in
theorem lf_263 : fl_9 263 = some (.iload_n 3, 264, 3, 0, 0, 0, 0) := by rfl
set_option maxRecDepth 10000 in
theorem lf_264 : fl_9 264 = some (.bipush 6, 266, 0, 0, 0, 0, nI 6) := by rfl
set_option maxRecDepth 10000 in
theorem lf_266 : fl_9 266 = some (.iadd, 267, 0, 0, 0, 0, 0) := by rfl
set_option maxRecDepth 10000 in
theorem lf_267 : fl_9 267 = some (.iaload, 268, 0, 0, 0, 0, 0) := by rfl
set_option maxRecDepth 10000 in
theorem lf_268 : fl_9 268 = some (.invokevirtual 31, 271, 86, 0, 884, 0, 0) := by rfl
set_option maxRecDepth 10000 in
theorem lf_271 : fl_9 271 = some (.if_icmp .eq 377, 274, 648, 0, 0, 0, 0) := by rfl
set_option maxRecDepth 10000 in
theorem lf_274 : fl_9 274 = some (.iconst 0, 275, 0, 0, 0, 0, nI 0) := by rfl
set_option maxRecDepth 10000 in
theorem lf_275 : fl_9 275 = some (.ireturn, 276, 0, 0, 0, 0, 0) := by rfl
set_option maxRecDepth 10000 in
theorem lf_276 : fl_9 276 = some (.aload_n 1, 277, 1, 0, 0, 0, 0) := by rfl
set_option maxRecDepth 10000 in
theorem lf_277 : fl_9 277 = some (.aload_n 0, 278, 0, 0, 0, 0, 0) := by rfl
set_option maxRecDepth 10000 in
theorem lf_278 : fl_9 278 = some (.iload_n 3, 279, 3, 0, 0, 0, 0) := by rfl
set_option maxRecDepth 10000 in
theorem lf_279 : fl_9 279 = some (.iconst 1, 280, 0, 0, 0, 0, nI 1) := by rfl
set_option maxRecDepth 10000 in
theorem lf_280 : fl_9 280 = some (.iadd, 281, 0, 0, 0, 0, 0) := by rfl
set_option maxRecDepth 10000 in
theorem lf_281 : fl_9 281 = some (.iaload, 282, 0, 0, 0, 0, 0) := by rfl
set_option maxRecDepth 10000 in
theorem lf_282 : fl_9 282 = some (.aload_n 0, 283, 0, 0, 0, 0, 0) := by rfl
set_option maxRecDepth 10000 in
theorem lf_283 : fl_9 283 = some (.iload_n 3, 284, 3, 0, 0, 0, 0) := by rfl
set_option maxRecDepth 10000 in
theorem lf_284 : fl_9 284 = some (.iconst 2, 285, 0, 0, 0, 0, nI 2) := by rfl
set_option maxRecDepth 10000 in
theorem lf_285 : fl_9 285 = some (.iadd, 286, 0, 0, 0, 0, 0) := by rfl
set_option maxRecDepth 10000 in
theorem lf_286 : fl_9 286 = some (.iaload, 287, 0, 0, 0, 0, 0) := by rfl
set_option maxRecDepth 10000 in
theorem lf_287 : fl_9 287 = some (.invokevirtual 32, 290, 18, 0, 469, 0, 0) := by rfl
set_option maxRecDepth 10000 in
theorem lf_290 : fl_9 290 = some (.aload_n 2, 291, 2, 0, 0, 0, 0) := by rfl
set_option maxRecDepth 10000 in
theorem lf_291 : fl_9 291 = some (.aload_n 0, 292, 0, 0, 0, 0, 0) := by rfl
set_option maxRecDepth 10000 in
theorem lf_292 : fl_9 292 = some (.iload_n 3, 293, 3, 0, 0, 0, 0) := by rfl
set_option maxRecDepth 10000 in
theorem lf_293 : fl_9 293 = some (.iconst 1, 294, 0, 0, 0, 0, nI 1) := by rfl
set_option maxRecDepth 10000 in
theorem lf_294 : fl_9 294 = some (.iadd, 295, 0, 0, 0, 0, 0) := by rfl
set_option maxRecDepth 10000 in
theorem lf_295 : fl_9 295 = some (.iaload, 296, 0, 0, 0, 0, 0) := by rfl
set_option maxRecDepth 10000 in
theorem lf_296 : fl_9 296 = some (.aload_n 0, 297, 0, 0, 0, 0, 0) := by rfl
set_option maxRecDepth 10000 in
theorem lf_297 : fl_9 297 = some (.iload_n 3, 298, 3, 0, 0, 0, 0) := by rfl
set_option maxRecDepth 10000 in
theorem lf_298 : fl_9 298 = some (.iconst 2, 299, 0, 0, 0, 0, nI 2) := by rfl
set_option maxRecDepth 10000 in
theorem lf_299 : fl_9 299 = some (.iadd, 300, 0, 0, 0, 0, 0) := by rfl
set_option maxRecDepth 10000 in
theorem lf_300 : fl_9 300 = some (.iaload, 301, 0, 0, 0, 0, 0) := by rfl
set_option maxRecDepth 10000 in
theorem lf_301 : fl_9 301 = some (.invokevirtual 36, 304, 88, 0, 895, 0, 0) := by rfl
set_option maxRecDepth 10000 in
theorem lf_304 : fl_9 304 = some (.lcmp, 305, 0, 0, 0, 0, 0) := by rfl
set_option maxRecDepth 10000 in
theorem lf_305 : fl_9 305 = some (.ifCond .eq 343, 308, 648, 0, 0, 0, 0) := by rfl
set_option maxRecDepth 10000 in
theorem lf_308 : fl_9 308 = some (.iconst 0, 309, 0, 0, 0, 0, nI 0) := by rfl
set_option maxRecDepth 10000 in
theorem lf_309 : fl_9 309 = some (.ireturn, 310, 0, 0, 0, 0, 0) := by rfl
set_option maxRecDepth 10000 in
theorem lf_310 : fl_9 310 = some (.aload_n 1, 311, 1, 0, 0, 0, 0) := by rfl
set_option maxRecDepth 10000 in
theorem lf_311 : fl_9 311 = some (.aload_n 0, 312, 0, 0, 0, 0, 0) := by rfl
set_option maxRecDepth 10000 in
theorem lf_312 : fl_9 312 = some (.iload_n 3, 313, 3, 0, 0, 0, 0) := by rfl
set_option maxRecDepth 10000 in
theorem lf_313 : fl_9 313 = some (.iconst 1, 314, 0, 0, 0, 0, nI 1) := by rfl
set_option maxRecDepth 10000 in
theorem lf_314 : fl_9 314 = some (.iadd, 315, 0, 0, 0, 0, 0) := by rfl
set_option maxRecDepth 10000 in
theorem lf_315 : fl_9 315 = some (.iaload, 316, 0, 0, 0, 0, 0) := by rfl
set_option maxRecDepth 10000 in
theorem lf_316 : fl_9 316 = some (.aload_n 0, 317, 0, 0, 0, 0, 0) := by rfl
set_option maxRecDepth 10000 in
theorem lf_317 : fl_9 317 = some (.iload_n 3, 318, 3, 0, 0, 0, 0) := by rfl
set_option maxRecDepth 10000 in
theorem lf_318 : fl_9 318 = some (.iconst 2, 319, 0, 0, 0, 0, nI 2) := by rfl
set_option maxRecDepth 10000 in
theorem lf_319 : fl_9 319 = some (.iadd, 320, 0, 0, 0, 0, 0) := by rfl
set_option maxRecDepth 10000 in
theorem lf_320 : fl_9 320 = some (.iaload, 321, 0, 0, 0, 0, 0) := by rfl
set_option maxRecDepth 10000 in
theorem lf_321 : fl_9 321 = some (.aload_n 0, 322, 0, 0, 0, 0, 0) := by rfl
set_option maxRecDepth 10000 in
theorem lf_322 : fl_9 322 = some (.iload_n 3, 323, 3, 0, 0, 0, 0) := by rfl
set_option maxRecDepth 10000 in
theorem lf_323 : fl_9 323 = some (.iconst 3, 324, 0, 0, 0, 0, nI 3) := by rfl
set_option maxRecDepth 10000 in
theorem lf_324 : fl_9 324 = some (.iadd, 325, 0, 0, 0, 0, 0) := by rfl
set_option maxRecDepth 10000 in
theorem lf_325 : fl_9 325 = some (.iaload, 326, 0, 0, 0, 0, 0) := by rfl
set_option maxRecDepth 10000 in
theorem lf_326 : fl_9 326 = some (.invokevirtual 37, 329, 20, 0, 479, 0, 0) := by rfl
set_option maxRecDepth 10000 in
theorem lf_329 : fl_9 329 = some (.aload_n 2, 330, 2, 0, 0, 0, 0) := by rfl
set_option maxRecDepth 10000 in
theorem lf_330 : fl_9 330 = some (.aload_n 0, 331, 0, 0, 0, 0, 0) := by rfl
set_option maxRecDepth 10000 in
theorem lf_331 : fl_9 331 = some (.iload_n 3, 332, 3, 0, 0, 0, 0) := by rfl
set_option maxRecDepth 10000 in
theorem lf_332 : fl_9 332 = some (.iconst 1, 333, 0, 0, 0, 0, nI 1) := by rfl
set_option maxRecDepth 10000 in
theorem lf_333 : fl_9 333 = some (.iadd, 334, 0, 0, 0, 0, 0) := by rfl
set_option maxRecDepth 10000 in
theorem lf_334 : fl_9 334 = some (.iaload, 335, 0, 0, 0, 0, 0) := by rfl
set_option maxRecDepth 10000 in
theorem lf_335 : fl_9 335 = some (.aload_n 0, 336, 0, 0, 0, 0, 0) := by rfl
set_option maxRecDepth 10000 in
theorem lf_336 : fl_9 336 = some (.iload_n 3, 337, 3, 0, 0, 0, 0) := by rfl
set_option maxRecDepth 10000 in
theorem lf_337 : fl_9 337 = some (.iconst 2, 338, 0, 0, 0, 0, nI 2) := by rfl
set_option maxRecDepth 10000 in
theorem lf_338 : fl_9 338 = some (.iadd, 339, 0, 0, 0, 0, 0) := by rfl
set_option maxRecDepth 10000 in
theorem lf_339 : fl_9 339 = some (.iaload, 340, 0, 0, 0, 0, 0) := by rfl
set_option maxRecDepth 10000 in
theorem lf_340 : fl_9 340 = some (.aload_n 0, 341, 0, 0, 0, 0, 0) := by rfl
set_option maxRecDepth 10000 in
theorem lf_341 : fl_9 341 = some (.iload_n 3, 342, 3, 0, 0, 0, 0) := by rfl
set_option maxRecDepth 10000 in
theorem lf_342 : fl_9 342 = some (.iconst 3, 343, 0, 0, 0, 0, nI 3) := by rfl
set_option maxRecDepth 10000 in
theorem lf_343 : fl_9 343 = some (.iadd, 344, 0, 0, 0, 0, 0) := by rfl
set_option maxRecDepth 10000 in
theorem lf_344 : fl_9 344 = some (.iaload, 345, 0, 0, 0, 0, 0) := by rfl
set_option maxRecDepth 10000 in
theorem lf_345 : fl_9 345 = some (.invokevirtual 41, 348, 90, 0, 905, 0, 0) := by rfl
set_option maxRecDepth 10000 in
theorem lf_348 : fl_9 348 = some (.lcmp, 349, 0, 0, 0, 0, 0) := by rfl
set_option maxRecDepth 10000 in
theorem lf_349 : fl_9 349 = some (.ifCond .eq 299, 352, 648, 0, 0, 0, 0) := by rfl
set_option maxRecDepth 10000 in
theorem lf_352 : fl_9 352 = some (.iconst 0, 353, 0, 0, 0, 0, nI 0) := by rfl
set_option maxRecDepth 10000 in
theorem lf_353 : fl_9 353 = some (.ireturn, 354, 0, 0, 0, 0, 0) := by rfl
set_option maxRecDepth 10000 in
theorem lf_354 : fl_9 354 = some (.aload_n 1, 355, 1, 0, 0, 0, 0) := by rfl
set_option maxRecDepth 10000 in
theorem lf_355 : fl_9 355 = some (.aload_n 0, 356, 0, 0, 0, 0, 0) := by rfl
set_option maxRecDepth 10000 in
theorem lf_356 : fl_9 356 = some (.iload_n 3, 357, 3, 0, 0, 0, 0) := by rfl
set_option maxRecDepth 10000 in
theorem lf_357 : fl_9 357 = some (.iconst 1, 358, 0, 0, 0, 0, nI 1) := by rfl
set_option maxRecDepth 10000 in
theorem lf_358 : fl_9 358 = some (.iadd, 359, 0, 0, 0, 0, 0) := by rfl
set_option maxRecDepth 10000 in
theorem lf_359 : fl_9 359 = some (.iaload, 360, 0, 0, 0, 0, 0) := by rfl
set_option maxRecDepth 10000 in
theorem lf_360 : fl_9 360 = some (.aload_n 0, 361, 0, 0, 0, 0, 0) := by rfl
set_option maxRecDepth 10000 in
theorem lf_361 : fl_9 361 = some (.iload_n 3, 362, 3, 0, 0, 0, 0) := by rfl
set_option maxRecDepth 10000 in
theorem lf_362 : fl_9 362 = some (.iconst 2, 363, 0, 0, 0, 0, nI 2) := by rfl
set_option maxRecDepth 10000 in
theorem lf_363 : fl_9 363 = some (.iadd, 364, 0, 0, 0, 0, 0) := by rfl
set_option maxRecDepth 10000 in
theorem lf_364 : fl_9 364 = some (.iaload, 365, 0, 0, 0, 0, 0) := by rfl
set_option maxRecDepth 10000 in
theorem lf_365 : fl_9 365 = some (.aload_n 0, 366, 0, 0, 0, 0, 0) := by rfl
set_option maxRecDepth 10000 in
theorem lf_366 : fl_9 366 = some (.iload_n 3, 367, 3, 0, 0, 0, 0) := by rfl
set_option maxRecDepth 10000 in
theorem lf_367 : fl_9 367 = some (.iconst 3, 368, 0, 0, 0, 0, nI 3) := by rfl
set_option maxRecDepth 10000 in
theorem lf_368 : fl_9 368 = some (.iadd, 369, 0, 0, 0, 0, 0) := by rfl
set_option maxRecDepth 10000 in
theorem lf_369 : fl_9 369 = some (.iaload, 370, 0, 0, 0, 0, 0) := by rfl
set_option maxRecDepth 10000 in
theorem lf_370 : fl_9 370 = some (.invokevirtual 42, 373, 22, 0, 490, 0, 0) := by rfl
set_option maxRecDepth 10000 in
theorem lf_373 : fl_9 373 = some (.aload_n 2, 374, 2, 0, 0, 0, 0) := by rfl
set_option maxRecDepth 10000 in
theorem lf_374 : fl_9 374 = some (.aload_n 0, 375, 0, 0, 0, 0, 0) := by rfl
set_option maxRecDepth 10000 in
theorem lf_375 : fl_9 375 = some (.iload_n 3, 376, 3, 0, 0, 0, 0) := by rfl
set_option maxRecDepth 10000 in
theorem lf_376 : fl_9 376 = some (.iconst 1, 377, 0, 0, 0, 0, nI 1) := by rfl
set_option maxRecDepth 10000 in
theorem lf_377 : fl_9 377 = some (.iadd, 378, 0, 0, 0, 0, 0) := by rfl
set_option maxRecDepth 10000 in
theorem lf_378 : fl_9 378 = some (.iaload, 379, 0, 0, 0, 0, 0) := by rfl
set_option maxRecDepth 10000 in
theorem lf_379 : fl_9 379 = some (.aload_n 0, 380, 0, 0, 0, 0, 0) := by rfl
set_option maxRecDepth 10000 in
theorem lf_380 : fl_9 380 = some (.iload_n 3, 381, 3, 0, 0, 0, 0) := by rfl
set_option maxRecDepth 10000 in
theorem lf_381 : fl_9 381 = some (.iconst 2, 382, 0, 0, 0, 0, nI 2) := by rfl
set_option maxRecDepth 10000 in
theorem lf_382 : fl_9 382 = some (.iadd, 383, 0, 0, 0, 0, 0) := by rfl
set_option maxRecDepth 10000 in
theorem lf_383 : fl_9 383 = some (.iaload, 384, 0, 0, 0, 0, 0) := by rfl
set_option maxRecDepth 10000 in
theorem lf_384 : fl_9 384 = some (.aload_n 0, 385, 0, 0, 0, 0, 0) := by rfl
set_option maxRecDepth 10000 in
theorem lf_385 : fl_9 385 = some (.iload_n 3, 386, 3, 0, 0, 0, 0) := by rfl
set_option maxRecDepth 10000 in
theorem lf_386 : fl_9 386 = some (.iconst 3, 387, 0, 0, 0, 0, nI 3) := by rfl
set_option maxRecDepth 10000 in
theorem lf_387 : fl_9 387 = some (.iadd, 388, 0, 0, 0, 0, 0) := by rfl
set_option maxRecDepth 10000 in
theorem lf_388 : fl_9 388 = some (.iaload, 389, 0, 0, 0, 0, 0) := by rfl
set_option maxRecDepth 10000 in
theorem lf_389 : fl_9 389 = some (.invokevirtual 46, 392, 91, 0, 910, 0, 0) := by rfl
set_option maxRecDepth 10000 in
theorem lf_392 : fl_9 392 = some (.if_icmp .eq 256, 395, 648, 0, 0, 0, 0) := by rfl
set_option maxRecDepth 10000 in
theorem lf_395 : fl_9 395 = some (.iconst 0, 396, 0, 0, 0, 0, nI 0) := by rfl
set_option maxRecDepth 10000 in
theorem lf_396 : fl_9 396 = some (.ireturn, 397, 0, 0, 0, 0, 0) := by rfl
set_option maxRecDepth 10000 in
theorem lf_397 : fl_9 397 = some (.aload_n 1, 398, 1, 0, 0, 0, 0) := by rfl
set_option maxRecDepth 10000 in
theorem lf_398 : fl_9 398 = some (.aload_n 0, 399, 0, 0, 0, 0, 0) := by rfl
set_option maxRecDepth 10000 in
theorem lf_399 : fl_9 399 = some (.iload_n 3, 400, 3, 0, 0, 0, 0) := by rfl
set_option maxRecDepth 10000 in
theorem lf_400 : fl_9 400 = some (.iconst 1, 401, 0, 0, 0, 0, nI 1) := by rfl
set_option maxRecDepth 10000 in
theorem lf_401 : fl_9 401 = some (.iadd, 402, 0, 0, 0, 0, 0) := by rfl
set_option maxRecDepth 10000 in
theorem lf_402 : fl_9 402 = some (.iaload, 403, 0, 0, 0, 0, 0) := by rfl
set_option maxRecDepth 10000 in
theorem lf_403 : fl_9 403 = some (.aload_n 0, 404, 0, 0, 0, 0, 0) := by rfl
set_option maxRecDepth 10000 in
theorem lf_404 : fl_9 404 = some (.iload_n 3, 405, 3, 0, 0, 0, 0) := by rfl
set_option maxRecDepth 10000 in
theorem lf_405 : fl_9 405 = some (.iconst 2, 406, 0, 0, 0, 0, nI 2) := by rfl
set_option maxRecDepth 10000 in
theorem lf_406 : fl_9 406 = some (.iadd, 407, 0, 0, 0, 0, 0) := by rfl
set_option maxRecDepth 10000 in
theorem lf_407 : fl_9 407 = some (.iaload, 408, 0, 0, 0, 0, 0) := by rfl
set_option maxRecDepth 10000 in
theorem lf_408 : fl_9 408 = some (.invokevirtual 47, 411, 44, 0, 595, 0, 0) := by rfl
set_option maxRecDepth 10000 in
theorem lf_411 : fl_9 411 = some (.aload_n 2, 412, 2, 0, 0, 0, 0) := by rfl
set_option maxRecDepth 10000 in
theorem lf_412 : fl_9 412 = some (.aload_n 0, 413, 0, 0, 0, 0, 0) := by rfl
set_option maxRecDepth 10000 in
theorem lf_413 : fl_9 413 = some (.iload_n 3, 414, 3, 0, 0, 0, 0) := by rfl
set_option maxRecDepth 10000 in
theorem lf_414 : fl_9 414 = some (.iconst 1, 415, 0, 0, 0, 0, nI 1) := by rfl
set_option maxRecDepth 10000 in
theorem lf_415 : fl_9 415 = some (.iadd, 416, 0, 0, 0, 0, 0) := by rfl
set_option maxRecDepth 10000 in
theorem lf_416 : fl_9 416 = some (.iaload, 417, 0, 0, 0, 0, 0) := by rfl
set_option maxRecDepth 10000 in
theorem lf_417 : fl_9 417 = some (.aload_n 0, 418, 0, 0, 0, 0, 0) := by rfl
set_option maxRecDepth 10000 in
theorem lf_418 : fl_9 418 = some (.iload_n 3, 419, 3, 0, 0, 0, 0) := by rfl
set_option maxRecDepth 10000 in
theorem lf_419 : fl_9 419 = some (.iconst 2, 420, 0, 0, 0, 0, nI 2) := by rfl
set_option maxRecDepth 10000 in
theorem lf_420 : fl_9 420 = some (.iadd, 421, 0, 0, 0, 0, 0) := by rfl
set_option maxRecDepth 10000 in
theorem lf_421 : fl_9 421 = some (.iaload, 422, 0, 0, 0, 0, 0) := by rfl
set_option maxRecDepth 10000 in
theorem lf_422 : fl_9 422 = some (.invokevirtual 50, 425, 99, 0, 949, 0, 0) := by rfl
set_option maxRecDepth 10000 in
theorem lf_425 : fl_9 425 = some (.lcmp, 426, 0, 0, 0, 0, 0) := by rfl
set_option maxRecDepth 10000 in
theorem lf_426 : fl_9 426 = some (.ifCond .eq 222, 429, 648, 0, 0, 0, 0) := by rfl
set_option maxRecDepth 10000 in
theorem lf_429 : fl_9 429 = some (.iconst 0, 430, 0, 0, 0, 0, nI 0) := by rfl
set_option maxRecDepth 10000 in
theorem lf_430 : fl_9 430 = some (.ireturn, 431, 0, 0, 0, 0, 0) := by rfl
set_option maxRecDepth 10000 in
theorem lf_431 : fl_9 431 = some (.aload_n 1, 432, 1, 0, 0, 0, 0) := by rfl
set_option maxRecDepth 10000 in
theorem lf_432 : fl_9 432 = some (.aload_n 0, 433, 0, 0, 0, 0, 0) := by rfl
set_option maxRecDepth 10000 in
theorem lf_433 : fl_9 433 = some (.iload_n 3, 434, 3, 0, 0, 0, 0) := by rfl
set_option maxRecDepth 10000 in
theorem lf_434 : fl_9 434 = some (.iconst 1, 435, 0, 0, 0, 0, nI 1) := by rfl
set_option maxRecDepth 10000 in
theorem lf_435 : fl_9 435 = some (.iadd, 436, 0, 0, 0, 0, 0) := by rfl
set_option maxRecDepth 10000 in
theorem lf_436 : fl_9 436 = some (.iaload, 437, 0, 0, 0, 0, 0) := by rfl
set_option maxRecDepth 10000 in
theorem lf_437 : fl_9 437 = some (.aload_n 0, 438, 0, 0, 0, 0, 0) := by rfl
set_option maxRecDepth 10000 in
theorem lf_438 : fl_9 438 = some (.iload_n 3, 439, 3, 0, 0, 0, 0) := by rfl
set_option maxRecDepth 10000 in
theorem lf_439 : fl_9 439 = some (.iconst 2, 440, 0, 0, 0, 0, nI 2) := by rfl
set_option maxRecDepth 10000 in
theorem lf_440 : fl_9 440 = some (.iadd, 441, 0, 0, 0, 0, 0) := by rfl
set_option maxRecDepth 10000 in
theorem lf_441 : fl_9 441 = some (.iaload, 442, 0, 0, 0, 0, 0) := by rfl
set_option maxRecDepth 10000 in
theorem lf_442 : fl_9 442 = some (.aload_n 0, 443, 0, 0, 0, 0, 0) := by rfl
set_option maxRecDepth 10000 in
theorem lf_443 : fl_9 443 = some (.iload_n 3, 444, 3, 0, 0, 0, 0) := by rfl
set_option maxRecDepth 10000 in
theorem lf_444 : fl_9 444 = some (.iconst 3, 445, 0, 0, 0, 0, nI 3) := by rfl
set_option maxRecDepth 10000 in
theorem lf_445 : fl_9 445 = some (.iadd, 446, 0, 0, 0, 0, 0) := by rfl
set_option maxRecDepth 10000 in
theorem lf_446 : fl_9 446 = some (.iaload, 447, 0, 0, 0, 0, 0) := by rfl
set_option maxRecDepth 10000 in
theorem lf_447 : fl_9 447 = some (.i2l, 448, 0, 0, 0, 0, 0) := by rfl
set_option maxRecDepth 10000 in
theorem lf_448 : fl_9 448 = some (.bipush 32, 450, 0, 0, 0, 0, nI 32) := by rfl
set_option maxRecDepth 10000 in
theorem lf_450 : fl_9 450 = some (.lshl, 451, 0, 0, 0, 0, 0) := by rfl
set_option maxRecDepth 10000 in
theorem lf_451 : fl_9 451 = some (.aload_n 0, 452, 0, 0, 0, 0, 0) := by rfl
set_option maxRecDepth 10000 in
theorem lf_452 : fl_9 452 = some (.iload_n 3, 453, 3, 0, 0, 0, 0) := by rfl
set_option maxRecDepth 10000 in
theorem lf_453 : fl_9 453 = some (.iconst 4, 454, 0, 0, 0, 0, nI 4) := by rfl
set_option maxRecDepth 10000 in
theorem lf_454 : fl_9 454 = some (.iadd, 455, 0, 0, 0, 0, 0) := by rfl
set_option maxRecDepth 10000 in
theorem lf_455 : fl_9 455 = some (.iaload, 456, 0, 0, 0, 0, 0) := by rfl
set_option maxRecDepth 10000 in
theorem lf_456 : fl_9 456 = some (.i2l, 457, 0, 0, 0, 0, 0) := by rfl
set_option maxRecDepth 10000 in
theorem lf_457 : fl_9 457 = some (.ldc2_w 51, 460, 0, 0, 1021, 4294967295, 0) := by rfl
set_option maxRecDepth 10000 in
theorem lf_460 : fl_9 460 = some (.land, 461, 0, 0, 0, 0, 0) := by rfl
set_option maxRecDepth 10000 in
theorem lf_461 : fl_9 461 = some (.lor, 462, 0, 0, 0, 0, 0) := by rfl
set_option maxRecDepth 10000 in
theorem lf_462 : fl_9 462 = some (.invokevirtual 53, 465, 47, 0, 606, 0, 0) := by rfl
set_option maxRecDepth 10000 in
theorem lf_465 : fl_9 465 = some (.aload_n 2, 466, 2, 0, 0, 0, 0) := by rfl
set_option maxRecDepth 10000 in
theorem lf_466 : fl_9 466 = some (.aload_n 0, 467, 0, 0, 0, 0, 0) := by rfl
set_option maxRecDepth 10000 in
theorem lf_467 : fl_9 467 = some (.iload_n 3, 468, 3, 0, 0, 0, 0) := by rfl
set_option maxRecDepth 10000 in
theorem lf_468 : fl_9 468 = some (.iconst 1, 469, 0, 0, 0, 0, nI 1) := by rfl
set_option maxRecDepth 10000 in
theorem lf_469 : fl_9 469 = some (.iadd, 470, 0, 0, 0, 0, 0) := by rfl
set_option maxRecDepth 10000 in
theorem lf_470 : fl_9 470 = some (.iaload, 471, 0, 0, 0, 0, 0) := by rfl
set_option maxRecDepth 10000 in
theorem lf_471 : fl_9 471 = some (.aload_n 0, 472, 0, 0, 0, 0, 0) := by rfl
set_option maxRecDepth 10000 in
theorem lf_472 : fl_9 472 = some (.iload_n 3, 473, 3, 0, 0, 0, 0) := by rfl
set_option maxRecDepth 10000 in
theorem lf_473 : fl_9 473 = some (.iconst 2, 474, 0, 0, 0, 0, nI 2) := by rfl
set_option maxRecDepth 10000 in
theorem lf_474 : fl_9 474 = some (.iadd, 475, 0, 0, 0, 0, 0) := by rfl
set_option maxRecDepth 10000 in
theorem lf_475 : fl_9 475 = some (.iaload, 476, 0, 0, 0, 0, 0) := by rfl
set_option maxRecDepth 10000 in
theorem lf_476 : fl_9 476 = some (.aload_n 0, 477, 0, 0, 0, 0, 0) := by rfl
set_option maxRecDepth 10000 in
theorem lf_477 : fl_9 477 = some (.iload_n 3, 478, 3, 0, 0, 0, 0) := by rfl
set_option maxRecDepth 10000 in
theorem lf_478 : fl_9 478 = some (.iconst 3, 479, 0, 0, 0, 0, nI 3) := by rfl
set_option maxRecDepth 10000 in
theorem lf_479 : fl_9 479 = some (.iadd, 480, 0, 0, 0, 0, 0) := by rfl
set_option maxRecDepth 10000 in
theorem lf_480 : fl_9 480 = some (.iaload, 481, 0, 0, 0, 0, 0) := by rfl
set_option maxRecDepth 10000 in
theorem lf_481 : fl_9 481 = some (.i2l, 482, 0, 0, 0, 0, 0) := by rfl
set_option maxRecDepth 10000 in
theorem lf_482 : fl_9 482 = some (.bipush 32, 484, 0, 0, 0, 0, nI 32) := by rfl
set_option maxRecDepth 10000 in
theorem lf_484 : fl_9 484 = some (.lshl, 485, 0, 0, 0, 0, 0) := by rfl
set_option maxRecDepth 10000 in
theorem lf_485 : fl_9 485 = some (.aload_n 0, 486, 0, 0, 0, 0, 0) := by rfl
set_option maxRecDepth 10000 in
theorem lf_486 : fl_9 486 = some (.iload_n 3, 487, 3, 0, 0, 0, 0) := by rfl
set_option maxRecDepth 10000 in
theorem lf_487 : fl_9 487 = some (.iconst 4, 488, 0, 0, 0, 0, nI 4) := by rfl
set_option maxRecDepth 10000 in
theorem lf_488 : fl_9 488 = some (.iadd, 489, 0, 0, 0, 0, 0) := by rfl
set_option maxRecDepth 10000 in
theorem lf_489 : fl_9 489 = some (.iaload, 490, 0, 0, 0, 0, 0) := by rfl
set_option maxRecDepth 10000 in
theorem lf_490 : fl_9 490 = some (.i2l, 491, 0, 0, 0, 0, 0) := by rfl
set_option maxRecDepth 10000 in
theorem lf_491 : fl_9 491 = some (.ldc2_w 51, 494, 0, 0, 1021, 4294967295, 0) := by rfl
set_option maxRecDepth 10000 in
theorem lf_494 : fl_9 494 = some (.land, 495, 0, 0, 0, 0, 0) := by rfl
set_option maxRecDepth 10000 in
theorem lf_495 : fl_9 495 = some (.lor, 496, 0, 0, 0, 0, 0) := by rfl
set_option maxRecDepth 10000 in
theorem lf_496 : fl_9 496 = some (.invokevirtual 57, 499, 101, 0, 957, 0, 0) := by rfl
set_option maxRecDepth 10000 in
theorem lf_499 : fl_9 499 = some (.if_icmp .eq 149, 502, 648, 0, 0, 0, 0) := by rfl
set_option maxRecDepth 10000 in
theorem lf_502 : fl_9 502 = some (.iconst 0, 503, 0, 0, 0, 0, nI 0) := by rfl
set_option maxRecDepth 10000 in
theorem lf_503 : fl_9 503 = some (.ireturn, 504, 0, 0, 0, 0, 0) := by rfl
set_option maxRecDepth 10000 in
theorem lf_504 : fl_9 504 = some (.aload_n 1, 505, 1, 0, 0, 0, 0) := by rfl
set_option maxRecDepth 10000 in
theorem lf_505 : fl_9 505 = some (.invokevirtual 58, 508, 48, 0, 611, 0, 0) := by rfl
set_option maxRecDepth 10000 in
theorem lf_508 : fl_9 508 = some (.aload_n 2, 509, 2, 0, 0, 0, 0) := by rfl
set_option maxRecDepth 10000 in
theorem lf_509 : fl_9 509 = some (.invokevirtual 61, 512, 102, 0, 962, 0, 0) := by rfl
set_option maxRecDepth 10000 in
theorem lf_512 : fl_9 512 = some (.if_icmp .eq 136, 515, 648, 0, 0, 0, 0) := by rfl
set_option maxRecDepth 10000 in
theorem lf_515 : fl_9 515 = some (.iconst 0, 516, 0, 0, 0, 0, nI 0) := by rfl
set_option maxRecDepth 10000 in
theorem lf_516 : fl_9 516 = some (.ireturn, 517, 0, 0, 0, 0, 0) := by rfl
set_option maxRecDepth 10000 in
theorem lf_517 : fl_9 517 = some (.aload_n 1, 518, 1, 0, 0, 0, 0) := by rfl
set_option maxRecDepth 10000 in
theorem lf_518 : fl_9 518 = some (.aload_n 0, 519, 0, 0, 0, 0, 0) := by rfl
set_option maxRecDepth 10000 in
theorem lf_519 : fl_9 519 = some (.iload_n 3, 520, 3, 0, 0, 0, 0) := by rfl
set_option maxRecDepth 10000 in
theorem lf_520 : fl_9 520 = some (.iconst 1, 521, 0, 0, 0, 0, nI 1) := by rfl
set_option maxRecDepth 10000 in
theorem lf_521 : fl_9 521 = some (.iadd, 522, 0, 0, 0, 0, 0) := by rfl
set_option maxRecDepth 10000 in
theorem lf_522 : fl_9 522 = some (.iaload, 523, 0, 0, 0, 0, 0) := by rfl
set_option maxRecDepth 10000 in
theorem lf_523 : fl_9 523 = some (.invokevirtual 62, 526, 55, 0, 646, 0, 0) := by rfl
set_option maxRecDepth 10000 in
theorem lf_526 : fl_9 526 = some (.aload_n 2, 527, 2, 0, 0, 0, 0) := by rfl
set_option maxRecDepth 10000 in
theorem lf_527 : fl_9 527 = some (.aload_n 0, 528, 0, 0, 0, 0, 0) := by rfl
set_option maxRecDepth 10000 in
theorem lf_528 : fl_9 528 = some (.iload_n 3, 529, 3, 0, 0, 0, 0) := by rfl
set_option maxRecDepth 10000 in
theorem lf_529 : fl_9 529 = some (.iconst 1, 530, 0, 0, 0, 0, nI 1) := by rfl
set_option maxRecDepth 10000 in
theorem lf_530 : fl_9 530 = some (.iadd, 531, 0, 0, 0, 0, 0) := by rfl
set_option maxRecDepth 10000 in
theorem lf_531 : fl_9 531 = some (.iaload, 532, 0, 0, 0, 0, 0) := by rfl
set_option maxRecDepth 10000 in
theorem lf_532 : fl_9 532 = some (.invokevirtual 66, 535, 104, 0, 972, 0, 0) := by rfl
set_option maxRecDepth 10000 in
theorem lf_535 : fl_9 535 = some (.if_icmp .eq 113, 538, 648, 0, 0, 0, 0) := by rfl
set_option maxRecDepth 10000 in
theorem lf_538 : fl_9 538 = some (.iconst 0, 539, 0, 0, 0, 0, nI 0) := by rfl
set_option maxRecDepth 10000 in
theorem lf_539 : fl_9 539 = some (.ireturn, 540, 0, 0, 0, 0, 0) := by rfl
set_option maxRecDepth 10000 in
theorem lf_540 : fl_9 540 = some (.aload_n 1, 541, 1, 0, 0, 0, 0) := by rfl
set_option maxRecDepth 10000 in
theorem lf_541 : fl_9 541 = some (.aload_n 0, 542, 0, 0, 0, 0, 0) := by rfl
set_option maxRecDepth 10000 in
theorem lf_542 : fl_9 542 = some (.iload_n 3, 543, 3, 0, 0, 0, 0) := by rfl
set_option maxRecDepth 10000 in
theorem lf_543 : fl_9 543 = some (.iconst 1, 544, 0, 0, 0, 0, nI 1) := by rfl
set_option maxRecDepth 10000 in
theorem lf_544 : fl_9 544 = some (.iadd, 545, 0, 0, 0, 0, 0) := by rfl
set_option maxRecDepth 10000 in
theorem lf_545 : fl_9 545 = some (.iaload, 546, 0, 0, 0, 0, 0) := by rfl
set_option maxRecDepth 10000 in
theorem lf_546 : fl_9 546 = some (.invokevirtual 67, 549, 56, 0, 650, 0, 0) := by rfl
set_option maxRecDepth 10000 in
theorem lf_549 : fl_9 549 = some (.aload_n 2, 550, 2, 0, 0, 0, 0) := by rfl
set_option maxRecDepth 10000 in
theorem lf_550 : fl_9 550 = some (.aload_n 0, 551, 0, 0, 0, 0, 0) := by rfl
set_option maxRecDepth 10000 in
theorem lf_551 : fl_9 551 = some (.iload_n 3, 552, 3, 0, 0, 0, 0) := by rfl
set_option maxRecDepth 10000 in
theorem lf_552 : fl_9 552 = some (.iconst 1, 553, 0, 0, 0, 0, nI 1) := by rfl
set_option maxRecDepth 10000 in
theorem lf_553 : fl_9 553 = some (.iadd, 554, 0, 0, 0, 0, 0) := by rfl
set_option maxRecDepth 10000 in
theorem lf_554 : fl_9 554 = some (.iaload, 555, 0, 0, 0, 0, 0) := by rfl
set_option maxRecDepth 10000 in
theorem lf_555 : fl_9 555 = some (.invokevirtual 71, 558, 105, 0, 976, 0, 0) := by rfl
set_option maxRecDepth 10000 in
theorem lf_558 : fl_9 558 = some (.lcmp, 559, 0, 0, 0, 0, 0) := by rfl
set_option maxRecDepth 10000 in
theorem lf_559 : fl_9 559 = some (.ifCond .eq 89, 562, 648, 0, 0, 0, 0) := by rfl
set_option maxRecDepth 10000 in
theorem lf_562 : fl_9 562 = some (.iconst 0, 563, 0, 0, 0, 0, nI 0) := by rfl
set_option maxRecDepth 10000 in
theorem lf_563 : fl_9 563 = some (.ireturn, 564, 0, 0, 0, 0, 0) := by rfl
set_option maxRecDepth 10000 in
theorem lf_564 : fl_9 564 = some (.aload_n 1, 565, 1, 0, 0, 0, 0) := by rfl
set_option maxRecDepth 10000 in
theorem lf_565 : fl_9 565 = some (.aload_n 0, 566, 0, 0, 0, 0, 0) := by rfl
set_option maxRecDepth 10000 in
theorem lf_566 : fl_9 566 = some (.iload_n 3, 567, 3, 0, 0, 0, 0) := by rfl
set_option maxRecDepth 10000 in
theorem lf_567 : fl_9 567 = some (.iconst 1, 568, 0, 0, 0, 0, nI 1) := by rfl
set_option maxRecDepth 10000 in
theorem lf_568 : fl_9 568 = some (.iadd, 569, 0, 0, 0, 0, 0) := by rfl
set_option maxRecDepth 10000 in
theorem lf_569 : fl_9 569 = some (.iaload, 570, 0, 0, 0, 0, 0) := by rfl
set_option maxRecDepth 10000 in
theorem lf_570 : fl_9 570 = some (.aload_n 0, 571, 0, 0, 0, 0, 0) := by rfl
set_option maxRecDepth 10000 in
theorem lf_571 : fl_9 571 = some (.iload_n 3, 572, 3, 0, 0, 0, 0) := by rfl
set_option maxRecDepth 10000 in
theorem lf_572 : fl_9 572 = some (.iconst 2, 573, 0, 0, 0, 0, nI 2) := by rfl
set_option maxRecDepth 10000 in
theorem lf_573 : fl_9 573 = some (.iadd, 574, 0, 0, 0, 0, 0) := by rfl
set_option maxRecDepth 10000 in
theorem lf_574 : fl_9 574 = some (.iaload, 575, 0, 0, 0, 0, 0) := by rfl
set_option maxRecDepth 10000 in
theorem lf_575 : fl_9 575 = some (.invokevirtual 72, 578, 63, 0, 682, 0, 0) := by rfl
set_option maxRecDepth 10000 in
theorem lf_578 : fl_9 578 = some (.aload_n 2, 579, 2, 0, 0, 0, 0) := by rfl
set_option maxRecDepth 10000 in
theorem lf_579 : fl_9 579 = some (.aload_n 0, 580, 0, 0, 0, 0, 0) := by rfl
set_option maxRecDepth 10000 in
theorem lf_580 : fl_9 580 = some (.iload_n 3, 581, 3, 0, 0, 0, 0) := by rfl
set_option maxRecDepth 10000 in
theorem lf_581 : fl_9 581 = some (.iconst 1, 582, 0, 0, 0, 0, nI 1) := by rfl
set_option maxRecDepth 10000 in
theorem lf_582 : fl_9 582 = some (.iadd, 583, 0, 0, 0, 0, 0) := by rfl
set_option maxRecDepth 10000 in
theorem lf_583 : fl_9 583 = some (.iaload, 584, 0, 0, 0, 0, 0) := by rfl
set_option maxRecDepth 10000 in
theorem lf_584 : fl_9 584 = some (.aload_n 0, 585, 0, 0, 0, 0, 0) := by rfl
set_option maxRecDepth 10000 in
theorem lf_585 : fl_9 585 = some (.iload_n 3, 586, 3, 0, 0, 0, 0) := by rfl
set_option maxRecDepth 10000 in
theorem lf_586 : fl_9 586 = some (.iconst 2, 587, 0, 0, 0, 0, nI 2) := by rfl
set_option maxRecDepth 10000 in
theorem lf_587 : fl_9 587 = some (.iadd, 588, 0, 0, 0, 0, 0) := by rfl
set_option maxRecDepth 10000 in
theorem lf_588 : fl_9 588 = some (.iaload, 589, 0, 0, 0, 0, 0) := by rfl
set_option maxRecDepth 10000 in
theorem lf_589 : fl_9 589 = some (.invokevirtual 75, 592, 109, 0, 994, 0, 0) := by rfl
set_option maxRecDepth 10000 in
theorem lf_592 : fl_9 592 = some (.lcmp, 593, 0, 0, 0, 0, 0) := by rfl
set_option maxRecDepth 10000 in
theorem lf_593 : fl_9 593 = some (.ifCond .eq 55, 596, 648, 0, 0, 0, 0) := by rfl
set_option maxRecDepth 10000 in
theorem lf_596 : fl_9 596 = some (.iconst 0, 597, 0, 0, 0, 0, nI 0) := by rfl
set_option maxRecDepth 10000 in
theorem lf_597 : fl_9 597 = some (.ireturn, 598, 0, 0, 0, 0, 0) := by rfl
set_option maxRecDepth 10000 in
theorem lf_598 : fl_9 598 = some (.aload_n 1, 599, 1, 0, 0, 0, 0) := by rfl
set_option maxRecDepth 10000 in
theorem lf_599 : fl_9 599 = some (.invokevirtual 76, 602, 64, 0, 686, 0, 0) := by rfl
set_option maxRecDepth 10000 in
theorem lf_602 : fl_9 602 = some (.aload_n 2, 603, 2, 0, 0, 0, 0) := by rfl
set_option maxRecDepth 10000 in
theorem lf_603 : fl_9 603 = some (.invokevirtual 80, 606, 110, 0, 998, 0, 0) := by rfl
set_option maxRecDepth 10000 in
theorem lf_606 : fl_9 606 = some (.lcmp, 607, 0, 0, 0, 0, 0) := by rfl
set_option maxRecDepth 10000 in
theorem lf_607 : fl_9 607 = some (.ifCond .eq 41, 610, 648, 0, 0, 0, 0) := by rfl
set_option maxRecDepth 10000 in
theorem lf_610 : fl_9 610 = some (.iconst 0, 611, 0, 0, 0, 0, nI 0) := by rfl
set_option maxRecDepth 10000 in
theorem lf_611 : fl_9 611 = some (.ireturn, 612, 0, 0, 0, 0, 0) := by rfl
set_option maxRecDepth 10000 in
theorem lf_612 : fl_9 612 = some (.aload_n 1, 613, 1, 0, 0, 0, 0) := by rfl
set_option maxRecDepth 10000 in
theorem lf_613 : fl_9 613 = some (.aload_n 0, 614, 0, 0, 0, 0, 0) := by rfl
set_option maxRecDepth 10000 in
theorem lf_614 : fl_9 614 = some (.iload_n 3, 615, 3, 0, 0, 0, 0) := by rfl
set_option maxRecDepth 10000 in
theorem lf_615 : fl_9 615 = some (.iconst 1, 616, 0, 0, 0, 0, nI 1) := by rfl
set_option maxRecDepth 10000 in
theorem lf_616 : fl_9 616 = some (.iadd, 617, 0, 0, 0, 0, 0) := by rfl
set_option maxRecDepth 10000 in
theorem lf_617 : fl_9 617 = some (.iaload, 618, 0, 0, 0, 0, 0) := by rfl
set_option maxRecDepth 10000 in
theorem lf_618 : fl_9 618 = some (.invokevirtual 81, 621, 70, 0, 709, 0, 0) := by rfl
set_option maxRecDepth 10000 in
theorem lf_621 : fl_9 621 = some (.aload_n 2, 622, 2, 0, 0, 0, 0) := by rfl
set_option maxRecDepth 10000 in
theorem lf_622 : fl_9 622 = some (.aload_n 0, 623, 0, 0, 0, 0, 0) := by rfl
set_option maxRecDepth 10000 in
theorem lf_623 : fl_9 623 = some (.iload_n 3, 624, 3, 0, 0, 0, 0) := by rfl
set_option maxRecDepth 10000 in
theorem lf_624 : fl_9 624 = some (.iconst 1, 625, 0, 0, 0, 0, nI 1) := by rfl
set_option maxRecDepth 10000 in
theorem lf_625 : fl_9 625 = some (.iadd, 626, 0, 0, 0, 0, 0) := by rfl
set_option maxRecDepth 10000 in
theorem lf_626 : fl_9 626 = some (.iaload, 627, 0, 0, 0, 0, 0) := by rfl
set_option maxRecDepth 10000 in
theorem lf_627 : fl_9 627 = some (.invokevirtual 84, 630, 113, 0, 1012, 0, 0) := by rfl
set_option maxRecDepth 10000 in
theorem lf_630 : fl_9 630 = some (.if_icmp .eq 18, 633, 648, 0, 0, 0, 0) := by rfl
set_option maxRecDepth 10000 in
theorem lf_633 : fl_9 633 = some (.iconst 0, 634, 0, 0, 0, 0, nI 0) := by rfl
set_option maxRecDepth 10000 in
theorem lf_634 : fl_9 634 = some (.ireturn, 635, 0, 0, 0, 0, 0) := by rfl
set_option maxRecDepth 10000 in
theorem lf_635 : fl_9 635 = some (.aload_n 1, 636, 1, 0, 0, 0, 0) := by rfl
set_option maxRecDepth 10000 in
theorem lf_636 : fl_9 636 = some (.invokevirtual 85, 639, 73, 0, 722, 0, 0) := by rfl
set_option maxRecDepth 10000 in
theorem lf_639 : fl_9 639 = some (.aload_n 2, 640, 2, 0, 0, 0, 0) := by rfl
set_option maxRecDepth 10000 in
theorem lf_640 : fl_9 640 = some (.invokevirtual 88, 643, 114, 0, 1017, 0, 0) := by rfl
set_option maxRecDepth 10000 in
theorem lf_643 : fl_9 643 = some (.if_icmp .eq 5, 646, 648, 0, 0, 0, 0) := by rfl
set_option maxRecDepth 10000 in
theorem lf_646 : fl_9 646 = some (.iconst 0, 647, 0, 0, 0, 0, nI 0) := by rfl
set_option maxRecDepth 10000 in
theorem lf_647 : fl_9 647 = some (.ireturn, 648, 0, 0, 0, 0, 0) := by rfl
set_option maxRecDepth 10000 in
theorem lf_648 : fl_9 648 = some (.iinc 3 7, 651, 3, 0, 0, 0, nI 7) := by rfl
set_option maxRecDepth 10000 in
theorem lf_651 : fl_9 651 = some (.goto (-633), 654, 18, 0, 0, 0, 0) := by rfl
set_option maxRecDepth 10000 in
theorem lf_654 : fl_9 654 = some (.iconst 1, 655, 0, 0, 0, 0, nI 1) := by rfl
set_option maxRecDepth 10000 in
theorem lf_655 : fl_9 655 = some (.ireturn, 656, 0, 0, 0, 0, 0) := by rfl
