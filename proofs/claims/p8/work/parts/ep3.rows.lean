theorem dL_law_108 : decode code 108 = .ok (.iload 4, 2) := by decide +kernel
theorem dL_law_110 : decode code 110 = .ok (.iconst 2, 1) := by decide +kernel
theorem dL_law_111 : decode code 111 = .ok (.iadd, 1) := by decide +kernel
theorem dL_law_112 : decode code 112 = .ok (.iaload, 1) := by decide +kernel
theorem dL_law_113 : decode code 113 = .ok (.aload_n 0, 1) := by decide +kernel
theorem dL_law_114 : decode code 114 = .ok (.iload 4, 2) := by decide +kernel
theorem dL_law_116 : decode code 116 = .ok (.iconst 3, 1) := by decide +kernel
theorem dL_law_117 : decode code 117 = .ok (.iadd, 1) := by decide +kernel
theorem dL_law_118 : decode code 118 = .ok (.iaload, 1) := by decide +kernel
theorem dL_law_119 : decode code 119 = .ok (.aload_n 0, 1) := by decide +kernel
theorem dL_law_120 : decode code 120 = .ok (.iload 4, 2) := by decide +kernel
theorem dL_law_122 : decode code 122 = .ok (.iconst 4, 1) := by decide +kernel
theorem dL_law_123 : decode code 123 = .ok (.iadd, 1) := by decide +kernel
theorem dL_law_124 : decode code 124 = .ok (.iaload, 1) := by decide +kernel
theorem dL_law_125 : decode code 125 = .ok (.aload_n 0, 1) := by decide +kernel
theorem dL_law_126 : decode code 126 = .ok (.iload 4, 2) := by decide +kernel
theorem dL_law_128 : decode code 128 = .ok (.iconst 5, 1) := by decide +kernel
theorem dL_law_129 : decode code 129 = .ok (.iadd, 1) := by decide +kernel
theorem dL_law_130 : decode code 130 = .ok (.iaload, 1) := by decide +kernel
theorem dL_law_131 : decode code 131 = .ok (.invokevirtual 19, 3) := by decide +kernel
theorem dL_law_134 : decode code 134 = .ok (.pop, 1) := by decide +kernel
theorem dL_law_135 : decode code 135 = .ok (.aload_n 2, 1) := by decide +kernel
theorem dL_law_136 : decode code 136 = .ok (.aload_n 0, 1) := by decide +kernel
theorem dL_law_137 : decode code 137 = .ok (.iload 4, 2) := by decide +kernel
theorem dL_law_139 : decode code 139 = .ok (.iconst 1, 1) := by decide +kernel
theorem dL_law_140 : decode code 140 = .ok (.iadd, 1) := by decide +kernel
theorem dL_law_141 : decode code 141 = .ok (.iaload, 1) := by decide +kernel
theorem dL_law_142 : decode code 142 = .ok (.aload_n 0, 1) := by decide +kernel
theorem dL_law_143 : decode code 143 = .ok (.iload 4, 2) := by decide +kernel
theorem dL_law_145 : decode code 145 = .ok (.iconst 2, 1) := by decide +kernel
theorem dL_law_146 : decode code 146 = .ok (.iadd, 1) := by decide +kernel
theorem dL_law_147 : decode code 147 = .ok (.iaload, 1) := by decide +kernel
theorem dL_law_148 : decode code 148 = .ok (.aload_n 0, 1) := by decide +kernel
theorem dL_law_149 : decode code 149 = .ok (.iload 4, 2) := by decide +kernel
theorem dL_law_151 : decode code 151 = .ok (.iconst 3, 1) := by decide +kernel
theorem dL_law_152 : decode code 152 = .ok (.iadd, 1) := by decide +kernel
theorem dL_law_153 : decode code 153 = .ok (.iaload, 1) := by decide +kernel
theorem dL_law_154 : decode code 154 = .ok (.aload_n 0, 1) := by decide +kernel
theorem dL_law_155 : decode code 155 = .ok (.iload 4, 2) := by decide +kernel
theorem dL_law_157 : decode code 157 = .ok (.iconst 4, 1) := by decide +kernel
theorem dL_law_158 : decode code 158 = .ok (.iadd, 1) := by decide +kernel
theorem dL_law_159 : decode code 159 = .ok (.iaload, 1) := by decide +kernel
theorem dL_law_160 : decode code 160 = .ok (.aload_n 0, 1) := by decide +kernel
theorem dL_law_161 : decode code 161 = .ok (.iload 4, 2) := by decide +kernel
theorem dL_law_163 : decode code 163 = .ok (.iconst 5, 1) := by decide +kernel
theorem dL_law_164 : decode code 164 = .ok (.iadd, 1) := by decide +kernel
theorem dL_law_165 : decode code 165 = .ok (.iaload, 1) := by decide +kernel
theorem dL_law_166 : decode code 166 = .ok (.invokevirtual 23, 3) := by decide +kernel
theorem dL_law_169 : decode code 169 = .ok (.pop, 1) := by decide +kernel
theorem dL_law_170 : decode code 170 = .ok (.goto 386, 3) := by decide +kernel
theorem dL_law_173 : decode code 173 = .ok (.aload_n 1, 1) := by decide +kernel
theorem dL_law_174 : decode code 174 = .ok (.aload_n 0, 1) := by decide +kernel
theorem dL_law_175 : decode code 175 = .ok (.iload 4, 2) := by decide +kernel
theorem dL_law_177 : decode code 177 = .ok (.iconst 1, 1) := by decide +kernel
theorem dL_law_178 : decode code 178 = .ok (.iadd, 1) := by decide +kernel
theorem dL_law_179 : decode code 179 = .ok (.iaload, 1) := by decide +kernel
theorem dL_law_180 : decode code 180 = .ok (.invokevirtual 24, 3) := by decide +kernel
theorem dL_law_183 : decode code 183 = .ok (.pop, 1) := by decide +kernel
theorem dL_law_184 : decode code 184 = .ok (.aload_n 2, 1) := by decide +kernel
theorem dL_law_185 : decode code 185 = .ok (.aload_n 0, 1) := by decide +kernel
theorem dL_law_186 : decode code 186 = .ok (.iload 4, 2) := by decide +kernel
theorem dL_law_188 : decode code 188 = .ok (.iconst 1, 1) := by decide +kernel
theorem dL_law_189 : decode code 189 = .ok (.iadd, 1) := by decide +kernel
theorem dL_law_190 : decode code 190 = .ok (.iaload, 1) := by decide +kernel
theorem dL_law_191 : decode code 191 = .ok (.invokevirtual 27, 3) := by decide +kernel
theorem dL_law_194 : decode code 194 = .ok (.pop, 1) := by decide +kernel
theorem dL_law_195 : decode code 195 = .ok (.goto 361, 3) := by decide +kernel
theorem dL_law_198 : decode code 198 = .ok (.aload_n 1, 1) := by decide +kernel
theorem dL_law_199 : decode code 199 = .ok (.invokevirtual 28, 3) := by decide +kernel
theorem dL_law_202 : decode code 202 = .ok (.pop, 1) := by decide +kernel
theorem dL_law_203 : decode code 203 = .ok (.aload_n 2, 1) := by decide +kernel
theorem dL_law_204 : decode code 204 = .ok (.invokevirtual 32, 3) := by decide +kernel
theorem dL_law_207 : decode code 207 = .ok (.pop, 1) := by decide +kernel
theorem dL_law_208 : decode code 208 = .ok (.goto 348, 3) := by decide +kernel
theorem dL_law_211 : decode code 211 = .ok (.aload_n 1, 1) := by decide +kernel
theorem dL_law_212 : decode code 212 = .ok (.invokevirtual 33, 3) := by decide +kernel
theorem dL_law_215 : decode code 215 = .ok (.pop, 1) := by decide +kernel
theorem dL_law_216 : decode code 216 = .ok (.aload_n 2, 1) := by decide +kernel
theorem dL_law_217 : decode code 217 = .ok (.invokevirtual 36, 3) := by decide +kernel
theorem dL_law_220 : decode code 220 = .ok (.pop, 1) := by decide +kernel
theorem dL_law_221 : decode code 221 = .ok (.goto 335, 3) := by decide +kernel
theorem dL_law_224 : decode code 224 = .ok (.aload_n 1, 1) := by decide +kernel
theorem dL_law_225 : decode code 225 = .ok (.aload_n 0, 1) := by decide +kernel
theorem dL_law_226 : decode code 226 = .ok (.iload 4, 2) := by decide +kernel
theorem dL_law_228 : decode code 228 = .ok (.iconst 1, 1) := by decide +kernel
theorem dL_law_229 : decode code 229 = .ok (.iadd, 1) := by decide +kernel
theorem dL_law_230 : decode code 230 = .ok (.iaload, 1) := by decide +kernel
theorem dL_law_231 : decode code 231 = .ok (.aload_n 0, 1) := by decide +kernel
theorem dL_law_232 : decode code 232 = .ok (.iload 4, 2) := by decide +kernel
theorem dL_law_234 : decode code 234 = .ok (.iconst 2, 1) := by decide +kernel
theorem dL_law_235 : decode code 235 = .ok (.iadd, 1) := by decide +kernel
theorem dL_law_236 : decode code 236 = .ok (.iaload, 1) := by decide +kernel
theorem dL_law_237 : decode code 237 = .ok (.invokevirtual 37, 3) := by decide +kernel
theorem dL_law_240 : decode code 240 = .ok (.pop, 1) := by decide +kernel
theorem dL_law_241 : decode code 241 = .ok (.aload_n 2, 1) := by decide +kernel
theorem dL_law_242 : decode code 242 = .ok (.aload_n 0, 1) := by decide +kernel
theorem dL_law_243 : decode code 243 = .ok (.iload 4, 2) := by decide +kernel
theorem dL_law_245 : decode code 245 = .ok (.iconst 1, 1) := by decide +kernel
theorem dL_law_246 : decode code 246 = .ok (.iadd, 1) := by decide +kernel
theorem dL_law_247 : decode code 247 = .ok (.iaload, 1) := by decide +kernel
theorem dL_law_248 : decode code 248 = .ok (.aload_n 0, 1) := by decide +kernel
theorem dL_law_249 : decode code 249 = .ok (.iload 4, 2) := by decide +kernel
theorem dL_law_251 : decode code 251 = .ok (.iconst 2, 1) := by decide +kernel
theorem dL_law_252 : decode code 252 = .ok (.iadd, 1) := by decide +kernel
theorem dL_law_253 : decode code 253 = .ok (.iaload, 1) := by decide +kernel
theorem dL_law_254 : decode code 254 = .ok (.invokevirtual 41, 3) := by decide +kernel
theorem dL_law_257 : decode code 257 = .ok (.pop, 1) := by decide +kernel
