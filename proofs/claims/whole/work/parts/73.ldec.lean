theorem dl_162 : decode code 162 = .ok (.iaload, 1) := by decide +kernel
theorem dl_163 : decode code 163 = .ok (.aload_n 0, 1) := by decide +kernel
theorem dl_164 : decode code 164 = .ok (.iload_n 3, 1) := by decide +kernel
theorem dl_165 : decode code 165 = .ok (.iconst 2, 1) := by decide +kernel
theorem dl_166 : decode code 166 = .ok (.iadd, 1) := by decide +kernel
theorem dl_167 : decode code 167 = .ok (.iaload, 1) := by decide +kernel
theorem dl_168 : decode code 168 = .ok (.aload_n 0, 1) := by decide +kernel
theorem dl_169 : decode code 169 = .ok (.iload_n 3, 1) := by decide +kernel
theorem dl_170 : decode code 170 = .ok (.iconst 3, 1) := by decide +kernel
theorem dl_171 : decode code 171 = .ok (.iadd, 1) := by decide +kernel
theorem dl_172 : decode code 172 = .ok (.iaload, 1) := by decide +kernel
theorem dl_173 : decode code 173 = .ok (.invokevirtual 26, 3) := by decide +kernel
theorem dl_176 : decode code 176 = .ok (.aload_n 2, 1) := by decide +kernel
theorem dl_177 : decode code 177 = .ok (.aload_n 0, 1) := by decide +kernel
theorem dl_178 : decode code 178 = .ok (.iload_n 3, 1) := by decide +kernel
theorem dl_179 : decode code 179 = .ok (.iconst 1, 1) := by decide +kernel
theorem dl_180 : decode code 180 = .ok (.iadd, 1) := by decide +kernel
theorem dl_181 : decode code 181 = .ok (.iaload, 1) := by decide +kernel
theorem dl_182 : decode code 182 = .ok (.aload_n 0, 1) := by decide +kernel
theorem dl_183 : decode code 183 = .ok (.iload_n 3, 1) := by decide +kernel
theorem dl_184 : decode code 184 = .ok (.iconst 2, 1) := by decide +kernel
theorem dl_185 : decode code 185 = .ok (.iadd, 1) := by decide +kernel
theorem dl_186 : decode code 186 = .ok (.iaload, 1) := by decide +kernel
theorem dl_187 : decode code 187 = .ok (.aload_n 0, 1) := by decide +kernel
theorem dl_188 : decode code 188 = .ok (.iload_n 3, 1) := by decide +kernel
theorem dl_189 : decode code 189 = .ok (.iconst 3, 1) := by decide +kernel
theorem dl_190 : decode code 190 = .ok (.iadd, 1) := by decide +kernel
theorem dl_191 : decode code 191 = .ok (.iaload, 1) := by decide +kernel
theorem dl_192 : decode code 192 = .ok (.invokevirtual 30, 3) := by decide +kernel
theorem dl_195 : decode code 195 = .ok (.if_icmp .eq 661, 3) := by decide +kernel
theorem dl_198 : decode code 198 = .ok (.iconst 0, 1) := by decide +kernel
theorem dl_199 : decode code 199 = .ok (.ireturn, 1) := by decide +kernel
theorem dl_200 : decode code 200 = .ok (.aload_n 1, 1) := by decide +kernel
theorem dl_201 : decode code 201 = .ok (.aload_n 0, 1) := by decide +kernel
theorem dl_202 : decode code 202 = .ok (.iload_n 3, 1) := by decide +kernel
theorem dl_203 : decode code 203 = .ok (.iconst 1, 1) := by decide +kernel
theorem dl_204 : decode code 204 = .ok (.iadd, 1) := by decide +kernel
theorem dl_205 : decode code 205 = .ok (.iaload, 1) := by decide +kernel
theorem dl_206 : decode code 206 = .ok (.aload_n 0, 1) := by decide +kernel
theorem dl_207 : decode code 207 = .ok (.iload_n 3, 1) := by decide +kernel
theorem dl_208 : decode code 208 = .ok (.iconst 2, 1) := by decide +kernel
theorem dl_209 : decode code 209 = .ok (.iadd, 1) := by decide +kernel
theorem dl_210 : decode code 210 = .ok (.iaload, 1) := by decide +kernel
theorem dl_211 : decode code 211 = .ok (.i2l, 1) := by decide +kernel
theorem dl_212 : decode code 212 = .ok (.bipush 32, 2) := by decide +kernel
theorem dl_214 : decode code 214 = .ok (.lshl, 1) := by decide +kernel
theorem dl_215 : decode code 215 = .ok (.aload_n 0, 1) := by decide +kernel
theorem dl_216 : decode code 216 = .ok (.iload_n 3, 1) := by decide +kernel
theorem dl_217 : decode code 217 = .ok (.iconst 3, 1) := by decide +kernel
theorem dl_218 : decode code 218 = .ok (.iadd, 1) := by decide +kernel
theorem dl_219 : decode code 219 = .ok (.iaload, 1) := by decide +kernel
theorem dl_220 : decode code 220 = .ok (.i2l, 1) := by decide +kernel
theorem dl_221 : decode code 221 = .ok (.ldc2_w 31, 3) := by decide +kernel
theorem dl_224 : decode code 224 = .ok (.land, 1) := by decide +kernel
theorem dl_225 : decode code 225 = .ok (.lor, 1) := by decide +kernel
theorem dl_226 : decode code 226 = .ok (.aload_n 0, 1) := by decide +kernel
theorem dl_227 : decode code 227 = .ok (.iload_n 3, 1) := by decide +kernel
theorem dl_228 : decode code 228 = .ok (.iconst 4, 1) := by decide +kernel
theorem dl_229 : decode code 229 = .ok (.iadd, 1) := by decide +kernel
theorem dl_230 : decode code 230 = .ok (.iaload, 1) := by decide +kernel
