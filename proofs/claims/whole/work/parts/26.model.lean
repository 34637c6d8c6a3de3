theorem d_RM_fma_0 : decode prog_6_method_29_code 0 = .ok (.iload_n 1, 1) := by decide +kernel
theorem d_RM_fma_1 : decode prog_6_method_29_code 1 = .ok (.invokestatic 40, 3) := by decide +kernel
theorem d_RM_fma_4 : decode prog_6_method_29_code 4 = .ok (.ifCond .eq 33, 3) := by decide +kernel
theorem d_RM_fma_7 : decode prog_6_method_29_code 7 = .ok (.iload_n 2, 1) := by decide +kernel
theorem d_RM_fma_8 : decode prog_6_method_29_code 8 = .ok (.invokestatic 40, 3) := by decide +kernel
theorem d_RM_fma_11 : decode prog_6_method_29_code 11 = .ok (.ifCond .eq 26, 3) := by decide +kernel
theorem d_RM_fma_14 : decode prog_6_method_29_code 14 = .ok (.iload_n 3, 1) := by decide +kernel
theorem d_RM_fma_15 : decode prog_6_method_29_code 15 = .ok (.invokestatic 40, 3) := by decide +kernel
theorem d_RM_fma_18 : decode prog_6_method_29_code 18 = .ok (.ifCond .eq 19, 3) := by decide +kernel
theorem d_RM_fma_21 : decode prog_6_method_29_code 21 = .ok (.iload 4, 2) := by decide +kernel
theorem d_RM_fma_23 : decode prog_6_method_29_code 23 = .ok (.invokestatic 40, 3) := by decide +kernel
theorem d_RM_fma_26 : decode prog_6_method_29_code 26 = .ok (.ifCond .eq 11, 3) := by decide +kernel
theorem d_RM_fma_29 : decode prog_6_method_29_code 29 = .ok (.iload 5, 2) := by decide +kernel
theorem d_RM_fma_31 : decode prog_6_method_29_code 31 = .ok (.invokestatic 77, 3) := by decide +kernel
theorem d_RM_fma_34 : decode prog_6_method_29_code 34 = .ok (.ifCond .ne 6, 3) := by decide +kernel
theorem d_RM_fma_37 : decode prog_6_method_29_code 37 = .ok (.bipush 9, 2) := by decide +kernel
theorem d_RM_fma_39 : decode prog_6_method_29_code 39 = .ok (.ireturn, 1) := by decide +kernel
theorem d_RM_fma_40 : decode prog_6_method_29_code 40 = .ok (.aload_n 0, 1) := by decide +kernel
theorem d_RM_fma_41 : decode prog_6_method_29_code 41 = .ok (.iload_n 2, 1) := by decide +kernel
theorem d_RM_fma_42 : decode prog_6_method_29_code 42 = .ok (.iload_n 3, 1) := by decide +kernel
theorem d_RM_fma_43 : decode prog_6_method_29_code 43 = .ok (.invokevirtual 104, 3) := by decide +kernel
theorem d_RM_fma_46 : decode prog_6_method_29_code 46 = .ok (.istore 6, 2) := by decide +kernel
theorem d_RM_fma_48 : decode prog_6_method_29_code 48 = .ok (.aload_n 0, 1) := by decide +kernel
theorem d_RM_fma_49 : decode prog_6_method_29_code 49 = .ok (.getfield 13, 3) := by decide +kernel
theorem d_RM_fma_52 : decode prog_6_method_29_code 52 = .ok (.iload 4, 2) := by decide +kernel
theorem d_RM_fma_54 : decode prog_6_method_29_code 54 = .ok (.iaload, 1) := by decide +kernel
theorem d_RM_fma_55 : decode prog_6_method_29_code 55 = .ok (.istore 7, 2) := by decide +kernel
theorem d_RM_fma_57 : decode prog_6_method_29_code 57 = .ok (.aload_n 0, 1) := by decide +kernel
theorem d_RM_fma_58 : decode prog_6_method_29_code 58 = .ok (.getfield 16, 3) := by decide +kernel
theorem d_RM_fma_61 : decode prog_6_method_29_code 61 = .ok (.iload_n 2, 1) := by decide +kernel
theorem d_RM_fma_62 : decode prog_6_method_29_code 62 = .ok (.iaload, 1) := by decide +kernel
theorem d_RM_fma_63 : decode prog_6_method_29_code 63 = .ok (.aload_n 0, 1) := by decide +kernel
theorem d_RM_fma_64 : decode prog_6_method_29_code 64 = .ok (.getfield 16, 3) := by decide +kernel
theorem d_RM_fma_67 : decode prog_6_method_29_code 67 = .ok (.iload_n 3, 1) := by decide +kernel
theorem d_RM_fma_68 : decode prog_6_method_29_code 68 = .ok (.iaload, 1) := by decide +kernel
theorem d_RM_fma_69 : decode prog_6_method_29_code 69 = .ok (.imul, 1) := by decide +kernel
theorem d_RM_fma_70 : decode prog_6_method_29_code 70 = .ok (.istore 8, 2) := by decide +kernel
theorem d_RM_fma_72 : decode prog_6_method_29_code 72 = .ok (.iload 6, 2) := by decide +kernel
theorem d_RM_fma_74 : decode prog_6_method_29_code 74 = .ok (.ifCond .eq 32, 3) := by decide +kernel
theorem d_RM_fma_77 : decode prog_6_method_29_code 77 = .ok (.iload 7, 2) := by decide +kernel
theorem d_RM_fma_79 : decode prog_6_method_29_code 79 = .ok (.ifCond .eq 27, 3) := by decide +kernel
theorem d_RM_fma_82 : decode prog_6_method_29_code 82 = .ok (.iload 6, 2) := by decide +kernel
theorem d_RM_fma_84 : decode prog_6_method_29_code 84 = .ok (.iconst 1, 1) := by decide +kernel
theorem d_RM_fma_85 : decode prog_6_method_29_code 85 = .ok (.if_icmp .ne 29, 3) := by decide +kernel
theorem d_RM_fma_88 : decode prog_6_method_29_code 88 = .ok (.iload 7, 2) := by decide +kernel
theorem d_RM_fma_90 : decode prog_6_method_29_code 90 = .ok (.iconst 1, 1) := by decide +kernel
theorem d_RM_fma_91 : decode prog_6_method_29_code 91 = .ok (.if_icmp .ne 23, 3) := by decide +kernel
theorem d_RM_fma_94 : decode prog_6_method_29_code 94 = .ok (.iload 8, 2) := by decide +kernel
theorem d_RM_fma_96 : decode prog_6_method_29_code 96 = .ok (.aload_n 0, 1) := by decide +kernel
theorem d_RM_fma_97 : decode prog_6_method_29_code 97 = .ok (.getfield 16, 3) := by decide +kernel
theorem d_RM_fma_100 : decode prog_6_method_29_code 100 = .ok (.iload 4, 2) := by decide +kernel
theorem d_RM_fma_102 : decode prog_6_method_29_code 102 = .ok (.iaload, 1) := by decide +kernel
theorem d_RM_fma_103 : decode prog_6_method_29_code 103 = .ok (.if_icmp .eq 11, 3) := by decide +kernel
theorem d_RM_fma_106 : decode prog_6_method_29_code 106 = .ok (.aload_n 0, 1) := by decide +kernel
theorem d_RM_fma_107 : decode prog_6_method_29_code 107 = .ok (.iload_n 1, 1) := by decide +kernel
theorem d_RM_fma_108 : decode prog_6_method_29_code 108 = .ok (.iconst 0, 1) := by decide +kernel
theorem d_RM_fma_109 : decode prog_6_method_29_code 109 = .ok (.iconst 0, 1) := by decide +kernel
theorem d_RM_fma_110 : decode prog_6_method_29_code 110 = .ok (.invokevirtual 59, 3) := by decide +kernel
theorem d_RM_fma_113 : decode prog_6_method_29_code 113 = .ok (.ireturn, 1) := by decide +kernel
theorem d_RM_fma_114 : decode prog_6_method_29_code 114 = .ok (.iload 6, 2) := by decide +kernel
theorem d_RM_fma_116 : decode prog_6_method_29_code 116 = .ok (.iconst 1, 1) := by decide +kernel
theorem d_RM_fma_117 : decode prog_6_method_29_code 117 = .ok (.if_icmp .eq 9, 3) := by decide +kernel
theorem d_RM_fma_120 : decode prog_6_method_29_code 120 = .ok (.iload 7, 2) := by decide +kernel
theorem d_RM_fma_122 : decode prog_6_method_29_code 122 = .ok (.iconst 1, 1) := by decide +kernel
theorem d_RM_fma_123 : decode prog_6_method_29_code 123 = .ok (.if_icmp .ne 28, 3) := by decide +kernel
theorem d_RM_fma_126 : decode prog_6_method_29_code 126 = .ok (.aload_n 0, 1) := by decide +kernel
theorem d_RM_fma_127 : decode prog_6_method_29_code 127 = .ok (.iload_n 1, 1) := by decide +kernel
theorem d_RM_fma_128 : decode prog_6_method_29_code 128 = .ok (.iconst 1, 1) := by decide +kernel
theorem d_RM_fma_129 : decode prog_6_method_29_code 129 = .ok (.iload 6, 2) := by decide +kernel
theorem d_RM_fma_131 : decode prog_6_method_29_code 131 = .ok (.iconst 1, 1) := by decide +kernel
theorem d_RM_fma_132 : decode prog_6_method_29_code 132 = .ok (.if_icmp .ne 8, 3) := by decide +kernel
theorem d_RM_fma_135 : decode prog_6_method_29_code 135 = .ok (.iload 8, 2) := by decide +kernel
theorem d_RM_fma_137 : decode prog_6_method_29_code 137 = .ok (.goto 10, 3) := by decide +kernel
theorem d_RM_fma_140 : decode prog_6_method_29_code 140 = .ok (.aload_n 0, 1) := by decide +kernel
theorem d_RM_fma_141 : decode prog_6_method_29_code 141 = .ok (.getfield 16, 3) := by decide +kernel
theorem d_RM_fma_144 : decode prog_6_method_29_code 144 = .ok (.iload 4, 2) := by decide +kernel
theorem d_RM_fma_146 : decode prog_6_method_29_code 146 = .ok (.iaload, 1) := by decide +kernel
theorem d_RM_fma_147 : decode prog_6_method_29_code 147 = .ok (.invokevirtual 59, 3) := by decide +kernel
theorem d_RM_fma_150 : decode prog_6_method_29_code 150 = .ok (.ireturn, 1) := by decide +kernel
theorem d_RM_fma_151 : decode prog_6_method_29_code 151 = .ok (.iload 6, 2) := by decide +kernel
theorem d_RM_fma_153 : decode prog_6_method_29_code 153 = .ok (.iconst 2, 1) := by decide +kernel
theorem d_RM_fma_154 : decode prog_6_method_29_code 154 = .ok (.if_icmp .ne 40, 3) := by decide +kernel
theorem d_RM_fma_157 : decode prog_6_method_29_code 157 = .ok (.iload 7, 2) := by decide +kernel
theorem d_RM_fma_159 : decode prog_6_method_29_code 159 = .ok (.iconst 2, 1) := by decide +kernel
theorem d_RM_fma_160 : decode prog_6_method_29_code 160 = .ok (.if_icmp .ne 34, 3) := by decide +kernel
theorem d_RM_fma_163 : decode prog_6_method_29_code 163 = .ok (.iload 8, 2) := by decide +kernel
theorem d_RM_fma_165 : decode prog_6_method_29_code 165 = .ok (.aload_n 0, 1) := by decide +kernel
theorem d_RM_fma_166 : decode prog_6_method_29_code 166 = .ok (.getfield 16, 3) := by decide +kernel
theorem d_RM_fma_169 : decode prog_6_method_29_code 169 = .ok (.iload 4, 2) := by decide +kernel
theorem d_RM_fma_171 : decode prog_6_method_29_code 171 = .ok (.iaload, 1) := by decide +kernel
theorem d_RM_fma_172 : decode prog_6_method_29_code 172 = .ok (.if_icmp .ne 14, 3) := by decide +kernel
theorem d_RM_fma_175 : decode prog_6_method_29_code 175 = .ok (.aload_n 0, 1) := by decide +kernel
theorem d_RM_fma_176 : decode prog_6_method_29_code 176 = .ok (.iload_n 1, 1) := by decide +kernel
theorem d_RM_fma_177 : decode prog_6_method_29_code 177 = .ok (.iconst 2, 1) := by decide +kernel
theorem d_RM_fma_178 : decode prog_6_method_29_code 178 = .ok (.iload 8, 2) := by decide +kernel
theorem d_RM_fma_180 : decode prog_6_method_29_code 180 = .ok (.invokevirtual 59, 3) := by decide +kernel
theorem d_RM_fma_183 : decode prog_6_method_29_code 183 = .ok (.goto 10, 3) := by decide +kernel
theorem d_RM_fma_186 : decode prog_6_method_29_code 186 = .ok (.aload_n 0, 1) := by decide +kernel
theorem d_RM_fma_187 : decode prog_6_method_29_code 187 = .ok (.iload_n 1, 1) := by decide +kernel
theorem d_RM_fma_188 : decode prog_6_method_29_code 188 = .ok (.iload 5, 2) := by decide +kernel
theorem d_RM_fma_190 : decode prog_6_method_29_code 190 = .ok (.invokevirtual 94, 3) := by decide +kernel
theorem d_RM_fma_193 : decode prog_6_method_29_code 193 = .ok (.ireturn, 1) := by decide +kernel
theorem d_RM_fma_194 : decode prog_6_method_29_code 194 = .ok (.iload 6, 2) := by decide +kernel
theorem d_RM_fma_196 : decode prog_6_method_29_code 196 = .ok (.iconst 2, 1) := by decide +kernel
theorem d_RM_fma_197 : decode prog_6_method_29_code 197 = .ok (.if_icmp .ne 20, 3) := by decide +kernel
theorem d_RM_fma_200 : decode prog_6_method_29_code 200 = .ok (.aload_n 0, 1) := by decide +kernel
theorem d_RM_fma_201 : decode prog_6_method_29_code 201 = .ok (.iload_n 1, 1) := by decide +kernel
theorem d_RM_fma_202 : decode prog_6_method_29_code 202 = .ok (.iload 4, 2) := by decide +kernel
theorem d_RM_fma_204 : decode prog_6_method_29_code 204 = .ok (.aload_n 0, 1) := by decide +kernel
theorem d_RM_fma_205 : decode prog_6_method_29_code 205 = .ok (.getfield 16, 3) := by decide +kernel
theorem d_RM_fma_208 : decode prog_6_method_29_code 208 = .ok (.iload 4, 2) := by decide +kernel
theorem d_RM_fma_210 : decode prog_6_method_29_code 210 = .ok (.iaload, 1) := by decide +kernel
theorem d_RM_fma_211 : decode prog_6_method_29_code 211 = .ok (.iload 5, 2) := by decide +kernel
theorem d_RM_fma_213 : decode prog_6_method_29_code 213 = .ok (.invokevirtual 90, 3) := by decide +kernel
theorem d_RM_fma_216 : decode prog_6_method_29_code 216 = .ok (.ireturn, 1) := by decide +kernel
theorem d_RM_fma_217 : decode prog_6_method_29_code 217 = .ok (.aload_n 0, 1) := by decide +kernel
theorem d_RM_fma_218 : decode prog_6_method_29_code 218 = .ok (.invokevirtual 80, 3) := by decide +kernel
theorem d_RM_fma_221 : decode prog_6_method_29_code 221 = .ok (.aload_n 0, 1) := by decide +kernel
theorem d_RM_fma_222 : decode prog_6_method_29_code 222 = .ok (.iload_n 2, 1) := by decide +kernel
theorem d_RM_fma_223 : decode prog_6_method_29_code 223 = .ok (.iload_n 3, 1) := by decide +kernel
theorem d_RM_fma_224 : decode prog_6_method_29_code 224 = .ok (.invokevirtual 107, 3) := by decide +kernel
theorem d_RM_fma_227 : decode prog_6_method_29_code 227 = .ok (.iload 7, 2) := by decide +kernel
theorem d_RM_fma_229 : decode prog_6_method_29_code 229 = .ok (.iconst 2, 1) := by decide +kernel
theorem d_RM_fma_230 : decode prog_6_method_29_code 230 = .ok (.if_icmp .ne 8, 3) := by decide +kernel
theorem d_RM_fma_233 : decode prog_6_method_29_code 233 = .ok (.iload 8, 2) := by decide +kernel
theorem d_RM_fma_235 : decode prog_6_method_29_code 235 = .ok (.goto 18, 3) := by decide +kernel
theorem d_RM_fma_238 : decode prog_6_method_29_code 238 = .ok (.aload_n 0, 1) := by decide +kernel
theorem d_RM_fma_239 : decode prog_6_method_29_code 239 = .ok (.iload 8, 2) := by decide +kernel
theorem d_RM_fma_241 : decode prog_6_method_29_code 241 = .ok (.iload 4, 2) := by decide +kernel
theorem d_RM_fma_243 : decode prog_6_method_29_code 243 = .ok (.aload_n 0, 1) := by decide +kernel
theorem d_RM_fma_244 : decode prog_6_method_29_code 244 = .ok (.getfield 16, 3) := by decide +kernel
theorem d_RM_fma_247 : decode prog_6_method_29_code 247 = .ok (.iload 4, 2) := by decide +kernel
theorem d_RM_fma_249 : decode prog_6_method_29_code 249 = .ok (.iaload, 1) := by decide +kernel
theorem d_RM_fma_250 : decode prog_6_method_29_code 250 = .ok (.invokevirtual 97, 3) := by decide +kernel
theorem d_RM_fma_253 : decode prog_6_method_29_code 253 = .ok (.istore 8, 2) := by decide +kernel
theorem d_RM_fma_255 : decode prog_6_method_29_code 255 = .ok (.iload 8, 2) := by decide +kernel
theorem d_RM_fma_257 : decode prog_6_method_29_code 257 = .ok (.ifCond .ne 13, 3) := by decide +kernel
theorem d_RM_fma_260 : decode prog_6_method_29_code 260 = .ok (.aload_n 0, 1) := by decide +kernel
theorem d_RM_fma_261 : decode prog_6_method_29_code 261 = .ok (.iload_n 1, 1) := by decide +kernel
theorem d_RM_fma_262 : decode prog_6_method_29_code 262 = .ok (.iload 5, 2) := by decide +kernel
theorem d_RM_fma_264 : decode prog_6_method_29_code 264 = .ok (.invokevirtual 94, 3) := by decide +kernel
theorem d_RM_fma_267 : decode prog_6_method_29_code 267 = .ok (.goto 12, 3) := by decide +kernel
theorem d_RM_fma_270 : decode prog_6_method_29_code 270 = .ok (.aload_n 0, 1) := by decide +kernel
theorem d_RM_fma_271 : decode prog_6_method_29_code 271 = .ok (.iload_n 1, 1) := by decide +kernel
theorem d_RM_fma_272 : decode prog_6_method_29_code 272 = .ok (.iload 8, 2) := by decide +kernel
theorem d_RM_fma_274 : decode prog_6_method_29_code 274 = .ok (.iload 5, 2) := by decide +kernel
theorem d_RM_fma_276 : decode prog_6_method_29_code 276 = .ok (.invokevirtual 83, 3) := by decide +kernel
theorem d_RM_fma_279 : decode prog_6_method_29_code 279 = .ok (.ireturn, 1) := by decide +kernel
def RM_fma_106 (L1 : Int32) (st : rm_S) : Option (Int32 × rm_S) := ob2 (RM_keep st L1 (0 : Int32) (0 : Int32)) (fun r110 t110 => some (r110, t110))
def RM_fma_147 (s0 : Int32) (s1 : Int32) (s2 : Int32) (st : rm_S) : Option (Int32 × rm_S) := ob2 (RM_keep st s2 s1 s0) (fun r147 t147 => some (r147, t147))
def RM_fma_126 (L1 : Int32) (L4 : Int32) (L6 : Int32) (L8 : Int32) (st : rm_S) : Option (Int32 × rm_S) := (if L6 = (1 : Int32) then RM_fma_147 L8 (1 : Int32) L1 st else (if ob_in L4 8 = true then RM_fma_147 (st 3 L4.toNatClampNeg) (1 : Int32) L1 st else none))
def RM_fma_253 (L1 : Int32) (L5 : Int32) (s0 : Int32) (st : rm_S) : Option (Int32 × rm_S) := (if s0 = 0 then ob2 (RM_nothing st L1 L5) (fun r264 t264 => some (r264, t264)) else ob2 (RM_round st L1 s0 L5) (fun r276 t276 => some (r276, t276)))
def RM_fma_194 (L1 : Int32) (L2 : Int32) (L3 : Int32) (L4 : Int32) (L5 : Int32) (L6 : Int32) (L7 : Int32) (L8 : Int32) (st : rm_S) : Option (Int32 × rm_S) := (if L6 = (2 : Int32) then (if ob_in L4 8 = true then ob2 (RM_move st L1 L4 (st 3 L4.toNatClampNeg) L5) (fun r213 t213 => some (r213, t213)) else none) else ob1 (RM_clear st) (fun t218 => ob1 (RM_putProduct t218 L2 L3) (fun t224 => (if L7 = (2 : Int32) then RM_fma_253 L1 L5 L8 t224 else (if ob_in L4 8 = true then ob2 (RM_sumWith t224 L8 L4 (t224 3 L4.toNatClampNeg)) (fun r250 t250 => RM_fma_253 L1 L5 r250 t250) else none)))))
def RM_fma_114 (L1 : Int32) (L2 : Int32) (L3 : Int32) (L4 : Int32) (L5 : Int32) (L6 : Int32) (L7 : Int32) (L8 : Int32) (st : rm_S) : Option (Int32 × rm_S) := (if L6 = (1 : Int32) then RM_fma_126 L1 L4 L6 L8 st else (if L7 = (1 : Int32) then RM_fma_126 L1 L4 L6 L8 st else (if L6 = (2 : Int32) then (if L7 = (2 : Int32) then (if ob_in L4 8 = true then (if L8 = (st 3 L4.toNatClampNeg) then ob2 (RM_keep st L1 (2 : Int32) L8) (fun r180 t180 => some (r180, t180)) else ob2 (RM_nothing st L1 L5) (fun r190 t190 => some (r190, t190))) else none) else RM_fma_194 L1 L2 L3 L4 L5 L6 L7 L8 st) else RM_fma_194 L1 L2 L3 L4 L5 L6 L7 L8 st)))
def RM_fma (st : rm_S) (p0 : Int32) (p1 : Int32) (p2 : Int32) (p3 : Int32) (p4 : Int32) : Option (Int32 × rm_S) := nm (RM_isRegister p0) (fun r1 => (if r1 = 0 then some ((9 : Int32), st) else nm (RM_isRegister p1) (fun r8 => (if r8 = 0 then some ((9 : Int32), st) else nm (RM_isRegister p2) (fun r15 => (if r15 = 0 then some ((9 : Int32), st) else nm (RM_isRegister p3) (fun r23 => (if r23 = 0 then some ((9 : Int32), st) else nm (RM_isMode p4) (fun r31 => (if r31 = 0 then some ((9 : Int32), st) else ob1 (RM_productKind st p1 p2) (fun r43 => (if ob_in p3 8 = true then nm (st 2 p3.toNatClampNeg) (fun x55 => (if ob_in p1 8 = true then (if ob_in p2 8 = true then nm ((st 3 p1.toNatClampNeg) * (st 3 p2.toNatClampNeg)) (fun x70 => (if r43 = 0 then RM_fma_106 p0 st else (if x55 = 0 then RM_fma_106 p0 st else (if r43 = (1 : Int32) then (if x55 = (1 : Int32) then (if ob_in p3 8 = true then (if x70 = (st 3 p3.toNatClampNeg) then RM_fma_114 p0 p1 p2 p3 p4 r43 x55 x70 st else RM_fma_106 p0 st) else none) else RM_fma_114 p0 p1 p2 p3 p4 r43 x55 x70 st) else RM_fma_114 p0 p1 p2 p3 p4 r43 x55 x70 st)))) else none) else none)) else none))))))))))))
set_option maxHeartbeats 4000000 in
set_option maxRecDepth 100000 in
theorem c_RM_fma (l : Launch) {D : va_G} (a : Nat → Nat) (ci : ClassId) (hi : rm_inj a) (st : rm_S) (p0 : Int32) (p1 : Int32) (p2 : Int32) (p3 : Int32) (p4 : Int32) (r0 : Int32) (t0 : rm_S) (hF : RM_fma st p0 p1 p2 p3 p4 = some (r0, t0)) : ct_i l ⟨"RoundedNumbersModel", "fma", "(IIIII)I"⟩ (.code ⟨"RoundedNumbersModel", "fma", "(IIIII)I"⟩ prog_6_method_29_code 9 (some .int) :: ct_T) { frames := 4, cells := 0, slots := 0, locals := 105 } D vwCl (rm_T ci) (rm_g a ci) (rm_X a) [.ref (a 0), .int p0, .int p1, .int p2, .int p3, .int p4] st r0 t0 := by
  refine ct_i.mk (cc := prog_6_method_29_code) (maxL := 9) (by decide) rfl (Nat.le_of_ble_eq_true rfl) ?_
  intro p e s m below meth c hx hb hr hml hown hts hlk hK hN hP hS ls hl
  have hown : s.vm.findClass "RoundedNumbersModel" = some m.cls := hown
  have hl : lv_has ls 9 [(0, .ref (a 0)), (1, .int p0), (2, .int p1), (3, .int p2), (4, .int p3), (5, .int p4)] := hl
  have htb := fun w h => hts w (List.mem_cons_of_mem _ h)
  unfold RM_fma at hF
  refine lv_iload_n hx hb d_RM_fma_0 rfl (lv_at hl 1 rfl) ?_
  obtain ⟨r1, e1⟩ := nm_ex (RM_isRegister p0)
  replace hF := (nm_eq e1).symm.trans hF
  refine ct_calli (va_runS (As := [.int p0]) (rest := []) ⟨hx, hb, hml, hown, hts⟩ (c_RM_isRegister l (D := D) a ci hi st p0 _ e1 _) (kc_RM_40 hts ⟨by decide, by decide⟩) ⟨ct_blind, ct_ok hP hK hN⟩ rfl rfl hl.1 rfl (lv_room (Nat.le_of_ble_eq_true rfl)) d_RM_fma_1 ⟨Nat.zero_le _, Nat.zero_le _⟩) hS (fun H locs hP hS => ?_)
  refine lv_if_eq hx hb d_RM_fma_4 (tgt := 37) (by decide) (fun c4 => ?_) (fun c4 => ?_)
  · replace hF := (if_pos c4).symm.trans hF
    refine lv_bipush (v := 9) hx hb d_RM_fma_37 (by decide) ?_
    replace hF := Option.some.inj hF
    obtain ⟨rfl, rfl⟩ := Prod.mk.inj hF
    exact ct_iret hx hb hr hlk hP hS d_RM_fma_39
  · replace hF := (if_neg c4).symm.trans hF
    refine lv_iload_n hx hb d_RM_fma_7 rfl (lv_at hl 2 rfl) ?_
    obtain ⟨r8, e8⟩ := nm_ex (RM_isRegister p1)
    replace hF := (nm_eq e8).symm.trans hF
    refine ct_calli (va_runS (As := [.int p1]) (rest := []) ⟨hx, hb, hml, hown, hts⟩ (c_RM_isRegister l (D := D) a ci hi st p1 _ e8 _) (kc_RM_40 hts ⟨by decide, by decide⟩) ⟨ct_blind, ct_ok hP hK hN⟩ rfl rfl hl.1 rfl (lv_room (Nat.le_of_ble_eq_true rfl)) d_RM_fma_8 ⟨Nat.zero_le _, Nat.zero_le _⟩) hS (fun H locs hP hS => ?_)
    refine lv_if_eq hx hb d_RM_fma_11 (tgt := 37) (by decide) (fun c11 => ?_) (fun c11 => ?_)
    · replace hF := (if_pos c11).symm.trans hF
      refine lv_bipush (v := 9) hx hb d_RM_fma_37 (by decide) ?_
      replace hF := Option.some.inj hF
      obtain ⟨rfl, rfl⟩ := Prod.mk.inj hF
      exact ct_iret hx hb hr hlk hP hS d_RM_fma_39
    · replace hF := (if_neg c11).symm.trans hF
      refine lv_iload_n hx hb d_RM_fma_14 rfl (lv_at hl 3 rfl) ?_
      obtain ⟨r15, e15⟩ := nm_ex (RM_isRegister p2)
      replace hF := (nm_eq e15).symm.trans hF
      refine ct_calli (va_runS (As := [.int p2]) (rest := []) ⟨hx, hb, hml, hown, hts⟩ (c_RM_isRegister l (D := D) a ci hi st p2 _ e15 _) (kc_RM_40 hts ⟨by decide, by decide⟩) ⟨ct_blind, ct_ok hP hK hN⟩ rfl rfl hl.1 rfl (lv_room (Nat.le_of_ble_eq_true rfl)) d_RM_fma_15 ⟨Nat.zero_le _, Nat.zero_le _⟩) hS (fun H locs hP hS => ?_)
      refine lv_if_eq hx hb d_RM_fma_18 (tgt := 37) (by decide) (fun c18 => ?_) (fun c18 => ?_)
      · replace hF := (if_pos c18).symm.trans hF
        refine lv_bipush (v := 9) hx hb d_RM_fma_37 (by decide) ?_
        replace hF := Option.some.inj hF
        obtain ⟨rfl, rfl⟩ := Prod.mk.inj hF
        exact ct_iret hx hb hr hlk hP hS d_RM_fma_39
      · replace hF := (if_neg c18).symm.trans hF
        refine lv_iload hx hb d_RM_fma_21 (lv_at hl 4 rfl) ?_
        obtain ⟨r23, e23⟩ := nm_ex (RM_isRegister p3)
        replace hF := (nm_eq e23).symm.trans hF
        refine ct_calli (va_runS (As := [.int p3]) (rest := []) ⟨hx, hb, hml, hown, hts⟩ (c_RM_isRegister l (D := D) a ci hi st p3 _ e23 _) (kc_RM_40 hts ⟨by decide, by decide⟩) ⟨ct_blind, ct_ok hP hK hN⟩ rfl rfl hl.1 rfl (lv_room (Nat.le_of_ble_eq_true rfl)) d_RM_fma_23 ⟨Nat.zero_le _, Nat.zero_le _⟩) hS (fun H locs hP hS => ?_)
        refine lv_if_eq hx hb d_RM_fma_26 (tgt := 37) (by decide) (fun c26 => ?_) (fun c26 => ?_)
        · replace hF := (if_pos c26).symm.trans hF
          refine lv_bipush (v := 9) hx hb d_RM_fma_37 (by decide) ?_
          replace hF := Option.some.inj hF
          obtain ⟨rfl, rfl⟩ := Prod.mk.inj hF
          exact ct_iret hx hb hr hlk hP hS d_RM_fma_39
        · replace hF := (if_neg c26).symm.trans hF
          refine lv_iload hx hb d_RM_fma_29 (lv_at hl 5 rfl) ?_
          obtain ⟨r31, e31⟩ := nm_ex (RM_isMode p4)
          replace hF := (nm_eq e31).symm.trans hF
          refine ct_calli (va_runS (As := [.int p4]) (rest := []) ⟨hx, hb, hml, hown, hts⟩ (c_RM_isMode l (D := D) a ci hi st p4 _ e31 _) (kc_RM_77 hts ⟨by decide, by decide⟩) ⟨ct_blind, ct_ok hP hK hN⟩ rfl rfl hl.1 rfl (lv_room (Nat.le_of_ble_eq_true rfl)) d_RM_fma_31 ⟨Nat.zero_le _, Nat.zero_le _⟩) hS (fun H locs hP hS => ?_)
          refine lv_if_ne hx hb d_RM_fma_34 (tgt := 40) (by decide) (fun c34 => ?_) (fun c34 => ?_)
          · replace hF := (if_neg c34).symm.trans hF
            refine lv_aload_n hx hb d_RM_fma_40 rfl (lv_at hl 0 rfl) ?_
            refine lv_iload_n hx hb d_RM_fma_41 rfl (lv_at hl 2 rfl) ?_
            refine lv_iload_n hx hb d_RM_fma_42 rfl (lv_at hl 3 rfl) ?_
            obtain ⟨r43, e43, hF⟩ := ob_one hF
            refine ct_calli (va_runV (As := [.int p1, .int p2]) (rest := []) ⟨hx, hb, hml, hown, hts⟩ (c_RM_productKind l (D := D) a ci hi st p1 p2 _ e43 _) (kc_RM_104 hts ⟨by decide, by decide⟩) ⟨ct_blind, rm_rc hK hP, ct_ok hP hK hN⟩ rfl rfl hl.1 rfl (lv_room (Nat.le_of_ble_eq_true rfl)) d_RM_fma_43 ⟨Nat.zero_le _, Nat.zero_le _⟩) hS (fun H locs hP hS => ?_)
            refine lv_istore (lv' := [(6, .int r43), (0, .ref (a 0)), (1, .int p0), (2, .int p1), (3, .int p2), (4, .int p3), (5, .int p4)]) hx hb d_RM_fma_46 hl (by decide) rfl (fun ls hl => ?_)
            refine lv_aload_n hx hb d_RM_fma_48 rfl (lv_at hl 1 rfl) ?_
            refine gf_RM_13 hx hb htb hown hK hP d_RM_fma_49 ?_
            refine lv_iload hx hb d_RM_fma_52 (lv_at hl 5 rfl) ?_
            obtain ⟨b54, hF⟩ := ob_if hF
            refine rm_ald hx hb hK hP (k := 2) (by decide) (by decide) (ob_vi b54) d_RM_fma_54 ?_
            refine lv_topi (fun x55 e55 => ?_)
            replace hF := (nm_eq e55.symm).symm.trans hF
            refine lv_istore (lv' := [(7, .int x55), (6, .int r43), (0, .ref (a 0)), (1, .int p0), (2, .int p1), (3, .int p2), (4, .int p3), (5, .int p4)]) hx hb d_RM_fma_55 hl (by decide) rfl (fun ls hl => ?_)
            refine lv_aload_n hx hb d_RM_fma_57 rfl (lv_at hl 2 rfl) ?_
            refine gf_RM_16 hx hb htb hown hK hP d_RM_fma_58 ?_
            refine lv_iload_n hx hb d_RM_fma_61 rfl (lv_at hl 4 rfl) ?_
            obtain ⟨b62, hF⟩ := ob_if hF
            refine rm_ald hx hb hK hP (k := 3) (by decide) (by decide) (ob_vi b62) d_RM_fma_62 ?_
            refine lv_aload_n hx hb d_RM_fma_63 rfl (lv_at hl 2 rfl) ?_
            refine gf_RM_16 hx hb htb hown hK hP d_RM_fma_64 ?_
            refine lv_iload_n hx hb d_RM_fma_67 rfl (lv_at hl 5 rfl) ?_
            obtain ⟨b68, hF⟩ := ob_if hF
            refine rm_ald hx hb hK hP (k := 3) (by decide) (by decide) (ob_vi b68) d_RM_fma_68 ?_
            refine lv_imul hx hb d_RM_fma_69 ?_
            refine lv_topi (fun x70 e70 => ?_)
            replace hF := (nm_eq e70.symm).symm.trans hF
            refine lv_istore (lv' := [(8, .int x70), (7, .int x55), (6, .int r43), (0, .ref (a 0)), (1, .int p0), (2, .int p1), (3, .int p2), (4, .int p3), (5, .int p4)]) hx hb d_RM_fma_70 hl (by decide) rfl (fun ls hl => ?_)
            refine lv_iload hx hb d_RM_fma_72 (lv_at hl 2 rfl) ?_
            refine ct_cut0 (fun  ls H locs => lv_has ls 9 [(0, .ref (a 0)), (1, .int p0)] ∧ RM_fma_106 p0 st = some (r0, t0) ∧ va_P D vwCl (rm_g a ci st) H ∧ va_S (ct_F (rm_X a) s.heap.size) s.heap H locs) 106 [] ?_ ?_
            · intro ls H locs hq
              obtain ⟨hl, hF, hP, hS⟩ := hq
              unfold RM_fma_106 at hF
              refine lv_aload_n hx hb d_RM_fma_106 rfl (lv_at hl 0 rfl) ?_
              refine lv_iload_n hx hb d_RM_fma_107 rfl (lv_at hl 1 rfl) ?_
              refine lv_iconst (v := 0) hx hb d_RM_fma_108 (by decide) ?_
              refine lv_iconst (v := 0) hx hb d_RM_fma_109 (by decide) ?_
              obtain ⟨r110, t110, e110, hF⟩ := ob_two hF
              refine ct_calli (va_runV (As := [.int p0, .int (0 : Int32), .int (0 : Int32)]) (rest := []) ⟨hx, hb, hml, hown, hts⟩ (c_RM_keep l (D := D) a ci hi st p0 (0 : Int32) (0 : Int32) _ _ e110 _) (kc_RM_59 hts ⟨by decide, by decide⟩) ⟨ct_blind, rm_rc hK hP, ct_ok hP hK hN⟩ rfl rfl hl.1 rfl (lv_room (Nat.le_of_ble_eq_true rfl)) d_RM_fma_110 ⟨Nat.zero_le _, Nat.zero_le _⟩) hS (fun H locs hP hS => ?_)
              replace hF := Option.some.inj hF
              obtain ⟨rfl, rfl⟩ := Prod.mk.inj hF
              exact ct_iret hx hb hr hlk hP hS d_RM_fma_113
            · intro kj106
              refine lv_if_eq hx hb d_RM_fma_74 (tgt := 106) (by decide) (fun c74 => ?_) (fun c74 => ?_)
              · replace hF := (if_pos c74).symm.trans hF
                exact kj106 _ _ _ ⟨lv_sub hl [3, 4] rfl, hF, hP, hS⟩
              · replace hF := (if_neg c74).symm.trans hF
                refine lv_iload hx hb d_RM_fma_77 (lv_at hl 1 rfl) ?_
                refine lv_if_eq hx hb d_RM_fma_79 (tgt := 106) (by decide) (fun c79 => ?_) (fun c79 => ?_)
                · replace hF := (if_pos c79).symm.trans hF
                  exact kj106 _ _ _ ⟨lv_sub hl [3, 4] rfl, hF, hP, hS⟩
                · replace hF := (if_neg c79).symm.trans hF
                  refine lv_iload hx hb d_RM_fma_82 (lv_at hl 2 rfl) ?_
                  refine lv_iconst (v := 1) hx hb d_RM_fma_84 (by decide) ?_
                  refine ct_cut0 (fun  ls H locs => lv_has ls 9 [(8, .int x70), (7, .int x55), (6, .int r43), (0, .ref (a 0)), (1, .int p0), (2, .int p1), (3, .int p2), (4, .int p3), (5, .int p4)] ∧ RM_fma_114 p0 p1 p2 p3 p4 r43 x55 x70 st = some (r0, t0) ∧ va_P D vwCl (rm_g a ci st) H ∧ va_S (ct_F (rm_X a) s.heap.size) s.heap H locs) 114 [] ?_ ?_
                  · intro ls H locs hq
                    obtain ⟨hl, hF, hP, hS⟩ := hq
                    unfold RM_fma_114 at hF
                    refine lv_iload hx hb d_RM_fma_114 (lv_at hl 2 rfl) ?_
                    refine lv_iconst (v := 1) hx hb d_RM_fma_116 (by decide) ?_
                    refine ct_cut0 (fun  ls H locs => lv_has ls 9 [(8, .int x70), (6, .int r43), (0, .ref (a 0)), (1, .int p0), (4, .int p3)] ∧ RM_fma_126 p0 p3 r43 x70 st = some (r0, t0) ∧ va_P D vwCl (rm_g a ci st) H ∧ va_S (ct_F (rm_X a) s.heap.size) s.heap H locs) 126 [] ?_ ?_
                    · intro ls H locs hq
                      obtain ⟨hl, hF, hP, hS⟩ := hq
                      unfold RM_fma_126 at hF
                      refine lv_aload_n hx hb d_RM_fma_126 rfl (lv_at hl 2 rfl) ?_
                      refine lv_iload_n hx hb d_RM_fma_127 rfl (lv_at hl 3 rfl) ?_
                      refine lv_iconst (v := 1) hx hb d_RM_fma_128 (by decide) ?_
                      refine lv_iload hx hb d_RM_fma_129 (lv_at hl 1 rfl) ?_
                      refine lv_iconst (v := 1) hx hb d_RM_fma_131 (by decide) ?_
                      refine ct_cut1 (fun (j147s0 : Int32) ls H locs => lv_has ls 9 [] ∧ RM_fma_147 j147s0 (1 : Int32) p0 st = some (r0, t0) ∧ va_P D vwCl (rm_g a ci st) H ∧ va_S (ct_F (rm_X a) s.heap.size) s.heap H locs) 147 (fun j147s0 => [.int j147s0, .int (1 : Int32), .int p0, .ref (a 0)]) ?_ ?_
                      · intro j147s0 ls H locs hq
                        obtain ⟨hl, hF, hP, hS⟩ := hq
                        unfold RM_fma_147 at hF
                        obtain ⟨r147, t147, e147, hF⟩ := ob_two hF
                        refine ct_calli (va_runV (As := [.int p0, .int (1 : Int32), .int j147s0]) (rest := []) ⟨hx, hb, hml, hown, hts⟩ (c_RM_keep l (D := D) a ci hi st p0 (1 : Int32) j147s0 _ _ e147 _) (kc_RM_59 hts ⟨by decide, by decide⟩) ⟨ct_blind, rm_rc hK hP, ct_ok hP hK hN⟩ rfl rfl hl.1 rfl (lv_room (Nat.le_of_ble_eq_true rfl)) d_RM_fma_147 ⟨Nat.zero_le _, Nat.zero_le _⟩) hS (fun H locs hP hS => ?_)
                        replace hF := Option.some.inj hF
                        obtain ⟨rfl, rfl⟩ := Prod.mk.inj hF
                        exact ct_iret hx hb hr hlk hP hS d_RM_fma_150
                      · intro kj147
                        refine lv_icmp_ne hx hb d_RM_fma_132 (tgt := 140) (by decide) (fun c132 => ?_) (fun c132 => ?_)
                        · replace hF := (if_neg c132).symm.trans hF
                          refine lv_aload_n hx hb d_RM_fma_140 rfl (lv_at hl 2 rfl) ?_
                          refine gf_RM_16 hx hb htb hown hK hP d_RM_fma_141 ?_
                          refine lv_iload hx hb d_RM_fma_144 (lv_at hl 4 rfl) ?_
                          obtain ⟨b146, hF⟩ := ob_if hF
                          refine rm_ald hx hb hK hP (k := 3) (by decide) (by decide) (ob_vi b146) d_RM_fma_146 ?_
                          exact kj147 (st 3 p3.toNatClampNeg) _ _ _ ⟨lv_sub hl [] rfl, hF, hP, hS⟩
                        · replace hF := (if_pos c132).symm.trans hF
                          refine lv_iload hx hb d_RM_fma_135 (lv_at hl 0 rfl) ?_
                          refine lv_goto hx hb d_RM_fma_137 (tgt := 147) (by decide) ?_
                          exact kj147 x70 _ _ _ ⟨lv_sub hl [] rfl, hF, hP, hS⟩
                    · intro kj126
                      refine lv_icmp_eq hx hb d_RM_fma_117 (tgt := 126) (by decide) (fun c117 => ?_) (fun c117 => ?_)
                      · replace hF := (if_pos c117).symm.trans hF
                        exact kj126 _ _ _ ⟨lv_sub hl [0, 2, 3, 4, 7] rfl, hF, hP, hS⟩
                      · replace hF := (if_neg c117).symm.trans hF
                        refine lv_iload hx hb d_RM_fma_120 (lv_at hl 1 rfl) ?_
                        refine lv_iconst (v := 1) hx hb d_RM_fma_122 (by decide) ?_
                        refine lv_icmp_ne hx hb d_RM_fma_123 (tgt := 151) (by decide) (fun c123 => ?_) (fun c123 => ?_)
                        · replace hF := (if_neg c123).symm.trans hF
                          refine lv_iload hx hb d_RM_fma_151 (lv_at hl 2 rfl) ?_
                          refine lv_iconst (v := 2) hx hb d_RM_fma_153 (by decide) ?_
                          refine ct_cut0 (fun  ls H locs => lv_has ls 9 [(8, .int x70), (7, .int x55), (6, .int r43), (0, .ref (a 0)), (1, .int p0), (2, .int p1), (3, .int p2), (4, .int p3), (5, .int p4)] ∧ RM_fma_194 p0 p1 p2 p3 p4 r43 x55 x70 st = some (r0, t0) ∧ va_P D vwCl (rm_g a ci st) H ∧ va_S (ct_F (rm_X a) s.heap.size) s.heap H locs) 194 [] ?_ ?_
                          · intro ls H locs hq
                            obtain ⟨hl, hF, hP, hS⟩ := hq
                            unfold RM_fma_194 at hF
                            refine lv_iload hx hb d_RM_fma_194 (lv_at hl 2 rfl) ?_
                            refine lv_iconst (v := 2) hx hb d_RM_fma_196 (by decide) ?_
                            refine lv_icmp_ne hx hb d_RM_fma_197 (tgt := 217) (by decide) (fun c197 => ?_) (fun c197 => ?_)
                            · replace hF := (if_neg c197).symm.trans hF
                              refine lv_aload_n hx hb d_RM_fma_217 rfl (lv_at hl 3 rfl) ?_
                              obtain ⟨t218, e218, hF⟩ := ob_one hF
                              refine ct_callv (va_runV (As := []) (rest := []) ⟨hx, hb, hml, hown, hts⟩ (c_RM_clear l (D := D) a ci hi st _ e218 _) (kc_RM_80 hts ⟨by decide, by decide⟩) ⟨ct_blind, rm_rc hK hP, ct_ok hP hK hN⟩ rfl rfl hl.1 rfl (lv_room (Nat.le_of_ble_eq_true rfl)) d_RM_fma_218 ⟨Nat.zero_le _, Nat.zero_le _⟩) hS (fun H locs hP hS => ?_)
                              refine lv_aload_n hx hb d_RM_fma_221 rfl (lv_at hl 3 rfl) ?_
                              refine lv_iload_n hx hb d_RM_fma_222 rfl (lv_at hl 5 rfl) ?_
                              refine lv_iload_n hx hb d_RM_fma_223 rfl (lv_at hl 6 rfl) ?_
                              obtain ⟨t224, e224, hF⟩ := ob_one hF
                              refine ct_callv (va_runV (As := [.int p1, .int p2]) (rest := []) ⟨hx, hb, hml, hown, hts⟩ (c_RM_putProduct l (D := D) a ci hi t218 p1 p2 _ e224 _) (kc_RM_107 hts ⟨by decide, by decide⟩) ⟨ct_blind, rm_rc hK hP, ct_ok hP hK hN⟩ rfl rfl hl.1 rfl (lv_room (Nat.le_of_ble_eq_true rfl)) d_RM_fma_224 ⟨Nat.zero_le _, Nat.zero_le _⟩) hS (fun H locs hP hS => ?_)
                              refine lv_iload hx hb d_RM_fma_227 (lv_at hl 1 rfl) ?_
                              refine lv_iconst (v := 2) hx hb d_RM_fma_229 (by decide) ?_
                              refine ct_cut2 (fun (j253s0 : Int32) (j253t : rm_S) ls H locs => lv_has ls 9 [(0, .ref (a 0)), (1, .int p0), (5, .int p4)] ∧ RM_fma_253 p0 p4 j253s0 j253t = some (r0, t0) ∧ va_P D vwCl (rm_g a ci j253t) H ∧ va_S (ct_F (rm_X a) s.heap.size) s.heap H locs) 253 (fun j253s0 j253t => [.int j253s0]) ?_ ?_
                              · intro j253s0 j253t ls H locs hq
                                obtain ⟨hl, hF, hP, hS⟩ := hq
                                unfold RM_fma_253 at hF
                                refine lv_istore (lv' := [(8, .int j253s0), (0, .ref (a 0)), (1, .int p0), (5, .int p4)]) hx hb d_RM_fma_253 hl (by decide) rfl (fun ls hl => ?_)
                                refine lv_iload hx hb d_RM_fma_255 (lv_at hl 0 rfl) ?_
                                refine lv_if_ne hx hb d_RM_fma_257 (tgt := 270) (by decide) (fun c257 => ?_) (fun c257 => ?_)
                                · replace hF := (if_neg c257).symm.trans hF
                                  refine lv_aload_n hx hb d_RM_fma_270 rfl (lv_at hl 1 rfl) ?_
                                  refine lv_iload_n hx hb d_RM_fma_271 rfl (lv_at hl 2 rfl) ?_
                                  refine lv_iload hx hb d_RM_fma_272 (lv_at hl 0 rfl) ?_
                                  refine lv_iload hx hb d_RM_fma_274 (lv_at hl 3 rfl) ?_
                                  obtain ⟨r276, t276, e276, hF⟩ := ob_two hF
                                  refine ct_calli (va_runV (As := [.int p0, .int j253s0, .int p4]) (rest := []) ⟨hx, hb, hml, hown, hts⟩ (c_RM_round l (D := D) a ci hi j253t p0 j253s0 p4 _ _ e276 _) (kc_RM_83 hts ⟨by decide, by decide⟩) ⟨ct_blind, rm_rc hK hP, ct_ok hP hK hN⟩ rfl rfl hl.1 rfl (lv_room (Nat.le_of_ble_eq_true rfl)) d_RM_fma_276 ⟨Nat.zero_le _, Nat.zero_le _⟩) hS (fun H locs hP hS => ?_)
                                  replace hF := Option.some.inj hF
                                  obtain ⟨rfl, rfl⟩ := Prod.mk.inj hF
                                  exact ct_iret hx hb hr hlk hP hS d_RM_fma_279
                                · replace hF := (if_pos c257).symm.trans hF
                                  refine lv_aload_n hx hb d_RM_fma_260 rfl (lv_at hl 1 rfl) ?_
                                  refine lv_iload_n hx hb d_RM_fma_261 rfl (lv_at hl 2 rfl) ?_
                                  refine lv_iload hx hb d_RM_fma_262 (lv_at hl 3 rfl) ?_
                                  obtain ⟨r264, t264, e264, hF⟩ := ob_two hF
                                  refine ct_calli (va_runV (As := [.int p0, .int p4]) (rest := []) ⟨hx, hb, hml, hown, hts⟩ (c_RM_nothing l (D := D) a ci hi j253t p0 p4 _ _ e264 _) (kc_RM_94 hts ⟨by decide, by decide⟩) ⟨ct_blind, rm_rc hK hP, ct_ok hP hK hN⟩ rfl rfl hl.1 rfl (lv_room (Nat.le_of_ble_eq_true rfl)) d_RM_fma_264 ⟨Nat.zero_le _, Nat.zero_le _⟩) hS (fun H locs hP hS => ?_)
                                  refine lv_goto hx hb d_RM_fma_267 (tgt := 279) (by decide) ?_
                                  replace hF := Option.some.inj hF
                                  obtain ⟨rfl, rfl⟩ := Prod.mk.inj hF
                                  exact ct_iret hx hb hr hlk hP hS d_RM_fma_279
                              · intro kj253
                                refine lv_icmp_ne hx hb d_RM_fma_230 (tgt := 238) (by decide) (fun c230 => ?_) (fun c230 => ?_)
                                · replace hF := (if_neg c230).symm.trans hF
                                  refine lv_aload_n hx hb d_RM_fma_238 rfl (lv_at hl 3 rfl) ?_
                                  refine lv_iload hx hb d_RM_fma_239 (lv_at hl 0 rfl) ?_
                                  refine lv_iload hx hb d_RM_fma_241 (lv_at hl 7 rfl) ?_
                                  refine lv_aload_n hx hb d_RM_fma_243 rfl (lv_at hl 3 rfl) ?_
                                  refine gf_RM_16 hx hb htb hown hK hP d_RM_fma_244 ?_
                                  refine lv_iload hx hb d_RM_fma_247 (lv_at hl 7 rfl) ?_
                                  obtain ⟨b249, hF⟩ := ob_if hF
                                  refine rm_ald hx hb hK hP (k := 3) (by decide) (by decide) (ob_vi b249) d_RM_fma_249 ?_
                                  obtain ⟨r250, t250, e250, hF⟩ := ob_two hF
                                  refine ct_calli (va_runV (As := [.int x70, .int p3, .int (t224 3 p3.toNatClampNeg)]) (rest := []) ⟨hx, hb, hml, hown, hts⟩ (c_RM_sumWith l (D := D) a ci hi t224 x70 p3 (t224 3 p3.toNatClampNeg) _ _ e250 _) (kc_RM_97 hts ⟨by decide, by decide⟩) ⟨ct_blind, rm_rc hK hP, ct_ok hP hK hN⟩ rfl rfl hl.1 rfl (lv_room (Nat.le_of_ble_eq_true rfl)) d_RM_fma_250 ⟨Nat.zero_le _, Nat.zero_le _⟩) hS (fun H locs hP hS => ?_)
                                  exact kj253 r250 t250 _ _ _ ⟨lv_sub hl [3, 4, 8] rfl, hF, hP, hS⟩
                                · replace hF := (if_pos c230).symm.trans hF
                                  refine lv_iload hx hb d_RM_fma_233 (lv_at hl 0 rfl) ?_
                                  refine lv_goto hx hb d_RM_fma_235 (tgt := 253) (by decide) ?_
                                  exact kj253 x70 t224 _ _ _ ⟨lv_sub hl [3, 4, 8] rfl, hF, hP, hS⟩
                            · replace hF := (if_pos c197).symm.trans hF
                              refine lv_aload_n hx hb d_RM_fma_200 rfl (lv_at hl 3 rfl) ?_
                              refine lv_iload_n hx hb d_RM_fma_201 rfl (lv_at hl 4 rfl) ?_
                              refine lv_iload hx hb d_RM_fma_202 (lv_at hl 7 rfl) ?_
                              refine lv_aload_n hx hb d_RM_fma_204 rfl (lv_at hl 3 rfl) ?_
                              refine gf_RM_16 hx hb htb hown hK hP d_RM_fma_205 ?_
                              refine lv_iload hx hb d_RM_fma_208 (lv_at hl 7 rfl) ?_
                              obtain ⟨b210, hF⟩ := ob_if hF
                              refine rm_ald hx hb hK hP (k := 3) (by decide) (by decide) (ob_vi b210) d_RM_fma_210 ?_
                              refine lv_iload hx hb d_RM_fma_211 (lv_at hl 8 rfl) ?_
                              obtain ⟨r213, t213, e213, hF⟩ := ob_two hF
                              refine ct_calli (va_runV (As := [.int p0, .int p3, .int (st 3 p3.toNatClampNeg), .int p4]) (rest := []) ⟨hx, hb, hml, hown, hts⟩ (c_RM_move l (D := D) a ci hi st p0 p3 (st 3 p3.toNatClampNeg) p4 _ _ e213 _) (kc_RM_90 hts ⟨by decide, by decide⟩) ⟨ct_blind, rm_rc hK hP, ct_ok hP hK hN⟩ rfl rfl hl.1 rfl (lv_room (Nat.le_of_ble_eq_true rfl)) d_RM_fma_213 ⟨Nat.zero_le _, Nat.zero_le _⟩) hS (fun H locs hP hS => ?_)
                              replace hF := Option.some.inj hF
                              obtain ⟨rfl, rfl⟩ := Prod.mk.inj hF
                              exact ct_iret hx hb hr hlk hP hS d_RM_fma_216
                          · intro kj194
                            refine lv_icmp_ne hx hb d_RM_fma_154 (tgt := 194) (by decide) (fun c154 => ?_) (fun c154 => ?_)
                            · replace hF := (if_neg c154).symm.trans hF
                              exact kj194 _ _ _ ⟨lv_sub hl [0, 1, 2, 3, 4, 5, 6, 7, 8] rfl, hF, hP, hS⟩
                            · replace hF := (if_pos c154).symm.trans hF
                              refine lv_iload hx hb d_RM_fma_157 (lv_at hl 1 rfl) ?_
                              refine lv_iconst (v := 2) hx hb d_RM_fma_159 (by decide) ?_
                              refine lv_icmp_ne hx hb d_RM_fma_160 (tgt := 194) (by decide) (fun c160 => ?_) (fun c160 => ?_)
                              · replace hF := (if_neg c160).symm.trans hF
                                exact kj194 _ _ _ ⟨lv_sub hl [0, 1, 2, 3, 4, 5, 6, 7, 8] rfl, hF, hP, hS⟩
                              · replace hF := (if_pos c160).symm.trans hF
                                refine lv_iload hx hb d_RM_fma_163 (lv_at hl 0 rfl) ?_
                                refine lv_aload_n hx hb d_RM_fma_165 rfl (lv_at hl 3 rfl) ?_
                                refine gf_RM_16 hx hb htb hown hK hP d_RM_fma_166 ?_
                                refine lv_iload hx hb d_RM_fma_169 (lv_at hl 7 rfl) ?_
                                obtain ⟨b171, hF⟩ := ob_if hF
                                refine rm_ald hx hb hK hP (k := 3) (by decide) (by decide) (ob_vi b171) d_RM_fma_171 ?_
                                refine lv_icmp_ne hx hb d_RM_fma_172 (tgt := 186) (by decide) (fun c172 => ?_) (fun c172 => ?_)
                                · replace hF := (if_neg c172).symm.trans hF
                                  refine lv_aload_n hx hb d_RM_fma_186 rfl (lv_at hl 3 rfl) ?_
                                  refine lv_iload_n hx hb d_RM_fma_187 rfl (lv_at hl 4 rfl) ?_
                                  refine lv_iload hx hb d_RM_fma_188 (lv_at hl 8 rfl) ?_
                                  obtain ⟨r190, t190, e190, hF⟩ := ob_two hF
                                  refine ct_calli (va_runV (As := [.int p0, .int p4]) (rest := []) ⟨hx, hb, hml, hown, hts⟩ (c_RM_nothing l (D := D) a ci hi st p0 p4 _ _ e190 _) (kc_RM_94 hts ⟨by decide, by decide⟩) ⟨ct_blind, rm_rc hK hP, ct_ok hP hK hN⟩ rfl rfl hl.1 rfl (lv_room (Nat.le_of_ble_eq_true rfl)) d_RM_fma_190 ⟨Nat.zero_le _, Nat.zero_le _⟩) hS (fun H locs hP hS => ?_)
                                  replace hF := Option.some.inj hF
                                  obtain ⟨rfl, rfl⟩ := Prod.mk.inj hF
                                  exact ct_iret hx hb hr hlk hP hS d_RM_fma_193
                                · replace hF := (if_pos c172).symm.trans hF
                                  refine lv_aload_n hx hb d_RM_fma_175 rfl (lv_at hl 3 rfl) ?_
                                  refine lv_iload_n hx hb d_RM_fma_176 rfl (lv_at hl 4 rfl) ?_
                                  refine lv_iconst (v := 2) hx hb d_RM_fma_177 (by decide) ?_
                                  refine lv_iload hx hb d_RM_fma_178 (lv_at hl 0 rfl) ?_
                                  obtain ⟨r180, t180, e180, hF⟩ := ob_two hF
                                  refine ct_calli (va_runV (As := [.int p0, .int (2 : Int32), .int x70]) (rest := []) ⟨hx, hb, hml, hown, hts⟩ (c_RM_keep l (D := D) a ci hi st p0 (2 : Int32) x70 _ _ e180 _) (kc_RM_59 hts ⟨by decide, by decide⟩) ⟨ct_blind, rm_rc hK hP, ct_ok hP hK hN⟩ rfl rfl hl.1 rfl (lv_room (Nat.le_of_ble_eq_true rfl)) d_RM_fma_180 ⟨Nat.zero_le _, Nat.zero_le _⟩) hS (fun H locs hP hS => ?_)
                                  refine lv_goto hx hb d_RM_fma_183 (tgt := 193) (by decide) ?_
                                  replace hF := Option.some.inj hF
                                  obtain ⟨rfl, rfl⟩ := Prod.mk.inj hF
                                  exact ct_iret hx hb hr hlk hP hS d_RM_fma_193
                        · replace hF := (if_pos c123).symm.trans hF
                          exact kj126 _ _ _ ⟨lv_sub hl [0, 2, 3, 4, 7] rfl, hF, hP, hS⟩
                  · intro kj114
                    refine lv_icmp_ne hx hb d_RM_fma_85 (tgt := 114) (by decide) (fun c85 => ?_) (fun c85 => ?_)
                    · replace hF := (if_neg c85).symm.trans hF
                      exact kj114 _ _ _ ⟨lv_sub hl [0, 1, 2, 3, 4, 5, 6, 7, 8] rfl, hF, hP, hS⟩
                    · replace hF := (if_pos c85).symm.trans hF
                      refine lv_iload hx hb d_RM_fma_88 (lv_at hl 1 rfl) ?_
                      refine lv_iconst (v := 1) hx hb d_RM_fma_90 (by decide) ?_
                      refine lv_icmp_ne hx hb d_RM_fma_91 (tgt := 114) (by decide) (fun c91 => ?_) (fun c91 => ?_)
                      · replace hF := (if_neg c91).symm.trans hF
                        exact kj114 _ _ _ ⟨lv_sub hl [0, 1, 2, 3, 4, 5, 6, 7, 8] rfl, hF, hP, hS⟩
                      · replace hF := (if_pos c91).symm.trans hF
                        refine lv_iload hx hb d_RM_fma_94 (lv_at hl 0 rfl) ?_
                        refine lv_aload_n hx hb d_RM_fma_96 rfl (lv_at hl 3 rfl) ?_
                        refine gf_RM_16 hx hb htb hown hK hP d_RM_fma_97 ?_
                        refine lv_iload hx hb d_RM_fma_100 (lv_at hl 7 rfl) ?_
                        obtain ⟨b102, hF⟩ := ob_if hF
                        refine rm_ald hx hb hK hP (k := 3) (by decide) (by decide) (ob_vi b102) d_RM_fma_102 ?_
                        refine lv_icmp_eq hx hb d_RM_fma_103 (tgt := 114) (by decide) (fun c103 => ?_) (fun c103 => ?_)
                        · replace hF := (if_pos c103).symm.trans hF
                          exact kj114 _ _ _ ⟨lv_sub hl [0, 1, 2, 3, 4, 5, 6, 7, 8] rfl, hF, hP, hS⟩
                        · replace hF := (if_neg c103).symm.trans hF
                          exact kj106 _ _ _ ⟨lv_sub hl [3, 4] rfl, hF, hP, hS⟩
          · replace hF := (if_pos c34).symm.trans hF
            refine lv_bipush (v := 9) hx hb d_RM_fma_37 (by decide) ?_
            replace hF := Option.some.inj hF
            obtain ⟨rfl, rfl⟩ := Prod.mk.inj hF
            exact ct_iret hx hb hr hlk hP hS d_RM_fma_39
theorem d_RM_reaches_0 : decode prog_6_method_30_code 0 = .ok (.bipush 103, 2) := by decide +kernel
theorem d_RM_reaches_2 : decode prog_6_method_30_code 2 = .ok (.istore_n 1, 1) := by decide +kernel
theorem d_RM_reaches_3 : decode prog_6_method_30_code 3 = .ok (.iload_n 1, 1) := by decide +kernel
theorem d_RM_reaches_4 : decode prog_6_method_30_code 4 = .ok (.ifCond .lt 45, 3) := by decide +kernel
theorem d_RM_reaches_7 : decode prog_6_method_30_code 7 = .ok (.aload_n 0, 1) := by decide +kernel
theorem d_RM_reaches_8 : decode prog_6_method_30_code 8 = .ok (.getfield 31, 3) := by decide +kernel
theorem d_RM_reaches_11 : decode prog_6_method_30_code 11 = .ok (.iload_n 1, 1) := by decide +kernel
theorem d_RM_reaches_12 : decode prog_6_method_30_code 12 = .ok (.iaload, 1) := by decide +kernel
theorem d_RM_reaches_13 : decode prog_6_method_30_code 13 = .ok (.aload_n 0, 1) := by decide +kernel
theorem d_RM_reaches_14 : decode prog_6_method_30_code 14 = .ok (.getfield 34, 3) := by decide +kernel
theorem d_RM_reaches_17 : decode prog_6_method_30_code 17 = .ok (.iload_n 1, 1) := by decide +kernel
theorem d_RM_reaches_18 : decode prog_6_method_30_code 18 = .ok (.iaload, 1) := by decide +kernel
theorem d_RM_reaches_19 : decode prog_6_method_30_code 19 = .ok (.if_icmp .eq 24, 3) := by decide +kernel
theorem d_RM_reaches_22 : decode prog_6_method_30_code 22 = .ok (.aload_n 0, 1) := by decide +kernel
theorem d_RM_reaches_23 : decode prog_6_method_30_code 23 = .ok (.getfield 31, 3) := by decide +kernel
theorem d_RM_reaches_26 : decode prog_6_method_30_code 26 = .ok (.iload_n 1, 1) := by decide +kernel
theorem d_RM_reaches_27 : decode prog_6_method_30_code 27 = .ok (.iaload, 1) := by decide +kernel
theorem d_RM_reaches_28 : decode prog_6_method_30_code 28 = .ok (.aload_n 0, 1) := by decide +kernel
theorem d_RM_reaches_29 : decode prog_6_method_30_code 29 = .ok (.getfield 34, 3) := by decide +kernel
theorem d_RM_reaches_32 : decode prog_6_method_30_code 32 = .ok (.iload_n 1, 1) := by decide +kernel
theorem d_RM_reaches_33 : decode prog_6_method_30_code 33 = .ok (.iaload, 1) := by decide +kernel
theorem d_RM_reaches_34 : decode prog_6_method_30_code 34 = .ok (.if_icmp .le 7, 3) := by decide +kernel
theorem d_RM_reaches_37 : decode prog_6_method_30_code 37 = .ok (.iconst 1, 1) := by decide +kernel
theorem d_RM_reaches_38 : decode prog_6_method_30_code 38 = .ok (.goto 4, 3) := by decide +kernel
theorem d_RM_reaches_41 : decode prog_6_method_30_code 41 = .ok (.iconst 0, 1) := by decide +kernel
theorem d_RM_reaches_42 : decode prog_6_method_30_code 42 = .ok (.ireturn, 1) := by decide +kernel
theorem d_RM_reaches_43 : decode prog_6_method_30_code 43 = .ok (.iinc 1 (-1), 3) := by decide +kernel
theorem d_RM_reaches_46 : decode prog_6_method_30_code 46 = .ok (.goto (-43), 3) := by decide +kernel
theorem d_RM_reaches_49 : decode prog_6_method_30_code 49 = .ok (.iconst 1, 1) := by decide +kernel
theorem d_RM_reaches_50 : decode prog_6_method_30_code 50 = .ok (.ireturn, 1) := by decide +kernel
def RM_reaches_3 : Nat → Int32 → rm_S → Option (Int32)
  | 0, _, _ => none
  | n + 1, L1, st => (if L1 < 0 then some (1 : Int32) else (if ob_in L1 104 = true then (if ob_in L1 104 = true then (if (st 8 L1.toNatClampNeg) = (st 9 L1.toNatClampNeg) then nm (L1 + (-1 : Int32)) (fun x43 => (RM_reaches_3 n) x43 st) else (if ob_in L1 104 = true then (if ob_in L1 104 = true then (if (st 8 L1.toNatClampNeg) ≤ (st 9 L1.toNatClampNeg) then some (0 : Int32) else some (1 : Int32)) else none) else none)) else none) else none))
def RM_reaches (st : rm_S) : Option (Int32) := RM_reaches_3 (2000) (103 : Int32) st
set_option maxHeartbeats 4000000 in
set_option maxRecDepth 100000 in
theorem c_RM_reaches (l : Launch) {D : va_G} (a : Nat → Nat) (ci : ClassId) (hi : rm_inj a) (st : rm_S) (r0 : Int32) (hF : RM_reaches st = some r0) : ct_i l ⟨"RoundedNumbersModel", "reaches", "()Z"⟩ (.code ⟨"RoundedNumbersModel", "reaches", "()Z"⟩ prog_6_method_30_code 2 (some .boolean) :: ct_T) { frames := 0, cells := 0, slots := 0, locals := 0 } D vwCl (rm_T ci) (rm_g a ci) (rm_X a) [.ref (a 0)] st r0 st := by
  refine ct_i.mk (cc := prog_6_method_30_code) (maxL := 2) (by decide) rfl (Nat.le_of_ble_eq_true rfl) ?_
  intro p e s m below meth c hx hb hr hml hown hts hlk hK hN hP hS ls hl
  have hown : s.vm.findClass "RoundedNumbersModel" = some m.cls := hown
  have hl : lv_has ls 2 [(0, .ref (a 0))] := hl
  have htb := fun w h => hts w (List.mem_cons_of_mem _ h)
  unfold RM_reaches at hF
  refine lv_bipush (v := 103) hx hb d_RM_reaches_0 (by decide) ?_
  refine lv_istore_n (lv' := [(1, .int (103 : Int32)), (0, .ref (a 0))]) hx hb d_RM_reaches_2 rfl hl (by decide) rfl (fun ls hl => ?_)
  refine ct_loop1 (fun n (w3L1 : Int32) ls H locs => lv_has ls 2 [(1, .int w3L1), (0, .ref (a 0))] ∧ RM_reaches_3 n w3L1 st = some r0 ∧ va_P D vwCl (rm_g a ci st) H ∧ va_S (ct_F (rm_X a) s.heap.size) s.heap H locs) 3 ?_ ?_ (2000) (103 : Int32) ⟨lv_sub hl [0, 1] rfl, hF, hP, hS⟩
  · intro w3L1 ls H locs hq
    obtain ⟨hl, hF, hP, hS⟩ := hq
    rw [RM_reaches_3] at hF
    cases hF
  · intro n3 ih3 w3L1 ls H locs hq
    obtain ⟨hl, hF, hP, hS⟩ := hq
    rw [RM_reaches_3] at hF
    refine lv_iload_n hx hb d_RM_reaches_3 rfl (lv_at hl 0 rfl) ?_
    refine lv_if_lt hx hb d_RM_reaches_4 (tgt := 49) (by decide) (fun c4 => ?_) (fun c4 => ?_)
    · replace hF := (if_pos c4).symm.trans hF
      refine lv_iconst (v := 1) hx hb d_RM_reaches_49 (by decide) ?_
      replace hF := Option.some.inj hF
      subst hF
      exact ct_zret hx hb hr hlk (by decide) hP hS d_RM_reaches_50
    · replace hF := (if_neg c4).symm.trans hF
      refine lv_aload_n hx hb d_RM_reaches_7 rfl (lv_at hl 1 rfl) ?_
      refine gf_RM_31 hx hb htb hown hK hP d_RM_reaches_8 ?_
      refine lv_iload_n hx hb d_RM_reaches_11 rfl (lv_at hl 0 rfl) ?_
      obtain ⟨b12, hF⟩ := ob_if hF
      refine rm_ald hx hb hK hP (k := 8) (by decide) (by decide) (ob_vi b12) d_RM_reaches_12 ?_
      refine lv_aload_n hx hb d_RM_reaches_13 rfl (lv_at hl 1 rfl) ?_
      refine gf_RM_34 hx hb htb hown hK hP d_RM_reaches_14 ?_
      refine lv_iload_n hx hb d_RM_reaches_17 rfl (lv_at hl 0 rfl) ?_
      obtain ⟨b18, hF⟩ := ob_if hF
      refine rm_ald hx hb hK hP (k := 9) (by decide) (by decide) (ob_vi b18) d_RM_reaches_18 ?_
      refine lv_icmp_eq hx hb d_RM_reaches_19 (tgt := 43) (by decide) (fun c19 => ?_) (fun c19 => ?_)
      · replace hF := (if_pos c19).symm.trans hF
        obtain ⟨x43, e43⟩ := nm_ex (w3L1 + (-1 : Int32))
        replace hF := (nm_eq e43).symm.trans hF
        refine lv_iinc (v := x43) (lv' := [(1, .int x43), (0, .ref (a 0))]) hx hb d_RM_reaches_43 hl (k := 0) rfl e43 (by decide) rfl (fun ls hl => ?_)
        refine lv_goto hx hb d_RM_reaches_46 (tgt := 3) (by decide) ?_
        exact ih3 x43 _ _ _ ⟨lv_sub hl [0, 1] rfl, hF, hP, hS⟩
      · replace hF := (if_neg c19).symm.trans hF
        refine lv_aload_n hx hb d_RM_reaches_22 rfl (lv_at hl 1 rfl) ?_
        refine gf_RM_31 hx hb htb hown hK hP d_RM_reaches_23 ?_
        refine lv_iload_n hx hb d_RM_reaches_26 rfl (lv_at hl 0 rfl) ?_
        obtain ⟨b27, hF⟩ := ob_if hF
        refine rm_ald hx hb hK hP (k := 8) (by decide) (by decide) (ob_vi b27) d_RM_reaches_27 ?_
        refine lv_aload_n hx hb d_RM_reaches_28 rfl (lv_at hl 1 rfl) ?_
        refine gf_RM_34 hx hb htb hown hK hP d_RM_reaches_29 ?_
        refine lv_iload_n hx hb d_RM_reaches_32 rfl (lv_at hl 0 rfl) ?_
        obtain ⟨b33, hF⟩ := ob_if hF
        refine rm_ald hx hb hK hP (k := 9) (by decide) (by decide) (ob_vi b33) d_RM_reaches_33 ?_
        refine lv_icmp_le hx hb d_RM_reaches_34 (tgt := 41) (by decide) (fun c34 => ?_) (fun c34 => ?_)
        · replace hF := (if_pos c34).symm.trans hF
          refine lv_iconst (v := 0) hx hb d_RM_reaches_41 (by decide) ?_
          replace hF := Option.some.inj hF
          subst hF
          exact ct_zret hx hb hr hlk (by decide) hP hS d_RM_reaches_42
        · replace hF := (if_neg c34).symm.trans hF
          refine lv_iconst (v := 1) hx hb d_RM_reaches_37 (by decide) ?_
          refine lv_goto hx hb d_RM_reaches_38 (tgt := 42) (by decide) ?_
          replace hF := Option.some.inj hF
          subst hF
          exact ct_zret hx hb hr hlk (by decide) hP hS d_RM_reaches_42
theorem d_RM_takePart_0 : decode prog_6_method_31_code 0 = .ok (.iconst 0, 1) := by decide +kernel
theorem d_RM_takePart_1 : decode prog_6_method_31_code 1 = .ok (.istore_n 1, 1) := by decide +kernel
theorem d_RM_takePart_2 : decode prog_6_method_31_code 2 = .ok (.iconst 0, 1) := by decide +kernel
theorem d_RM_takePart_3 : decode prog_6_method_31_code 3 = .ok (.istore_n 2, 1) := by decide +kernel
theorem d_RM_takePart_4 : decode prog_6_method_31_code 4 = .ok (.iload_n 2, 1) := by decide +kernel
theorem d_RM_takePart_5 : decode prog_6_method_31_code 5 = .ok (.bipush 104, 2) := by decide +kernel
theorem d_RM_takePart_7 : decode prog_6_method_31_code 7 = .ok (.if_icmp .ge 38, 3) := by decide +kernel
theorem d_RM_takePart_10 : decode prog_6_method_31_code 10 = .ok (.aload_n 0, 1) := by decide +kernel
theorem d_RM_takePart_11 : decode prog_6_method_31_code 11 = .ok (.getfield 31, 3) := by decide +kernel
theorem d_RM_takePart_14 : decode prog_6_method_31_code 14 = .ok (.iload_n 2, 1) := by decide +kernel
theorem d_RM_takePart_15 : decode prog_6_method_31_code 15 = .ok (.iaload, 1) := by decide +kernel
theorem d_RM_takePart_16 : decode prog_6_method_31_code 16 = .ok (.aload_n 0, 1) := by decide +kernel
theorem d_RM_takePart_17 : decode prog_6_method_31_code 17 = .ok (.getfield 34, 3) := by decide +kernel
theorem d_RM_takePart_20 : decode prog_6_method_31_code 20 = .ok (.iload_n 2, 1) := by decide +kernel
theorem d_RM_takePart_21 : decode prog_6_method_31_code 21 = .ok (.iaload, 1) := by decide +kernel
theorem d_RM_takePart_22 : decode prog_6_method_31_code 22 = .ok (.isub, 1) := by decide +kernel
theorem d_RM_takePart_23 : decode prog_6_method_31_code 23 = .ok (.iload_n 1, 1) := by decide +kernel
theorem d_RM_takePart_24 : decode prog_6_method_31_code 24 = .ok (.iadd, 1) := by decide +kernel
theorem d_RM_takePart_25 : decode prog_6_method_31_code 25 = .ok (.istore_n 3, 1) := by decide +kernel
theorem d_RM_takePart_26 : decode prog_6_method_31_code 26 = .ok (.aload_n 0, 1) := by decide +kernel
theorem d_RM_takePart_27 : decode prog_6_method_31_code 27 = .ok (.getfield 31, 3) := by decide +kernel
theorem d_RM_takePart_30 : decode prog_6_method_31_code 30 = .ok (.iload_n 2, 1) := by decide +kernel
theorem d_RM_takePart_31 : decode prog_6_method_31_code 31 = .ok (.iload_n 3, 1) := by decide +kernel
theorem d_RM_takePart_32 : decode prog_6_method_31_code 32 = .ok (.iconst 1, 1) := by decide +kernel
theorem d_RM_takePart_33 : decode prog_6_method_31_code 33 = .ok (.iand, 1) := by decide +kernel
theorem d_RM_takePart_34 : decode prog_6_method_31_code 34 = .ok (.iastore, 1) := by decide +kernel
theorem d_RM_takePart_35 : decode prog_6_method_31_code 35 = .ok (.iload_n 3, 1) := by decide +kernel
theorem d_RM_takePart_36 : decode prog_6_method_31_code 36 = .ok (.iconst 1, 1) := by decide +kernel
theorem d_RM_takePart_37 : decode prog_6_method_31_code 37 = .ok (.ishr, 1) := by decide +kernel
theorem d_RM_takePart_38 : decode prog_6_method_31_code 38 = .ok (.istore_n 1, 1) := by decide +kernel
theorem d_RM_takePart_39 : decode prog_6_method_31_code 39 = .ok (.iinc 2 1, 3) := by decide +kernel
theorem d_RM_takePart_42 : decode prog_6_method_31_code 42 = .ok (.goto (-38), 3) := by decide +kernel
theorem d_RM_takePart_45 : decode prog_6_method_31_code 45 = .ok (.return_, 1) := by decide +kernel
def RM_takePart_4 : Nat → Int32 → Int32 → rm_S → Option (rm_S)
  | 0, _, _, _ => none
  | n + 1, L1, L2, st => (if (104 : Int32) ≤ L2 then some st else (if ob_in L2 104 = true then (if ob_in L2 104 = true then nm (((st 8 L2.toNatClampNeg) - (st 9 L2.toNatClampNeg)) + L1) (fun x25 => (if ob_in L2 104 = true then nm (rm_up st 8 L2.toNatClampNeg (x25 &&& (1 : Int32))) (fun t34 => nm (x25 >>> ((1 : Int32) &&& 31)) (fun x38 => nm (L2 + (1 : Int32)) (fun x39 => (RM_takePart_4 n) x38 x39 t34))) else none)) else none) else none))
def RM_takePart (st : rm_S) : Option (rm_S) := RM_takePart_4 (2000) (0 : Int32) (0 : Int32) st
set_option maxHeartbeats 4000000 in
set_option maxRecDepth 100000 in
theorem c_RM_takePart (l : Launch) {D : va_G} (a : Nat → Nat) (ci : ClassId) (hi : rm_inj a) (st : rm_S) (t0 : rm_S) (hF : RM_takePart st = some t0) : ct_v l ⟨"RoundedNumbersModel", "takePart", "()V"⟩ (.code ⟨"RoundedNumbersModel", "takePart", "()V"⟩ prog_6_method_31_code 4 none :: ct_T) { frames := 0, cells := 0, slots := 0, locals := 0 } D vwCl (rm_T ci) (rm_g a ci) (rm_X a) [.ref (a 0)] st t0 := by
  refine ct_v.mk (cc := prog_6_method_31_code) (maxL := 4) (by decide) rfl (Nat.le_of_ble_eq_true rfl) ?_
  intro p e s m below meth c hx hb hr hml hown hts hlk hK hN hP hS ls hl
  have hown : s.vm.findClass "RoundedNumbersModel" = some m.cls := hown
  have hl : lv_has ls 4 [(0, .ref (a 0))] := hl
  have htb := fun w h => hts w (List.mem_cons_of_mem _ h)
  unfold RM_takePart at hF
  refine lv_iconst (v := 0) hx hb d_RM_takePart_0 (by decide) ?_
  refine lv_istore_n (lv' := [(1, .int (0 : Int32)), (0, .ref (a 0))]) hx hb d_RM_takePart_1 rfl hl (by decide) rfl (fun ls hl => ?_)
  refine lv_iconst (v := 0) hx hb d_RM_takePart_2 (by decide) ?_
  refine lv_istore_n (lv' := [(2, .int (0 : Int32)), (1, .int (0 : Int32)), (0, .ref (a 0))]) hx hb d_RM_takePart_3 rfl hl (by decide) rfl (fun ls hl => ?_)
  refine ct_loop3 (fun n (w4L2 : Int32) (w4L1 : Int32) (w4t : rm_S) ls H locs => lv_has ls 4 [(2, .int w4L2), (1, .int w4L1), (0, .ref (a 0))] ∧ RM_takePart_4 n w4L1 w4L2 w4t = some t0 ∧ va_P D vwCl (rm_g a ci w4t) H ∧ va_S (ct_F (rm_X a) s.heap.size) s.heap H locs) 4 ?_ ?_ (2000) (0 : Int32) (0 : Int32) st ⟨lv_sub hl [0, 1, 2] rfl, hF, hP, hS⟩
  · intro w4L2 w4L1 w4t ls H locs hq
    obtain ⟨hl, hF, hP, hS⟩ := hq
    rw [RM_takePart_4] at hF
    cases hF
  · intro n4 ih4 w4L2 w4L1 w4t ls H locs hq
    obtain ⟨hl, hF, hP, hS⟩ := hq
    rw [RM_takePart_4] at hF
    refine lv_iload_n hx hb d_RM_takePart_4 rfl (lv_at hl 0 rfl) ?_
    refine lv_bipush (v := 104) hx hb d_RM_takePart_5 (by decide) ?_
    refine lv_icmp_ge hx hb d_RM_takePart_7 (tgt := 45) (by decide) (fun c7 => ?_) (fun c7 => ?_)
    · replace hF := (if_pos c7).symm.trans hF
      replace hF := Option.some.inj hF
      subst hF
      exact ct_vret hx hb hr hlk hP hS d_RM_takePart_45
    · replace hF := (if_neg c7).symm.trans hF
      refine lv_aload_n hx hb d_RM_takePart_10 rfl (lv_at hl 2 rfl) ?_
      refine gf_RM_31 hx hb htb hown hK hP d_RM_takePart_11 ?_
      refine lv_iload_n hx hb d_RM_takePart_14 rfl (lv_at hl 0 rfl) ?_
      obtain ⟨b15, hF⟩ := ob_if hF
      refine rm_ald hx hb hK hP (k := 8) (by decide) (by decide) (ob_vi b15) d_RM_takePart_15 ?_
      refine lv_aload_n hx hb d_RM_takePart_16 rfl (lv_at hl 2 rfl) ?_
      refine gf_RM_34 hx hb htb hown hK hP d_RM_takePart_17 ?_
      refine lv_iload_n hx hb d_RM_takePart_20 rfl (lv_at hl 0 rfl) ?_
      obtain ⟨b21, hF⟩ := ob_if hF
      refine rm_ald hx hb hK hP (k := 9) (by decide) (by decide) (ob_vi b21) d_RM_takePart_21 ?_
      refine lv_isub hx hb d_RM_takePart_22 ?_
      refine lv_iload_n hx hb d_RM_takePart_23 rfl (lv_at hl 1 rfl) ?_
      refine lv_iadd hx hb d_RM_takePart_24 ?_
      refine lv_topi (fun x25 e25 => ?_)
      replace hF := (nm_eq e25.symm).symm.trans hF
      refine lv_istore_n (lv' := [(3, .int x25), (2, .int w4L2), (1, .int w4L1), (0, .ref (a 0))]) hx hb d_RM_takePart_25 rfl hl (by decide) rfl (fun ls hl => ?_)
      refine lv_aload_n hx hb d_RM_takePart_26 rfl (lv_at hl 3 rfl) ?_
      refine gf_RM_31 hx hb htb hown hK hP d_RM_takePart_27 ?_
      refine lv_iload_n hx hb d_RM_takePart_30 rfl (lv_at hl 1 rfl) ?_
      refine lv_iload_n hx hb d_RM_takePart_31 rfl (lv_at hl 0 rfl) ?_
      refine lv_iconst (v := 1) hx hb d_RM_takePart_32 (by decide) ?_
      refine lv_iand hx hb d_RM_takePart_33 ?_
      obtain ⟨b34, hF⟩ := ob_if hF
      refine rm_ast hx hb hK hP hS hi (k := 8) (by decide) (by decide) (ob_vi b34) d_RM_takePart_34 (fun H locs hP hS => ?_)
      obtain ⟨t34, e34, hP⟩ := nm_st hP
      replace hF := (nm_eq e34).symm.trans hF
      refine lv_iload_n hx hb d_RM_takePart_35 rfl (lv_at hl 0 rfl) ?_
      refine lv_iconst (v := 1) hx hb d_RM_takePart_36 (by decide) ?_
      refine lv_ishr hx hb d_RM_takePart_37 ?_
      refine lv_topi (fun x38 e38 => ?_)
      replace hF := (nm_eq e38.symm).symm.trans hF
      refine lv_istore_n (lv' := [(1, .int x38), (3, .int x25), (2, .int w4L2), (0, .ref (a 0))]) hx hb d_RM_takePart_38 rfl hl (by decide) rfl (fun ls hl => ?_)
      obtain ⟨x39, e39⟩ := nm_ex (w4L2 + (1 : Int32))
      replace hF := (nm_eq e39).symm.trans hF
      refine lv_iinc (v := x39) (lv' := [(2, .int x39), (1, .int x38), (3, .int x25), (0, .ref (a 0))]) hx hb d_RM_takePart_39 hl (k := 2) rfl e39 (by decide) rfl (fun ls hl => ?_)
      refine lv_goto hx hb d_RM_takePart_42 (tgt := 4) (by decide) ?_
      exact ih4 x39 x38 t34 _ _ _ ⟨lv_sub hl [0, 1, 3] rfl, hF, hP, hS⟩
theorem d_RM_doubleRest_0 : decode prog_6_method_32_code 0 = .ok (.bipush 103, 2) := by decide +kernel
theorem d_RM_doubleRest_2 : decode prog_6_method_32_code 2 = .ok (.istore_n 2, 1) := by decide +kernel
theorem d_RM_doubleRest_3 : decode prog_6_method_32_code 3 = .ok (.iload_n 2, 1) := by decide +kernel
theorem d_RM_doubleRest_4 : decode prog_6_method_32_code 4 = .ok (.ifCond .le 23, 3) := by decide +kernel
theorem d_RM_doubleRest_7 : decode prog_6_method_32_code 7 = .ok (.aload_n 0, 1) := by decide +kernel
theorem d_RM_doubleRest_8 : decode prog_6_method_32_code 8 = .ok (.getfield 31, 3) := by decide +kernel
theorem d_RM_doubleRest_11 : decode prog_6_method_32_code 11 = .ok (.iload_n 2, 1) := by decide +kernel
theorem d_RM_doubleRest_12 : decode prog_6_method_32_code 12 = .ok (.aload_n 0, 1) := by decide +kernel
theorem d_RM_doubleRest_13 : decode prog_6_method_32_code 13 = .ok (.getfield 31, 3) := by decide +kernel
theorem d_RM_doubleRest_16 : decode prog_6_method_32_code 16 = .ok (.iload_n 2, 1) := by decide +kernel
theorem d_RM_doubleRest_17 : decode prog_6_method_32_code 17 = .ok (.iconst 1, 1) := by decide +kernel
theorem d_RM_doubleRest_18 : decode prog_6_method_32_code 18 = .ok (.isub, 1) := by decide +kernel
theorem d_RM_doubleRest_19 : decode prog_6_method_32_code 19 = .ok (.iaload, 1) := by decide +kernel
theorem d_RM_doubleRest_20 : decode prog_6_method_32_code 20 = .ok (.iastore, 1) := by decide +kernel
theorem d_RM_doubleRest_21 : decode prog_6_method_32_code 21 = .ok (.iinc 2 (-1), 3) := by decide +kernel
theorem d_RM_doubleRest_24 : decode prog_6_method_32_code 24 = .ok (.goto (-21), 3) := by decide +kernel
theorem d_RM_doubleRest_27 : decode prog_6_method_32_code 27 = .ok (.aload_n 0, 1) := by decide +kernel
theorem d_RM_doubleRest_28 : decode prog_6_method_32_code 28 = .ok (.getfield 31, 3) := by decide +kernel
theorem d_RM_doubleRest_31 : decode prog_6_method_32_code 31 = .ok (.iconst 0, 1) := by decide +kernel
theorem d_RM_doubleRest_32 : decode prog_6_method_32_code 32 = .ok (.iload_n 1, 1) := by decide +kernel
theorem d_RM_doubleRest_33 : decode prog_6_method_32_code 33 = .ok (.iastore, 1) := by decide +kernel
theorem d_RM_doubleRest_34 : decode prog_6_method_32_code 34 = .ok (.return_, 1) := by decide +kernel
def RM_doubleRest_3 : Nat → Int32 → Int32 → rm_S → Option (rm_S)
  | 0, _, _, _ => none
  | n + 1, L1, L2, st => (if L2 ≤ 0 then (if ob_in (0 : Int32) 104 = true then nm (rm_up st 8 (0 : Int32).toNatClampNeg L1) (fun t33 => some t33) else none) else (if ob_in (L2 - (1 : Int32)) 104 = true then (if ob_in L2 104 = true then nm (rm_up st 8 L2.toNatClampNeg (st 8 (L2 - (1 : Int32)).toNatClampNeg)) (fun t20 => nm (L2 + (-1 : Int32)) (fun x21 => (RM_doubleRest_3 n) L1 x21 t20)) else none) else none))
def RM_doubleRest (st : rm_S) (p0 : Int32) : Option (rm_S) := RM_doubleRest_3 (2000) p0 (103 : Int32) st
set_option maxHeartbeats 4000000 in
set_option maxRecDepth 100000 in
theorem c_RM_doubleRest (l : Launch) {D : va_G} (a : Nat → Nat) (ci : ClassId) (hi : rm_inj a) (st : rm_S) (p0 : Int32) (t0 : rm_S) (hF : RM_doubleRest st p0 = some t0) : ct_v l ⟨"RoundedNumbersModel", "doubleRest", "(I)V"⟩ (.code ⟨"RoundedNumbersModel", "doubleRest", "(I)V"⟩ prog_6_method_32_code 3 none :: ct_T) { frames := 0, cells := 0, slots := 0, locals := 0 } D vwCl (rm_T ci) (rm_g a ci) (rm_X a) [.ref (a 0), .int p0] st t0 := by
  refine ct_v.mk (cc := prog_6_method_32_code) (maxL := 3) (by decide) rfl (Nat.le_of_ble_eq_true rfl) ?_
  intro p e s m below meth c hx hb hr hml hown hts hlk hK hN hP hS ls hl
  have hown : s.vm.findClass "RoundedNumbersModel" = some m.cls := hown
  have hl : lv_has ls 3 [(0, .ref (a 0)), (1, .int p0)] := hl
  have htb := fun w h => hts w (List.mem_cons_of_mem _ h)
  unfold RM_doubleRest at hF
  refine lv_bipush (v := 103) hx hb d_RM_doubleRest_0 (by decide) ?_
  refine lv_istore_n (lv' := [(2, .int (103 : Int32)), (0, .ref (a 0)), (1, .int p0)]) hx hb d_RM_doubleRest_2 rfl hl (by decide) rfl (fun ls hl => ?_)
  refine ct_loop2 (fun n (w3L2 : Int32) (w3t : rm_S) ls H locs => lv_has ls 3 [(2, .int w3L2), (0, .ref (a 0)), (1, .int p0)] ∧ RM_doubleRest_3 n p0 w3L2 w3t = some t0 ∧ va_P D vwCl (rm_g a ci w3t) H ∧ va_S (ct_F (rm_X a) s.heap.size) s.heap H locs) 3 ?_ ?_ (2000) (103 : Int32) st ⟨lv_sub hl [0, 1, 2] rfl, hF, hP, hS⟩
  · intro w3L2 w3t ls H locs hq
    obtain ⟨hl, hF, hP, hS⟩ := hq
    rw [RM_doubleRest_3] at hF
    cases hF
  · intro n3 ih3 w3L2 w3t ls H locs hq
    obtain ⟨hl, hF, hP, hS⟩ := hq
    rw [RM_doubleRest_3] at hF
    refine lv_iload_n hx hb d_RM_doubleRest_3 rfl (lv_at hl 0 rfl) ?_
    refine lv_if_le hx hb d_RM_doubleRest_4 (tgt := 27) (by decide) (fun c4 => ?_) (fun c4 => ?_)
    · replace hF := (if_pos c4).symm.trans hF
      refine lv_aload_n hx hb d_RM_doubleRest_27 rfl (lv_at hl 1 rfl) ?_
      refine gf_RM_31 hx hb htb hown hK hP d_RM_doubleRest_28 ?_
      refine lv_iconst (v := 0) hx hb d_RM_doubleRest_31 (by decide) ?_
      refine lv_iload_n hx hb d_RM_doubleRest_32 rfl (lv_at hl 2 rfl) ?_
      obtain ⟨b33, hF⟩ := ob_if hF
      refine rm_ast hx hb hK hP hS hi (k := 8) (by decide) (by decide) (ob_vi b33) d_RM_doubleRest_33 (fun H locs hP hS => ?_)
      obtain ⟨t33, e33, hP⟩ := nm_st hP
      replace hF := (nm_eq e33).symm.trans hF
      replace hF := Option.some.inj hF
      subst hF
      exact ct_vret hx hb hr hlk hP hS d_RM_doubleRest_34
    · replace hF := (if_neg c4).symm.trans hF
      refine lv_aload_n hx hb d_RM_doubleRest_7 rfl (lv_at hl 1 rfl) ?_
      refine gf_RM_31 hx hb htb hown hK hP d_RM_doubleRest_8 ?_
      refine lv_iload_n hx hb d_RM_doubleRest_11 rfl (lv_at hl 0 rfl) ?_
      refine lv_aload_n hx hb d_RM_doubleRest_12 rfl (lv_at hl 1 rfl) ?_
      refine gf_RM_31 hx hb htb hown hK hP d_RM_doubleRest_13 ?_
      refine lv_iload_n hx hb d_RM_doubleRest_16 rfl (lv_at hl 0 rfl) ?_
      refine lv_iconst (v := 1) hx hb d_RM_doubleRest_17 (by decide) ?_
      refine lv_isub hx hb d_RM_doubleRest_18 ?_
      obtain ⟨b19, hF⟩ := ob_if hF
      refine rm_ald hx hb hK hP (k := 8) (by decide) (by decide) (ob_vi b19) d_RM_doubleRest_19 ?_
      obtain ⟨b20, hF⟩ := ob_if hF
      refine rm_ast hx hb hK hP hS hi (k := 8) (by decide) (by decide) (ob_vi b20) d_RM_doubleRest_20 (fun H locs hP hS => ?_)
      obtain ⟨t20, e20, hP⟩ := nm_st hP
      replace hF := (nm_eq e20).symm.trans hF
      obtain ⟨x21, e21⟩ := nm_ex (w3L2 + (-1 : Int32))
      replace hF := (nm_eq e21).symm.trans hF
      refine lv_iinc (v := x21) (lv' := [(2, .int x21), (0, .ref (a 0)), (1, .int p0)]) hx hb d_RM_doubleRest_21 hl (k := 0) rfl e21 (by decide) rfl (fun ls hl => ?_)
      refine lv_goto hx hb d_RM_doubleRest_24 (tgt := 3) (by decide) ?_
      exact ih3 x21 t20 _ _ _ ⟨lv_sub hl [0, 1, 2] rfl, hF, hP, hS⟩
theorem d_RM_isLeft_0 : decode prog_6_method_33_code 0 = .ok (.iconst 0, 1) := by decide +kernel
theorem d_RM_isLeft_1 : decode prog_6_method_33_code 1 = .ok (.istore_n 1, 1) := by decide +kernel
theorem d_RM_isLeft_2 : decode prog_6_method_33_code 2 = .ok (.iconst 0, 1) := by decide +kernel
theorem d_RM_isLeft_3 : decode prog_6_method_33_code 3 = .ok (.istore_n 2, 1) := by decide +kernel
theorem d_RM_isLeft_4 : decode prog_6_method_33_code 4 = .ok (.iload_n 2, 1) := by decide +kernel
theorem d_RM_isLeft_5 : decode prog_6_method_33_code 5 = .ok (.bipush 104, 2) := by decide +kernel
theorem d_RM_isLeft_7 : decode prog_6_method_33_code 7 = .ok (.if_icmp .ge 29, 3) := by decide +kernel
theorem d_RM_isLeft_10 : decode prog_6_method_33_code 10 = .ok (.iload_n 1, 1) := by decide +kernel
theorem d_RM_isLeft_11 : decode prog_6_method_33_code 11 = .ok (.ifCond .ne 13, 3) := by decide +kernel
theorem d_RM_isLeft_14 : decode prog_6_method_33_code 14 = .ok (.aload_n 0, 1) := by decide +kernel
theorem d_RM_isLeft_15 : decode prog_6_method_33_code 15 = .ok (.getfield 31, 3) := by decide +kernel
theorem d_RM_isLeft_18 : decode prog_6_method_33_code 18 = .ok (.iload_n 2, 1) := by decide +kernel
theorem d_RM_isLeft_19 : decode prog_6_method_33_code 19 = .ok (.iaload, 1) := by decide +kernel
theorem d_RM_isLeft_20 : decode prog_6_method_33_code 20 = .ok (.iconst 1, 1) := by decide +kernel
theorem d_RM_isLeft_21 : decode prog_6_method_33_code 21 = .ok (.if_icmp .ne 7, 3) := by decide +kernel
theorem d_RM_isLeft_24 : decode prog_6_method_33_code 24 = .ok (.iconst 1, 1) := by decide +kernel
theorem d_RM_isLeft_25 : decode prog_6_method_33_code 25 = .ok (.goto 4, 3) := by decide +kernel
theorem d_RM_isLeft_28 : decode prog_6_method_33_code 28 = .ok (.iconst 0, 1) := by decide +kernel
theorem d_RM_isLeft_29 : decode prog_6_method_33_code 29 = .ok (.istore_n 1, 1) := by decide +kernel
theorem d_RM_isLeft_30 : decode prog_6_method_33_code 30 = .ok (.iinc 2 1, 3) := by decide +kernel
theorem d_RM_isLeft_33 : decode prog_6_method_33_code 33 = .ok (.goto (-29), 3) := by decide +kernel
theorem d_RM_isLeft_36 : decode prog_6_method_33_code 36 = .ok (.iload_n 1, 1) := by decide +kernel
theorem d_RM_isLeft_37 : decode prog_6_method_33_code 37 = .ok (.ireturn, 1) := by decide +kernel
def RM_isLeft_29 (k4 : Int32 → Int32 → rm_S → Option (Int32)) (L2 : Int32) (s0 : Int32) (st : rm_S) : Option (Int32) := nm (L2 + (1 : Int32)) (fun x30 => k4 s0 x30 st)
def RM_isLeft_24 (k4 : Int32 → Int32 → rm_S → Option (Int32)) (L2 : Int32) (st : rm_S) : Option (Int32) := RM_isLeft_29 k4 L2 (1 : Int32) st
def RM_isLeft_4 : Nat → Int32 → Int32 → rm_S → Option (Int32)
  | 0, _, _, _ => none
  | n + 1, L1, L2, st => (if (104 : Int32) ≤ L2 then (if ob_z L1 = true then some L1 else none) else (if L1 = 0 then (if ob_in L2 104 = true then (if (st 8 L2.toNatClampNeg) = (1 : Int32) then RM_isLeft_24 (RM_isLeft_4 n) L2 st else RM_isLeft_29 (RM_isLeft_4 n) L2 (0 : Int32) st) else none) else RM_isLeft_24 (RM_isLeft_4 n) L2 st))
def RM_isLeft (st : rm_S) : Option (Int32) := RM_isLeft_4 (2000) (0 : Int32) (0 : Int32) st
set_option maxHeartbeats 4000000 in
set_option maxRecDepth 100000 in
theorem c_RM_isLeft (l : Launch) {D : va_G} (a : Nat → Nat) (ci : ClassId) (hi : rm_inj a) (st : rm_S) (r0 : Int32) (hF : RM_isLeft st = some r0) : ct_i l ⟨"RoundedNumbersModel", "isLeft", "()Z"⟩ (.code ⟨"RoundedNumbersModel", "isLeft", "()Z"⟩ prog_6_method_33_code 3 (some .boolean) :: ct_T) { frames := 0, cells := 0, slots := 0, locals := 0 } D vwCl (rm_T ci) (rm_g a ci) (rm_X a) [.ref (a 0)] st r0 st := by
  refine ct_i.mk (cc := prog_6_method_33_code) (maxL := 3) (by decide) rfl (Nat.le_of_ble_eq_true rfl) ?_
  intro p e s m below meth c hx hb hr hml hown hts hlk hK hN hP hS ls hl
  have hown : s.vm.findClass "RoundedNumbersModel" = some m.cls := hown
  have hl : lv_has ls 3 [(0, .ref (a 0))] := hl
  have htb := fun w h => hts w (List.mem_cons_of_mem _ h)
  unfold RM_isLeft at hF
  refine lv_iconst (v := 0) hx hb d_RM_isLeft_0 (by decide) ?_
  refine lv_istore_n (lv' := [(1, .int (0 : Int32)), (0, .ref (a 0))]) hx hb d_RM_isLeft_1 rfl hl (by decide) rfl (fun ls hl => ?_)
  refine lv_iconst (v := 0) hx hb d_RM_isLeft_2 (by decide) ?_
  refine lv_istore_n (lv' := [(2, .int (0 : Int32)), (1, .int (0 : Int32)), (0, .ref (a 0))]) hx hb d_RM_isLeft_3 rfl hl (by decide) rfl (fun ls hl => ?_)
  refine ct_loop2 (fun n (w4L2 : Int32) (w4L1 : Int32) ls H locs => lv_has ls 3 [(2, .int w4L2), (1, .int w4L1), (0, .ref (a 0))] ∧ RM_isLeft_4 n w4L1 w4L2 st = some r0 ∧ va_P D vwCl (rm_g a ci st) H ∧ va_S (ct_F (rm_X a) s.heap.size) s.heap H locs) 4 ?_ ?_ (2000) (0 : Int32) (0 : Int32) ⟨lv_sub hl [0, 1, 2] rfl, hF, hP, hS⟩
  · intro w4L2 w4L1 ls H locs hq
    obtain ⟨hl, hF, hP, hS⟩ := hq
    rw [RM_isLeft_4] at hF
    cases hF
  · intro n4 ih4 w4L2 w4L1 ls H locs hq
    obtain ⟨hl, hF, hP, hS⟩ := hq
    rw [RM_isLeft_4] at hF
    refine lv_iload_n hx hb d_RM_isLeft_4 rfl (lv_at hl 0 rfl) ?_
    refine lv_bipush (v := 104) hx hb d_RM_isLeft_5 (by decide) ?_
    refine lv_icmp_ge hx hb d_RM_isLeft_7 (tgt := 36) (by decide) (fun c7 => ?_) (fun c7 => ?_)
    · replace hF := (if_pos c7).symm.trans hF
      refine lv_iload_n hx hb d_RM_isLeft_36 rfl (lv_at hl 1 rfl) ?_
      obtain ⟨bz, hF⟩ := ob_if hF
      replace hF := Option.some.inj hF
      subst hF
      exact ct_zret hx hb hr hlk (ob_zn bz) hP hS d_RM_isLeft_37
    · replace hF := (if_neg c7).symm.trans hF
      refine lv_iload_n hx hb d_RM_isLeft_10 rfl (lv_at hl 1 rfl) ?_
      refine ct_cut1 (fun (j29s0 : Int32) ls H locs => lv_has ls 3 [(2, .int w4L2), (0, .ref (a 0))] ∧ RM_isLeft_29 (RM_isLeft_4 n4) w4L2 j29s0 st = some r0 ∧ va_P D vwCl (rm_g a ci st) H ∧ va_S (ct_F (rm_X a) s.heap.size) s.heap H locs) 29 (fun j29s0 => [.int j29s0]) ?_ ?_
      · intro j29s0 ls H locs hq
        obtain ⟨hl, hF, hP, hS⟩ := hq
        unfold RM_isLeft_29 at hF
        refine lv_istore_n (lv' := [(1, .int j29s0), (2, .int w4L2), (0, .ref (a 0))]) hx hb d_RM_isLeft_29 rfl hl (by decide) rfl (fun ls hl => ?_)
        obtain ⟨x30, e30⟩ := nm_ex (w4L2 + (1 : Int32))
        replace hF := (nm_eq e30).symm.trans hF
        refine lv_iinc (v := x30) (lv' := [(2, .int x30), (1, .int j29s0), (0, .ref (a 0))]) hx hb d_RM_isLeft_30 hl (k := 1) rfl e30 (by decide) rfl (fun ls hl => ?_)
        refine lv_goto hx hb d_RM_isLeft_33 (tgt := 4) (by decide) ?_
        exact ih4 x30 j29s0 _ _ _ ⟨lv_sub hl [0, 1, 2] rfl, hF, hP, hS⟩
      · intro kj29
        refine ct_cut0 (fun  ls H locs => lv_has ls 3 [(2, .int w4L2), (0, .ref (a 0))] ∧ RM_isLeft_24 (RM_isLeft_4 n4) w4L2 st = some r0 ∧ va_P D vwCl (rm_g a ci st) H ∧ va_S (ct_F (rm_X a) s.heap.size) s.heap H locs) 24 [] ?_ ?_
        · intro ls H locs hq
          obtain ⟨hl, hF, hP, hS⟩ := hq
          unfold RM_isLeft_24 at hF
          refine lv_iconst (v := 1) hx hb d_RM_isLeft_24 (by decide) ?_
          refine lv_goto hx hb d_RM_isLeft_25 (tgt := 29) (by decide) ?_
          exact kj29 (1 : Int32) _ _ _ ⟨lv_sub hl [0, 1] rfl, hF, hP, hS⟩
        · intro kj24
          refine lv_if_ne hx hb d_RM_isLeft_11 (tgt := 24) (by decide) (fun c11 => ?_) (fun c11 => ?_)
          · replace hF := (if_neg c11).symm.trans hF
            exact kj24 _ _ _ ⟨lv_sub hl [0, 2] rfl, hF, hP, hS⟩
          · replace hF := (if_pos c11).symm.trans hF
            refine lv_aload_n hx hb d_RM_isLeft_14 rfl (lv_at hl 2 rfl) ?_
            refine gf_RM_31 hx hb htb hown hK hP d_RM_isLeft_15 ?_
            refine lv_iload_n hx hb d_RM_isLeft_18 rfl (lv_at hl 0 rfl) ?_
            obtain ⟨b19, hF⟩ := ob_if hF
            refine rm_ald hx hb hK hP (k := 8) (by decide) (by decide) (ob_vi b19) d_RM_isLeft_19 ?_
            refine lv_iconst (v := 1) hx hb d_RM_isLeft_20 (by decide) ?_
            refine lv_icmp_ne hx hb d_RM_isLeft_21 (tgt := 28) (by decide) (fun c21 => ?_) (fun c21 => ?_)
            · replace hF := (if_neg c21).symm.trans hF
              refine lv_iconst (v := 0) hx hb d_RM_isLeft_28 (by decide) ?_
              exact kj29 (0 : Int32) _ _ _ ⟨lv_sub hl [0, 2] rfl, hF, hP, hS⟩
            · replace hF := (if_pos c21).symm.trans hF
              exact kj24 _ _ _ ⟨lv_sub hl [0, 2] rfl, hF, hP, hS⟩
theorem d_RM_bitOf_0 : decode prog_6_method_34_code 0 = .ok (.iload_n 2, 1) := by decide +kernel
theorem d_RM_bitOf_1 : decode prog_6_method_34_code 1 = .ok (.ifCond .lt 27, 3) := by decide +kernel
theorem d_RM_bitOf_4 : decode prog_6_method_34_code 4 = .ok (.iload_n 2, 1) := by decide +kernel
theorem d_RM_bitOf_5 : decode prog_6_method_34_code 5 = .ok (.aload_n 0, 1) := by decide +kernel
theorem d_RM_bitOf_6 : decode prog_6_method_34_code 6 = .ok (.getfield 7, 3) := by decide +kernel
theorem d_RM_bitOf_9 : decode prog_6_method_34_code 9 = .ok (.iload_n 1, 1) := by decide +kernel
theorem d_RM_bitOf_10 : decode prog_6_method_34_code 10 = .ok (.iaload, 1) := by decide +kernel
theorem d_RM_bitOf_11 : decode prog_6_method_34_code 11 = .ok (.if_icmp .ge 17, 3) := by decide +kernel
theorem d_RM_bitOf_14 : decode prog_6_method_34_code 14 = .ok (.aload_n 0, 1) := by decide +kernel
theorem d_RM_bitOf_15 : decode prog_6_method_34_code 15 = .ok (.getfield 22, 3) := by decide +kernel
theorem d_RM_bitOf_18 : decode prog_6_method_34_code 18 = .ok (.bipush 93, 2) := by decide +kernel
theorem d_RM_bitOf_20 : decode prog_6_method_34_code 20 = .ok (.iload_n 1, 1) := by decide +kernel
theorem d_RM_bitOf_21 : decode prog_6_method_34_code 21 = .ok (.imul, 1) := by decide +kernel
theorem d_RM_bitOf_22 : decode prog_6_method_34_code 22 = .ok (.iload_n 2, 1) := by decide +kernel
theorem d_RM_bitOf_23 : decode prog_6_method_34_code 23 = .ok (.iadd, 1) := by decide +kernel
theorem d_RM_bitOf_24 : decode prog_6_method_34_code 24 = .ok (.iaload, 1) := by decide +kernel
theorem d_RM_bitOf_25 : decode prog_6_method_34_code 25 = .ok (.goto 4, 3) := by decide +kernel
theorem d_RM_bitOf_28 : decode prog_6_method_34_code 28 = .ok (.iconst 0, 1) := by decide +kernel
theorem d_RM_bitOf_29 : decode prog_6_method_34_code 29 = .ok (.ireturn, 1) := by decide +kernel
def RM_bitOf (st : rm_S) (p0 : Int32) (p1 : Int32) : Option (Int32) := (if p1 < 0 then some (0 : Int32) else (if ob_in p0 8 = true then (if (st 1 p0.toNatClampNeg) ≤ p1 then some (0 : Int32) else (if ob_in (((93 : Int32) * p0) + p1) 744 = true then some (st 5 (((93 : Int32) * p0) + p1).toNatClampNeg) else none)) else none))
set_option maxHeartbeats 4000000 in
set_option maxRecDepth 100000 in
theorem c_RM_bitOf (l : Launch) {D : va_G} (a : Nat → Nat) (ci : ClassId) (hi : rm_inj a) (st : rm_S) (p0 : Int32) (p1 : Int32) (r0 : Int32) (hF : RM_bitOf st p0 p1 = some r0) : ct_i l ⟨"RoundedNumbersModel", "bitOf", "(II)I"⟩ (.code ⟨"RoundedNumbersModel", "bitOf", "(II)I"⟩ prog_6_method_34_code 3 (some .int) :: ct_T) { frames := 0, cells := 0, slots := 0, locals := 0 } D vwCl (rm_T ci) (rm_g a ci) (rm_X a) [.ref (a 0), .int p0, .int p1] st r0 st := by
  refine ct_i.mk (cc := prog_6_method_34_code) (maxL := 3) (by decide) rfl (Nat.le_of_ble_eq_true rfl) ?_
  intro p e s m below meth c hx hb hr hml hown hts hlk hK hN hP hS ls hl
  have hown : s.vm.findClass "RoundedNumbersModel" = some m.cls := hown
  have hl : lv_has ls 3 [(0, .ref (a 0)), (1, .int p0), (2, .int p1)] := hl
  have htb := fun w h => hts w (List.mem_cons_of_mem _ h)
  unfold RM_bitOf at hF
  refine lv_iload_n hx hb d_RM_bitOf_0 rfl (lv_at hl 2 rfl) ?_
  refine lv_if_lt hx hb d_RM_bitOf_1 (tgt := 28) (by decide) (fun c1 => ?_) (fun c1 => ?_)
  · replace hF := (if_pos c1).symm.trans hF
    refine lv_iconst (v := 0) hx hb d_RM_bitOf_28 (by decide) ?_
    replace hF := Option.some.inj hF
    subst hF
    exact ct_iret hx hb hr hlk hP hS d_RM_bitOf_29
  · replace hF := (if_neg c1).symm.trans hF
    refine lv_iload_n hx hb d_RM_bitOf_4 rfl (lv_at hl 2 rfl) ?_
    refine lv_aload_n hx hb d_RM_bitOf_5 rfl (lv_at hl 0 rfl) ?_
    refine gf_RM_7 hx hb htb hown hK hP d_RM_bitOf_6 ?_
    refine lv_iload_n hx hb d_RM_bitOf_9 rfl (lv_at hl 1 rfl) ?_
    obtain ⟨b10, hF⟩ := ob_if hF
    refine rm_ald hx hb hK hP (k := 1) (by decide) (by decide) (ob_vi b10) d_RM_bitOf_10 ?_
    refine lv_icmp_ge hx hb d_RM_bitOf_11 (tgt := 28) (by decide) (fun c11 => ?_) (fun c11 => ?_)
    · replace hF := (if_pos c11).symm.trans hF
      refine lv_iconst (v := 0) hx hb d_RM_bitOf_28 (by decide) ?_
      replace hF := Option.some.inj hF
      subst hF
      exact ct_iret hx hb hr hlk hP hS d_RM_bitOf_29
    · replace hF := (if_neg c11).symm.trans hF
      refine lv_aload_n hx hb d_RM_bitOf_14 rfl (lv_at hl 0 rfl) ?_
      refine gf_RM_22 hx hb htb hown hK hP d_RM_bitOf_15 ?_
      refine lv_bipush (v := 93) hx hb d_RM_bitOf_18 (by decide) ?_
      refine lv_iload_n hx hb d_RM_bitOf_20 rfl (lv_at hl 1 rfl) ?_
      refine lv_imul hx hb d_RM_bitOf_21 ?_
      refine lv_iload_n hx hb d_RM_bitOf_22 rfl (lv_at hl 2 rfl) ?_
      refine lv_iadd hx hb d_RM_bitOf_23 ?_
      obtain ⟨b24, hF⟩ := ob_if hF
      refine rm_ald hx hb hK hP (k := 5) (by decide) (by decide) (ob_vi b24) d_RM_bitOf_24 ?_
      refine lv_goto hx hb d_RM_bitOf_25 (tgt := 29) (by decide) ?_
      replace hF := Option.some.inj hF
      subst hF
      exact ct_iret hx hb hr hlk hP hS d_RM_bitOf_29
theorem d_RM_divide_0 : decode prog_6_method_35_code 0 = .ok (.iconst 0, 1) := by decide +kernel
theorem d_RM_divide_1 : decode prog_6_method_35_code 1 = .ok (.istore_n 3, 1) := by decide +kernel
theorem d_RM_divide_2 : decode prog_6_method_35_code 2 = .ok (.iload_n 3, 1) := by decide +kernel
theorem d_RM_divide_3 : decode prog_6_method_35_code 3 = .ok (.bipush 104, 2) := by decide +kernel
theorem d_RM_divide_5 : decode prog_6_method_35_code 5 = .ok (.if_icmp .ge 59, 3) := by decide +kernel
theorem d_RM_divide_8 : decode prog_6_method_35_code 8 = .ok (.aload_n 0, 1) := by decide +kernel
theorem d_RM_divide_9 : decode prog_6_method_35_code 9 = .ok (.getfield 31, 3) := by decide +kernel
theorem d_RM_divide_12 : decode prog_6_method_35_code 12 = .ok (.iload_n 3, 1) := by decide +kernel
theorem d_RM_divide_13 : decode prog_6_method_35_code 13 = .ok (.iload_n 3, 1) := by decide +kernel
theorem d_RM_divide_14 : decode prog_6_method_35_code 14 = .ok (.bipush 93, 2) := by decide +kernel
theorem d_RM_divide_16 : decode prog_6_method_35_code 16 = .ok (.if_icmp .ge 15, 3) := by decide +kernel
theorem d_RM_divide_19 : decode prog_6_method_35_code 19 = .ok (.aload_n 0, 1) := by decide +kernel
theorem d_RM_divide_20 : decode prog_6_method_35_code 20 = .ok (.iload_n 1, 1) := by decide +kernel
theorem d_RM_divide_21 : decode prog_6_method_35_code 21 = .ok (.bipush 92, 2) := by decide +kernel
theorem d_RM_divide_23 : decode prog_6_method_35_code 23 = .ok (.iload_n 3, 1) := by decide +kernel
theorem d_RM_divide_24 : decode prog_6_method_35_code 24 = .ok (.isub, 1) := by decide +kernel
theorem d_RM_divide_25 : decode prog_6_method_35_code 25 = .ok (.invokevirtual 111, 3) := by decide +kernel
theorem d_RM_divide_28 : decode prog_6_method_35_code 28 = .ok (.goto 4, 3) := by decide +kernel
theorem d_RM_divide_31 : decode prog_6_method_35_code 31 = .ok (.iconst 0, 1) := by decide +kernel
theorem d_RM_divide_32 : decode prog_6_method_35_code 32 = .ok (.iastore, 1) := by decide +kernel
theorem d_RM_divide_33 : decode prog_6_method_35_code 33 = .ok (.aload_n 0, 1) := by decide +kernel
theorem d_RM_divide_34 : decode prog_6_method_35_code 34 = .ok (.getfield 34, 3) := by decide +kernel
theorem d_RM_divide_37 : decode prog_6_method_35_code 37 = .ok (.iload_n 3, 1) := by decide +kernel
theorem d_RM_divide_38 : decode prog_6_method_35_code 38 = .ok (.iload_n 3, 1) := by decide +kernel
theorem d_RM_divide_39 : decode prog_6_method_35_code 39 = .ok (.bipush 93, 2) := by decide +kernel
theorem d_RM_divide_41 : decode prog_6_method_35_code 41 = .ok (.if_icmp .ge 15, 3) := by decide +kernel
theorem d_RM_divide_44 : decode prog_6_method_35_code 44 = .ok (.aload_n 0, 1) := by decide +kernel
theorem d_RM_divide_45 : decode prog_6_method_35_code 45 = .ok (.iload_n 2, 1) := by decide +kernel
theorem d_RM_divide_46 : decode prog_6_method_35_code 46 = .ok (.bipush 92, 2) := by decide +kernel
theorem d_RM_divide_48 : decode prog_6_method_35_code 48 = .ok (.iload_n 3, 1) := by decide +kernel
theorem d_RM_divide_49 : decode prog_6_method_35_code 49 = .ok (.isub, 1) := by decide +kernel
theorem d_RM_divide_50 : decode prog_6_method_35_code 50 = .ok (.invokevirtual 111, 3) := by decide +kernel
theorem d_RM_divide_53 : decode prog_6_method_35_code 53 = .ok (.goto 4, 3) := by decide +kernel
theorem d_RM_divide_56 : decode prog_6_method_35_code 56 = .ok (.iconst 0, 1) := by decide +kernel
theorem d_RM_divide_57 : decode prog_6_method_35_code 57 = .ok (.iastore, 1) := by decide +kernel
theorem d_RM_divide_58 : decode prog_6_method_35_code 58 = .ok (.iinc 3 1, 3) := by decide +kernel
theorem d_RM_divide_61 : decode prog_6_method_35_code 61 = .ok (.goto (-59), 3) := by decide +kernel
theorem d_RM_divide_64 : decode prog_6_method_35_code 64 = .ok (.sipush 600, 3) := by decide +kernel
theorem d_RM_divide_67 : decode prog_6_method_35_code 67 = .ok (.aload_n 0, 1) := by decide +kernel
theorem d_RM_divide_68 : decode prog_6_method_35_code 68 = .ok (.getfield 19, 3) := by decide +kernel
theorem d_RM_divide_71 : decode prog_6_method_35_code 71 = .ok (.iload_n 1, 1) := by decide +kernel
theorem d_RM_divide_72 : decode prog_6_method_35_code 72 = .ok (.iaload, 1) := by decide +kernel
theorem d_RM_divide_73 : decode prog_6_method_35_code 73 = .ok (.iadd, 1) := by decide +kernel
theorem d_RM_divide_74 : decode prog_6_method_35_code 74 = .ok (.aload_n 0, 1) := by decide +kernel
theorem d_RM_divide_75 : decode prog_6_method_35_code 75 = .ok (.getfield 19, 3) := by decide +kernel
theorem d_RM_divide_78 : decode prog_6_method_35_code 78 = .ok (.iload_n 2, 1) := by decide +kernel
theorem d_RM_divide_79 : decode prog_6_method_35_code 79 = .ok (.iaload, 1) := by decide +kernel
theorem d_RM_divide_80 : decode prog_6_method_35_code 80 = .ok (.isub, 1) := by decide +kernel
theorem d_RM_divide_81 : decode prog_6_method_35_code 81 = .ok (.istore_n 3, 1) := by decide +kernel
theorem d_RM_divide_82 : decode prog_6_method_35_code 82 = .ok (.iconst 0, 1) := by decide +kernel
theorem d_RM_divide_83 : decode prog_6_method_35_code 83 = .ok (.istore 4, 2) := by decide +kernel
theorem d_RM_divide_85 : decode prog_6_method_35_code 85 = .ok (.iload 4, 2) := by decide +kernel
theorem d_RM_divide_87 : decode prog_6_method_35_code 87 = .ok (.bipush 99, 2) := by decide +kernel
theorem d_RM_divide_89 : decode prog_6_method_35_code 89 = .ok (.if_icmp .ge 35, 3) := by decide +kernel
theorem d_RM_divide_92 : decode prog_6_method_35_code 92 = .ok (.aload_n 0, 1) := by decide +kernel
theorem d_RM_divide_93 : decode prog_6_method_35_code 93 = .ok (.invokevirtual 114, 3) := by decide +kernel
theorem d_RM_divide_96 : decode prog_6_method_35_code 96 = .ok (.ifCond .eq 17, 3) := by decide +kernel
theorem d_RM_divide_99 : decode prog_6_method_35_code 99 = .ok (.aload_n 0, 1) := by decide +kernel
theorem d_RM_divide_100 : decode prog_6_method_35_code 100 = .ok (.invokevirtual 118, 3) := by decide +kernel
theorem d_RM_divide_103 : decode prog_6_method_35_code 103 = .ok (.aload_n 0, 1) := by decide +kernel
theorem d_RM_divide_104 : decode prog_6_method_35_code 104 = .ok (.getfield 25, 3) := by decide +kernel
theorem d_RM_divide_107 : decode prog_6_method_35_code 107 = .ok (.iload_n 3, 1) := by decide +kernel
theorem d_RM_divide_108 : decode prog_6_method_35_code 108 = .ok (.iload 4, 2) := by decide +kernel
theorem d_RM_divide_110 : decode prog_6_method_35_code 110 = .ok (.isub, 1) := by decide +kernel
theorem d_RM_divide_111 : decode prog_6_method_35_code 111 = .ok (.iconst 1, 1) := by decide +kernel
theorem d_RM_divide_112 : decode prog_6_method_35_code 112 = .ok (.iastore, 1) := by decide +kernel
theorem d_RM_divide_113 : decode prog_6_method_35_code 113 = .ok (.aload_n 0, 1) := by decide +kernel
theorem d_RM_divide_114 : decode prog_6_method_35_code 114 = .ok (.iconst 0, 1) := by decide +kernel
theorem d_RM_divide_115 : decode prog_6_method_35_code 115 = .ok (.invokevirtual 121, 3) := by decide +kernel
theorem d_RM_divide_118 : decode prog_6_method_35_code 118 = .ok (.iinc 4 1, 3) := by decide +kernel
theorem d_RM_divide_121 : decode prog_6_method_35_code 121 = .ok (.goto (-36), 3) := by decide +kernel
theorem d_RM_divide_124 : decode prog_6_method_35_code 124 = .ok (.aload_n 0, 1) := by decide +kernel
theorem d_RM_divide_125 : decode prog_6_method_35_code 125 = .ok (.getfield 25, 3) := by decide +kernel
theorem d_RM_divide_128 : decode prog_6_method_35_code 128 = .ok (.iload_n 3, 1) := by decide +kernel
theorem d_RM_divide_129 : decode prog_6_method_35_code 129 = .ok (.bipush 99, 2) := by decide +kernel
theorem d_RM_divide_131 : decode prog_6_method_35_code 131 = .ok (.isub, 1) := by decide +kernel
theorem d_RM_divide_132 : decode prog_6_method_35_code 132 = .ok (.aload_n 0, 1) := by decide +kernel
theorem d_RM_divide_133 : decode prog_6_method_35_code 133 = .ok (.invokevirtual 124, 3) := by decide +kernel
theorem d_RM_divide_136 : decode prog_6_method_35_code 136 = .ok (.ifCond .eq 7, 3) := by decide +kernel
theorem d_RM_divide_139 : decode prog_6_method_35_code 139 = .ok (.iconst 1, 1) := by decide +kernel
theorem d_RM_divide_140 : decode prog_6_method_35_code 140 = .ok (.goto 4, 3) := by decide +kernel
theorem d_RM_divide_143 : decode prog_6_method_35_code 143 = .ok (.iconst 0, 1) := by decide +kernel
theorem d_RM_divide_144 : decode prog_6_method_35_code 144 = .ok (.iastore, 1) := by decide +kernel
theorem d_RM_divide_145 : decode prog_6_method_35_code 145 = .ok (.return_, 1) := by decide +kernel
def RM_divide_144 (s0 : Int32) (s1 : Int32) (st : rm_S) : Option (rm_S) := (if ob_in s1 1024 = true then nm (rm_up st 6 s1.toNatClampNeg s0) (fun t144 => some t144) else none)
def RM_divide_113 (k85 : Int32 → Int32 → rm_S → Option (rm_S)) (L3 : Int32) (L4 : Int32) (st : rm_S) : Option (rm_S) := ob1 (RM_doubleRest st (0 : Int32)) (fun t115 => nm (L4 + (1 : Int32)) (fun x118 => k85 L3 x118 t115))
def RM_divide_85 : Nat → Int32 → Int32 → rm_S → Option (rm_S)
  | 0, _, _, _ => none
  | n + 1, L3, L4, st => (if (99 : Int32) ≤ L4 then ob1 (RM_isLeft st) (fun r133 => (if r133 = 0 then RM_divide_144 (0 : Int32) (L3 - (99 : Int32)) st else RM_divide_144 (1 : Int32) (L3 - (99 : Int32)) st)) else ob1 (RM_reaches st) (fun r93 => (if r93 = 0 then RM_divide_113 (RM_divide_85 n) L3 L4 st else ob1 (RM_takePart st) (fun t100 => (if ob_in (L3 - L4) 1024 = true then nm (rm_up t100 6 (L3 - L4).toNatClampNeg (1 : Int32)) (fun t112 => RM_divide_113 (RM_divide_85 n) L3 L4 t112) else none)))))
def RM_divide_57 (k2 : Int32 → Int32 → Int32 → rm_S → Option (rm_S)) (L1 : Int32) (L2 : Int32) (L3 : Int32) (s0 : Int32) (s1 : Int32) (st : rm_S) : Option (rm_S) := (if ob_in s1 104 = true then nm (rm_up st 9 s1.toNatClampNeg s0) (fun t57 => nm (L3 + (1 : Int32)) (fun x58 => k2 L1 L2 x58 t57)) else none)
def RM_divide_32 (k2 : Int32 → Int32 → Int32 → rm_S → Option (rm_S)) (L1 : Int32) (L2 : Int32) (L3 : Int32) (s0 : Int32) (s1 : Int32) (st : rm_S) : Option (rm_S) := (if ob_in s1 104 = true then nm (rm_up st 8 s1.toNatClampNeg s0) (fun t32 => (if (93 : Int32) ≤ L3 then RM_divide_57 k2 L1 L2 L3 (0 : Int32) L3 t32 else ob1 (RM_bitOf t32 L2 ((92 : Int32) - L3)) (fun r50 => RM_divide_57 k2 L1 L2 L3 r50 L3 t32))) else none)
def RM_divide_2 : Nat → Int32 → Int32 → Int32 → rm_S → Option (rm_S)
  | 0, _, _, _, _ => none
  | n + 1, L1, L2, L3, st => (if (104 : Int32) ≤ L3 then (if ob_in L1 8 = true then (if ob_in L2 8 = true then nm (((600 : Int32) + (st 4 L1.toNatClampNeg)) - (st 4 L2.toNatClampNeg)) (fun x81 => RM_divide_85 (2000) x81 (0 : Int32) st) else none) else none) else (if (93 : Int32) ≤ L3 then RM_divide_32 (RM_divide_2 n) L1 L2 L3 (0 : Int32) L3 st else ob1 (RM_bitOf st L1 ((92 : Int32) - L3)) (fun r25 => RM_divide_32 (RM_divide_2 n) L1 L2 L3 r25 L3 st)))
def RM_divide (st : rm_S) (p0 : Int32) (p1 : Int32) : Option (rm_S) := RM_divide_2 (2000) p0 p1 (0 : Int32) st
set_option maxHeartbeats 4000000 in
set_option maxRecDepth 100000 in
theorem c_RM_divide (l : Launch) {D : va_G} (a : Nat → Nat) (ci : ClassId) (hi : rm_inj a) (st : rm_S) (p0 : Int32) (p1 : Int32) (t0 : rm_S) (hF : RM_divide st p0 p1 = some t0) : ct_v l ⟨"RoundedNumbersModel", "divide", "(II)V"⟩ (.code ⟨"RoundedNumbersModel", "divide", "(II)V"⟩ prog_6_method_35_code 5 none :: ct_T) { frames := 1, cells := 0, slots := 0, locals := 23 } D vwCl (rm_T ci) (rm_g a ci) (rm_X a) [.ref (a 0), .int p0, .int p1] st t0 := by
  refine ct_v.mk (cc := prog_6_method_35_code) (maxL := 5) (by decide) rfl (Nat.le_of_ble_eq_true rfl) ?_
  intro p e s m below meth c hx hb hr hml hown hts hlk hK hN hP hS ls hl
  have hown : s.vm.findClass "RoundedNumbersModel" = some m.cls := hown
  have hl : lv_has ls 5 [(0, .ref (a 0)), (1, .int p0), (2, .int p1)] := hl
  have htb := fun w h => hts w (List.mem_cons_of_mem _ h)
  unfold RM_divide at hF
  refine lv_iconst (v := 0) hx hb d_RM_divide_0 (by decide) ?_
  refine lv_istore_n (lv' := [(3, .int (0 : Int32)), (0, .ref (a 0)), (1, .int p0), (2, .int p1)]) hx hb d_RM_divide_1 rfl hl (by decide) rfl (fun ls hl => ?_)
  refine ct_loop2 (fun n (w2L3 : Int32) (w2t : rm_S) ls H locs => lv_has ls 5 [(3, .int w2L3), (0, .ref (a 0)), (1, .int p0), (2, .int p1)] ∧ RM_divide_2 n p0 p1 w2L3 w2t = some t0 ∧ va_P D vwCl (rm_g a ci w2t) H ∧ va_S (ct_F (rm_X a) s.heap.size) s.heap H locs) 2 ?_ ?_ (2000) (0 : Int32) st ⟨lv_sub hl [0, 1, 2, 3] rfl, hF, hP, hS⟩
  · intro w2L3 w2t ls H locs hq
    obtain ⟨hl, hF, hP, hS⟩ := hq
    rw [RM_divide_2] at hF
    cases hF
  · intro n2 ih2 w2L3 w2t ls H locs hq
    obtain ⟨hl, hF, hP, hS⟩ := hq
    rw [RM_divide_2] at hF
    refine lv_iload_n hx hb d_RM_divide_2 rfl (lv_at hl 0 rfl) ?_
    refine lv_bipush (v := 104) hx hb d_RM_divide_3 (by decide) ?_
    refine lv_icmp_ge hx hb d_RM_divide_5 (tgt := 64) (by decide) (fun c5 => ?_) (fun c5 => ?_)
    · replace hF := (if_pos c5).symm.trans hF
      refine lv_sipush (v := 600) hx hb d_RM_divide_64 (by decide) ?_
      refine lv_aload_n hx hb d_RM_divide_67 rfl (lv_at hl 1 rfl) ?_
      refine gf_RM_19 hx hb htb hown hK hP d_RM_divide_68 ?_
      refine lv_iload_n hx hb d_RM_divide_71 rfl (lv_at hl 2 rfl) ?_
      obtain ⟨b72, hF⟩ := ob_if hF
      refine rm_ald hx hb hK hP (k := 4) (by decide) (by decide) (ob_vi b72) d_RM_divide_72 ?_
      refine lv_iadd hx hb d_RM_divide_73 ?_
      refine lv_aload_n hx hb d_RM_divide_74 rfl (lv_at hl 1 rfl) ?_
      refine gf_RM_19 hx hb htb hown hK hP d_RM_divide_75 ?_
      refine lv_iload_n hx hb d_RM_divide_78 rfl (lv_at hl 3 rfl) ?_
      obtain ⟨b79, hF⟩ := ob_if hF
      refine rm_ald hx hb hK hP (k := 4) (by decide) (by decide) (ob_vi b79) d_RM_divide_79 ?_
      refine lv_isub hx hb d_RM_divide_80 ?_
      refine lv_topi (fun x81 e81 => ?_)
      replace hF := (nm_eq e81.symm).symm.trans hF
      refine lv_istore_n (lv' := [(3, .int x81), (0, .ref (a 0)), (1, .int p0), (2, .int p1)]) hx hb d_RM_divide_81 rfl hl (by decide) rfl (fun ls hl => ?_)
      refine lv_iconst (v := 0) hx hb d_RM_divide_82 (by decide) ?_
      refine lv_istore (lv' := [(4, .int (0 : Int32)), (3, .int x81), (0, .ref (a 0)), (1, .int p0), (2, .int p1)]) hx hb d_RM_divide_83 hl (by decide) rfl (fun ls hl => ?_)
      refine ct_loop2 (fun n (w85L4 : Int32) (w85t : rm_S) ls H locs => lv_has ls 5 [(4, .int w85L4), (3, .int x81), (0, .ref (a 0))] ∧ RM_divide_85 n x81 w85L4 w85t = some t0 ∧ va_P D vwCl (rm_g a ci w85t) H ∧ va_S (ct_F (rm_X a) s.heap.size) s.heap H locs) 85 ?_ ?_ (2000) (0 : Int32) w2t ⟨lv_sub hl [0, 1, 2] rfl, hF, hP, hS⟩
      · intro w85L4 w85t ls H locs hq
        obtain ⟨hl, hF, hP, hS⟩ := hq
        rw [RM_divide_85] at hF
        cases hF
      · intro n85 ih85 w85L4 w85t ls H locs hq
        obtain ⟨hl, hF, hP, hS⟩ := hq
        rw [RM_divide_85] at hF
        refine lv_iload hx hb d_RM_divide_85 (lv_at hl 0 rfl) ?_
        refine lv_bipush (v := 99) hx hb d_RM_divide_87 (by decide) ?_
        refine lv_icmp_ge hx hb d_RM_divide_89 (tgt := 124) (by decide) (fun c89 => ?_) (fun c89 => ?_)
        · replace hF := (if_pos c89).symm.trans hF
          refine lv_aload_n hx hb d_RM_divide_124 rfl (lv_at hl 2 rfl) ?_
          refine gf_RM_25 hx hb htb hown hK hP d_RM_divide_125 ?_
          refine lv_iload_n hx hb d_RM_divide_128 rfl (lv_at hl 1 rfl) ?_
          refine lv_bipush (v := 99) hx hb d_RM_divide_129 (by decide) ?_
          refine lv_isub hx hb d_RM_divide_131 ?_
          refine lv_aload_n hx hb d_RM_divide_132 rfl (lv_at hl 2 rfl) ?_
          obtain ⟨r133, e133, hF⟩ := ob_one hF
          refine ct_calli (va_runV (As := []) (rest := [.int (x81 - (99 : Int32)), .ref (a 6)]) ⟨hx, hb, hml, hown, hts⟩ (c_RM_isLeft l (D := D) a ci hi w85t _ e133 _) (kc_RM_124 hts ⟨by decide, by decide⟩) ⟨ct_blind, rm_rc hK hP, ct_ok hP hK hN⟩ rfl rfl hl.1 rfl (lv_room (Nat.le_of_ble_eq_true rfl)) d_RM_divide_133 ⟨Nat.zero_le _, Nat.zero_le _⟩) hS (fun H locs hP hS => ?_)
          refine ct_cut1 (fun (j144s0 : Int32) ls H locs => lv_has ls 5 [] ∧ RM_divide_144 j144s0 (x81 - (99 : Int32)) w85t = some t0 ∧ va_P D vwCl (rm_g a ci w85t) H ∧ va_S (ct_F (rm_X a) s.heap.size) s.heap H locs) 144 (fun j144s0 => [.int j144s0, .int (x81 - (99 : Int32)), .ref (a 6)]) ?_ ?_
          · intro j144s0 ls H locs hq
            obtain ⟨hl, hF, hP, hS⟩ := hq
            unfold RM_divide_144 at hF
            obtain ⟨b144, hF⟩ := ob_if hF
            refine rm_ast hx hb hK hP hS hi (k := 6) (by decide) (by decide) (ob_vi b144) d_RM_divide_144 (fun H locs hP hS => ?_)
            obtain ⟨t144, e144, hP⟩ := nm_st hP
            replace hF := (nm_eq e144).symm.trans hF
            replace hF := Option.some.inj hF
            subst hF
            exact ct_vret hx hb hr hlk hP hS d_RM_divide_145
          · intro kj144
            refine lv_if_eq hx hb d_RM_divide_136 (tgt := 143) (by decide) (fun c136 => ?_) (fun c136 => ?_)
            · replace hF := (if_pos c136).symm.trans hF
              refine lv_iconst (v := 0) hx hb d_RM_divide_143 (by decide) ?_
              exact kj144 (0 : Int32) _ _ _ ⟨lv_sub hl [] rfl, hF, hP, hS⟩
            · replace hF := (if_neg c136).symm.trans hF
              refine lv_iconst (v := 1) hx hb d_RM_divide_139 (by decide) ?_
              refine lv_goto hx hb d_RM_divide_140 (tgt := 144) (by decide) ?_
              exact kj144 (1 : Int32) _ _ _ ⟨lv_sub hl [] rfl, hF, hP, hS⟩
        · replace hF := (if_neg c89).symm.trans hF
          refine lv_aload_n hx hb d_RM_divide_92 rfl (lv_at hl 2 rfl) ?_
          obtain ⟨r93, e93, hF⟩ := ob_one hF
          refine ct_calli (va_runV (As := []) (rest := []) ⟨hx, hb, hml, hown, hts⟩ (c_RM_reaches l (D := D) a ci hi w85t _ e93 _) (kc_RM_114 hts ⟨by decide, by decide⟩) ⟨ct_blind, rm_rc hK hP, ct_ok hP hK hN⟩ rfl rfl hl.1 rfl (lv_room (Nat.le_of_ble_eq_true rfl)) d_RM_divide_93 ⟨Nat.zero_le _, Nat.zero_le _⟩) hS (fun H locs hP hS => ?_)
          refine ct_cut1 (fun (j113t : rm_S) ls H locs => lv_has ls 5 [(4, .int w85L4), (3, .int x81), (0, .ref (a 0))] ∧ RM_divide_113 (RM_divide_85 n85) x81 w85L4 j113t = some t0 ∧ va_P D vwCl (rm_g a ci j113t) H ∧ va_S (ct_F (rm_X a) s.heap.size) s.heap H locs) 113 (fun j113t => []) ?_ ?_
          · intro j113t ls H locs hq
            obtain ⟨hl, hF, hP, hS⟩ := hq
            unfold RM_divide_113 at hF
            refine lv_aload_n hx hb d_RM_divide_113 rfl (lv_at hl 2 rfl) ?_
            refine lv_iconst (v := 0) hx hb d_RM_divide_114 (by decide) ?_
            obtain ⟨t115, e115, hF⟩ := ob_one hF
            refine ct_callv (va_runV (As := [.int (0 : Int32)]) (rest := []) ⟨hx, hb, hml, hown, hts⟩ (c_RM_doubleRest l (D := D) a ci hi j113t (0 : Int32) _ e115 _) (kc_RM_121 hts ⟨by decide, by decide⟩) ⟨ct_blind, rm_rc hK hP, ct_ok hP hK hN⟩ rfl rfl hl.1 rfl (lv_room (Nat.le_of_ble_eq_true rfl)) d_RM_divide_115 ⟨Nat.zero_le _, Nat.zero_le _⟩) hS (fun H locs hP hS => ?_)
            obtain ⟨x118, e118⟩ := nm_ex (w85L4 + (1 : Int32))
            replace hF := (nm_eq e118).symm.trans hF
            refine lv_iinc (v := x118) (lv' := [(4, .int x118), (3, .int x81), (0, .ref (a 0))]) hx hb d_RM_divide_118 hl (k := 0) rfl e118 (by decide) rfl (fun ls hl => ?_)
            refine lv_goto hx hb d_RM_divide_121 (tgt := 85) (by decide) ?_
            exact ih85 x118 t115 _ _ _ ⟨lv_sub hl [0, 1, 2] rfl, hF, hP, hS⟩
          · intro kj113
            refine lv_if_eq hx hb d_RM_divide_96 (tgt := 113) (by decide) (fun c96 => ?_) (fun c96 => ?_)
            · replace hF := (if_pos c96).symm.trans hF
              exact kj113 w85t _ _ _ ⟨lv_sub hl [0, 1, 2] rfl, hF, hP, hS⟩
            · replace hF := (if_neg c96).symm.trans hF
              refine lv_aload_n hx hb d_RM_divide_99 rfl (lv_at hl 2 rfl) ?_
              obtain ⟨t100, e100, hF⟩ := ob_one hF
              refine ct_callv (va_runV (As := []) (rest := []) ⟨hx, hb, hml, hown, hts⟩ (c_RM_takePart l (D := D) a ci hi w85t _ e100 _) (kc_RM_118 hts ⟨by decide, by decide⟩) ⟨ct_blind, rm_rc hK hP, ct_ok hP hK hN⟩ rfl rfl hl.1 rfl (lv_room (Nat.le_of_ble_eq_true rfl)) d_RM_divide_100 ⟨Nat.zero_le _, Nat.zero_le _⟩) hS (fun H locs hP hS => ?_)
              refine lv_aload_n hx hb d_RM_divide_103 rfl (lv_at hl 2 rfl) ?_
              refine gf_RM_25 hx hb htb hown hK hP d_RM_divide_104 ?_
              refine lv_iload_n hx hb d_RM_divide_107 rfl (lv_at hl 1 rfl) ?_
              refine lv_iload hx hb d_RM_divide_108 (lv_at hl 0 rfl) ?_
              refine lv_isub hx hb d_RM_divide_110 ?_
              refine lv_iconst (v := 1) hx hb d_RM_divide_111 (by decide) ?_
              obtain ⟨b112, hF⟩ := ob_if hF
              refine rm_ast hx hb hK hP hS hi (k := 6) (by decide) (by decide) (ob_vi b112) d_RM_divide_112 (fun H locs hP hS => ?_)
              obtain ⟨t112, e112, hP⟩ := nm_st hP
              replace hF := (nm_eq e112).symm.trans hF
              exact kj113 t112 _ _ _ ⟨lv_sub hl [0, 1, 2] rfl, hF, hP, hS⟩
    · replace hF := (if_neg c5).symm.trans hF
      refine lv_aload_n hx hb d_RM_divide_8 rfl (lv_at hl 1 rfl) ?_
      refine gf_RM_31 hx hb htb hown hK hP d_RM_divide_9 ?_
      refine lv_iload_n hx hb d_RM_divide_12 rfl (lv_at hl 0 rfl) ?_
      refine lv_iload_n hx hb d_RM_divide_13 rfl (lv_at hl 0 rfl) ?_
      refine lv_bipush (v := 93) hx hb d_RM_divide_14 (by decide) ?_
      refine ct_cut1 (fun (j32s0 : Int32) ls H locs => lv_has ls 5 [(3, .int w2L3), (0, .ref (a 0)), (1, .int p0), (2, .int p1)] ∧ RM_divide_32 (RM_divide_2 n2) p0 p1 w2L3 j32s0 w2L3 w2t = some t0 ∧ va_P D vwCl (rm_g a ci w2t) H ∧ va_S (ct_F (rm_X a) s.heap.size) s.heap H locs) 32 (fun j32s0 => [.int j32s0, .int w2L3, .ref (a 8)]) ?_ ?_
      · intro j32s0 ls H locs hq
        obtain ⟨hl, hF, hP, hS⟩ := hq
        unfold RM_divide_32 at hF
        obtain ⟨b32, hF⟩ := ob_if hF
        refine rm_ast hx hb hK hP hS hi (k := 8) (by decide) (by decide) (ob_vi b32) d_RM_divide_32 (fun H locs hP hS => ?_)
        obtain ⟨t32, e32, hP⟩ := nm_st hP
        replace hF := (nm_eq e32).symm.trans hF
        refine lv_aload_n hx hb d_RM_divide_33 rfl (lv_at hl 1 rfl) ?_
        refine gf_RM_34 hx hb htb hown hK hP d_RM_divide_34 ?_
        refine lv_iload_n hx hb d_RM_divide_37 rfl (lv_at hl 0 rfl) ?_
        refine lv_iload_n hx hb d_RM_divide_38 rfl (lv_at hl 0 rfl) ?_
        refine lv_bipush (v := 93) hx hb d_RM_divide_39 (by decide) ?_
        refine ct_cut1 (fun (j57s0 : Int32) ls H locs => lv_has ls 5 [(3, .int w2L3), (0, .ref (a 0)), (1, .int p0), (2, .int p1)] ∧ RM_divide_57 (RM_divide_2 n2) p0 p1 w2L3 j57s0 w2L3 t32 = some t0 ∧ va_P D vwCl (rm_g a ci t32) H ∧ va_S (ct_F (rm_X a) s.heap.size) s.heap H locs) 57 (fun j57s0 => [.int j57s0, .int w2L3, .ref (a 9)]) ?_ ?_
        · intro j57s0 ls H locs hq
          obtain ⟨hl, hF, hP, hS⟩ := hq
          unfold RM_divide_57 at hF
          obtain ⟨b57, hF⟩ := ob_if hF
          refine rm_ast hx hb hK hP hS hi (k := 9) (by decide) (by decide) (ob_vi b57) d_RM_divide_57 (fun H locs hP hS => ?_)
          obtain ⟨t57, e57, hP⟩ := nm_st hP
          replace hF := (nm_eq e57).symm.trans hF
          obtain ⟨x58, e58⟩ := nm_ex (w2L3 + (1 : Int32))
          replace hF := (nm_eq e58).symm.trans hF
          refine lv_iinc (v := x58) (lv' := [(3, .int x58), (0, .ref (a 0)), (1, .int p0), (2, .int p1)]) hx hb d_RM_divide_58 hl (k := 0) rfl e58 (by decide) rfl (fun ls hl => ?_)
          refine lv_goto hx hb d_RM_divide_61 (tgt := 2) (by decide) ?_
          exact ih2 x58 t57 _ _ _ ⟨lv_sub hl [0, 1, 2, 3] rfl, hF, hP, hS⟩
        · intro kj57
          refine lv_icmp_ge hx hb d_RM_divide_41 (tgt := 56) (by decide) (fun c41 => ?_) (fun c41 => ?_)
          · replace hF := (if_pos c41).symm.trans hF
            refine lv_iconst (v := 0) hx hb d_RM_divide_56 (by decide) ?_
            exact kj57 (0 : Int32) _ _ _ ⟨lv_sub hl [0, 1, 2, 3] rfl, hF, hP, hS⟩
          · replace hF := (if_neg c41).symm.trans hF
            refine lv_aload_n hx hb d_RM_divide_44 rfl (lv_at hl 1 rfl) ?_
            refine lv_iload_n hx hb d_RM_divide_45 rfl (lv_at hl 3 rfl) ?_
            refine lv_bipush (v := 92) hx hb d_RM_divide_46 (by decide) ?_
            refine lv_iload_n hx hb d_RM_divide_48 rfl (lv_at hl 0 rfl) ?_
            refine lv_isub hx hb d_RM_divide_49 ?_
            obtain ⟨r50, e50, hF⟩ := ob_one hF
            refine ct_calli (va_runV (As := [.int p1, .int ((92 : Int32) - w2L3)]) (rest := [.int w2L3, .ref (a 9)]) ⟨hx, hb, hml, hown, hts⟩ (c_RM_bitOf l (D := D) a ci hi t32 p1 ((92 : Int32) - w2L3) _ e50 _) (kc_RM_111 hts ⟨by decide, by decide⟩) ⟨ct_blind, rm_rc hK hP, ct_ok hP hK hN⟩ rfl rfl hl.1 rfl (lv_room (Nat.le_of_ble_eq_true rfl)) d_RM_divide_50 ⟨Nat.zero_le _, Nat.zero_le _⟩) hS (fun H locs hP hS => ?_)
            refine lv_goto hx hb d_RM_divide_53 (tgt := 57) (by decide) ?_
            exact kj57 r50 _ _ _ ⟨lv_sub hl [0, 1, 2, 3] rfl, hF, hP, hS⟩
      · intro kj32
        refine lv_icmp_ge hx hb d_RM_divide_16 (tgt := 31) (by decide) (fun c16 => ?_) (fun c16 => ?_)
        · replace hF := (if_pos c16).symm.trans hF
          refine lv_iconst (v := 0) hx hb d_RM_divide_31 (by decide) ?_
          exact kj32 (0 : Int32) _ _ _ ⟨lv_sub hl [0, 1, 2, 3] rfl, hF, hP, hS⟩
        · replace hF := (if_neg c16).symm.trans hF
          refine lv_aload_n hx hb d_RM_divide_19 rfl (lv_at hl 1 rfl) ?_
          refine lv_iload_n hx hb d_RM_divide_20 rfl (lv_at hl 2 rfl) ?_
          refine lv_bipush (v := 92) hx hb d_RM_divide_21 (by decide) ?_
          refine lv_iload_n hx hb d_RM_divide_23 rfl (lv_at hl 0 rfl) ?_
          refine lv_isub hx hb d_RM_divide_24 ?_
          obtain ⟨r25, e25, hF⟩ := ob_one hF
          refine ct_calli (va_runV (As := [.int p0, .int ((92 : Int32) - w2L3)]) (rest := [.int w2L3, .ref (a 8)]) ⟨hx, hb, hml, hown, hts⟩ (c_RM_bitOf l (D := D) a ci hi w2t p0 ((92 : Int32) - w2L3) _ e25 _) (kc_RM_111 hts ⟨by decide, by decide⟩) ⟨ct_blind, rm_rc hK hP, ct_ok hP hK hN⟩ rfl rfl hl.1 rfl (lv_room (Nat.le_of_ble_eq_true rfl)) d_RM_divide_25 ⟨Nat.zero_le _, Nat.zero_le _⟩) hS (fun H locs hP hS => ?_)
          refine lv_goto hx hb d_RM_divide_28 (tgt := 32) (by decide) ?_
          exact kj32 r25 _ _ _ ⟨lv_sub hl [0, 1, 2, 3] rfl, hF, hP, hS⟩
