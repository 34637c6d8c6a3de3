theorem d_RM_sum_0 : decode prog_6_method_24_code 0 = .ok (.aload_n 0, 1) := by decide +kernel
theorem d_RM_sum_1 : decode prog_6_method_24_code 1 = .ok (.getfield 13, 3) := by decide +kernel
theorem d_RM_sum_4 : decode prog_6_method_24_code 4 = .ok (.iload_n 2, 1) := by decide +kernel
theorem d_RM_sum_5 : decode prog_6_method_24_code 5 = .ok (.iaload, 1) := by decide +kernel
theorem d_RM_sum_6 : decode prog_6_method_24_code 6 = .ok (.istore 6, 2) := by decide +kernel
theorem d_RM_sum_8 : decode prog_6_method_24_code 8 = .ok (.aload_n 0, 1) := by decide +kernel
theorem d_RM_sum_9 : decode prog_6_method_24_code 9 = .ok (.getfield 13, 3) := by decide +kernel
theorem d_RM_sum_12 : decode prog_6_method_24_code 12 = .ok (.iload_n 3, 1) := by decide +kernel
theorem d_RM_sum_13 : decode prog_6_method_24_code 13 = .ok (.iaload, 1) := by decide +kernel
theorem d_RM_sum_14 : decode prog_6_method_24_code 14 = .ok (.istore 7, 2) := by decide +kernel
theorem d_RM_sum_16 : decode prog_6_method_24_code 16 = .ok (.iload 6, 2) := by decide +kernel
theorem d_RM_sum_18 : decode prog_6_method_24_code 18 = .ok (.ifCond .eq 31, 3) := by decide +kernel
theorem d_RM_sum_21 : decode prog_6_method_24_code 21 = .ok (.iload 7, 2) := by decide +kernel
theorem d_RM_sum_23 : decode prog_6_method_24_code 23 = .ok (.ifCond .eq 26, 3) := by decide +kernel
theorem d_RM_sum_26 : decode prog_6_method_24_code 26 = .ok (.iload 6, 2) := by decide +kernel
theorem d_RM_sum_28 : decode prog_6_method_24_code 28 = .ok (.iconst 1, 1) := by decide +kernel
theorem d_RM_sum_29 : decode prog_6_method_24_code 29 = .ok (.if_icmp .ne 28, 3) := by decide +kernel
theorem d_RM_sum_32 : decode prog_6_method_24_code 32 = .ok (.iload 7, 2) := by decide +kernel
theorem d_RM_sum_34 : decode prog_6_method_24_code 34 = .ok (.iconst 1, 1) := by decide +kernel
theorem d_RM_sum_35 : decode prog_6_method_24_code 35 = .ok (.if_icmp .ne 22, 3) := by decide +kernel
theorem d_RM_sum_38 : decode prog_6_method_24_code 38 = .ok (.aload_n 0, 1) := by decide +kernel
theorem d_RM_sum_39 : decode prog_6_method_24_code 39 = .ok (.getfield 16, 3) := by decide +kernel
theorem d_RM_sum_42 : decode prog_6_method_24_code 42 = .ok (.iload_n 2, 1) := by decide +kernel
theorem d_RM_sum_43 : decode prog_6_method_24_code 43 = .ok (.iaload, 1) := by decide +kernel
theorem d_RM_sum_44 : decode prog_6_method_24_code 44 = .ok (.iload 4, 2) := by decide +kernel
theorem d_RM_sum_46 : decode prog_6_method_24_code 46 = .ok (.if_icmp .eq 11, 3) := by decide +kernel
theorem d_RM_sum_49 : decode prog_6_method_24_code 49 = .ok (.aload_n 0, 1) := by decide +kernel
theorem d_RM_sum_50 : decode prog_6_method_24_code 50 = .ok (.iload_n 1, 1) := by decide +kernel
theorem d_RM_sum_51 : decode prog_6_method_24_code 51 = .ok (.iconst 0, 1) := by decide +kernel
theorem d_RM_sum_52 : decode prog_6_method_24_code 52 = .ok (.iconst 0, 1) := by decide +kernel
theorem d_RM_sum_53 : decode prog_6_method_24_code 53 = .ok (.invokevirtual 59, 3) := by decide +kernel
theorem d_RM_sum_56 : decode prog_6_method_24_code 56 = .ok (.ireturn, 1) := by decide +kernel
theorem d_RM_sum_57 : decode prog_6_method_24_code 57 = .ok (.iload 6, 2) := by decide +kernel
theorem d_RM_sum_59 : decode prog_6_method_24_code 59 = .ok (.iconst 1, 1) := by decide +kernel
theorem d_RM_sum_60 : decode prog_6_method_24_code 60 = .ok (.if_icmp .eq 9, 3) := by decide +kernel
theorem d_RM_sum_63 : decode prog_6_method_24_code 63 = .ok (.iload 7, 2) := by decide +kernel
theorem d_RM_sum_65 : decode prog_6_method_24_code 65 = .ok (.iconst 1, 1) := by decide +kernel
theorem d_RM_sum_66 : decode prog_6_method_24_code 66 = .ok (.if_icmp .ne 27, 3) := by decide +kernel
theorem d_RM_sum_69 : decode prog_6_method_24_code 69 = .ok (.aload_n 0, 1) := by decide +kernel
theorem d_RM_sum_70 : decode prog_6_method_24_code 70 = .ok (.iload_n 1, 1) := by decide +kernel
theorem d_RM_sum_71 : decode prog_6_method_24_code 71 = .ok (.iconst 1, 1) := by decide +kernel
theorem d_RM_sum_72 : decode prog_6_method_24_code 72 = .ok (.iload 6, 2) := by decide +kernel
theorem d_RM_sum_74 : decode prog_6_method_24_code 74 = .ok (.iconst 1, 1) := by decide +kernel
theorem d_RM_sum_75 : decode prog_6_method_24_code 75 = .ok (.if_icmp .ne 12, 3) := by decide +kernel
theorem d_RM_sum_78 : decode prog_6_method_24_code 78 = .ok (.aload_n 0, 1) := by decide +kernel
theorem d_RM_sum_79 : decode prog_6_method_24_code 79 = .ok (.getfield 16, 3) := by decide +kernel
theorem d_RM_sum_82 : decode prog_6_method_24_code 82 = .ok (.iload_n 2, 1) := by decide +kernel
theorem d_RM_sum_83 : decode prog_6_method_24_code 83 = .ok (.iaload, 1) := by decide +kernel
theorem d_RM_sum_84 : decode prog_6_method_24_code 84 = .ok (.goto 5, 3) := by decide +kernel
theorem d_RM_sum_87 : decode prog_6_method_24_code 87 = .ok (.iload 4, 2) := by decide +kernel
theorem d_RM_sum_89 : decode prog_6_method_24_code 89 = .ok (.invokevirtual 59, 3) := by decide +kernel
theorem d_RM_sum_92 : decode prog_6_method_24_code 92 = .ok (.ireturn, 1) := by decide +kernel
theorem d_RM_sum_93 : decode prog_6_method_24_code 93 = .ok (.iload 6, 2) := by decide +kernel
theorem d_RM_sum_95 : decode prog_6_method_24_code 95 = .ok (.iconst 2, 1) := by decide +kernel
theorem d_RM_sum_96 : decode prog_6_method_24_code 96 = .ok (.if_icmp .ne 39, 3) := by decide +kernel
theorem d_RM_sum_99 : decode prog_6_method_24_code 99 = .ok (.iload 7, 2) := by decide +kernel
theorem d_RM_sum_101 : decode prog_6_method_24_code 101 = .ok (.iconst 2, 1) := by decide +kernel
theorem d_RM_sum_102 : decode prog_6_method_24_code 102 = .ok (.if_icmp .ne 33, 3) := by decide +kernel
theorem d_RM_sum_105 : decode prog_6_method_24_code 105 = .ok (.aload_n 0, 1) := by decide +kernel
theorem d_RM_sum_106 : decode prog_6_method_24_code 106 = .ok (.getfield 16, 3) := by decide +kernel
theorem d_RM_sum_109 : decode prog_6_method_24_code 109 = .ok (.iload_n 2, 1) := by decide +kernel
theorem d_RM_sum_110 : decode prog_6_method_24_code 110 = .ok (.iaload, 1) := by decide +kernel
theorem d_RM_sum_111 : decode prog_6_method_24_code 111 = .ok (.iload 4, 2) := by decide +kernel
theorem d_RM_sum_113 : decode prog_6_method_24_code 113 = .ok (.if_icmp .ne 14, 3) := by decide +kernel
theorem d_RM_sum_116 : decode prog_6_method_24_code 116 = .ok (.aload_n 0, 1) := by decide +kernel
theorem d_RM_sum_117 : decode prog_6_method_24_code 117 = .ok (.iload_n 1, 1) := by decide +kernel
theorem d_RM_sum_118 : decode prog_6_method_24_code 118 = .ok (.iconst 2, 1) := by decide +kernel
theorem d_RM_sum_119 : decode prog_6_method_24_code 119 = .ok (.iload 4, 2) := by decide +kernel
theorem d_RM_sum_121 : decode prog_6_method_24_code 121 = .ok (.invokevirtual 59, 3) := by decide +kernel
theorem d_RM_sum_124 : decode prog_6_method_24_code 124 = .ok (.goto 10, 3) := by decide +kernel
theorem d_RM_sum_127 : decode prog_6_method_24_code 127 = .ok (.aload_n 0, 1) := by decide +kernel
theorem d_RM_sum_128 : decode prog_6_method_24_code 128 = .ok (.iload_n 1, 1) := by decide +kernel
theorem d_RM_sum_129 : decode prog_6_method_24_code 129 = .ok (.iload 5, 2) := by decide +kernel
theorem d_RM_sum_131 : decode prog_6_method_24_code 131 = .ok (.invokevirtual 94, 3) := by decide +kernel
theorem d_RM_sum_134 : decode prog_6_method_24_code 134 = .ok (.ireturn, 1) := by decide +kernel
theorem d_RM_sum_135 : decode prog_6_method_24_code 135 = .ok (.iload 6, 2) := by decide +kernel
theorem d_RM_sum_137 : decode prog_6_method_24_code 137 = .ok (.iconst 2, 1) := by decide +kernel
theorem d_RM_sum_138 : decode prog_6_method_24_code 138 = .ok (.if_icmp .ne 14, 3) := by decide +kernel
theorem d_RM_sum_141 : decode prog_6_method_24_code 141 = .ok (.aload_n 0, 1) := by decide +kernel
theorem d_RM_sum_142 : decode prog_6_method_24_code 142 = .ok (.iload_n 1, 1) := by decide +kernel
theorem d_RM_sum_143 : decode prog_6_method_24_code 143 = .ok (.iload_n 3, 1) := by decide +kernel
theorem d_RM_sum_144 : decode prog_6_method_24_code 144 = .ok (.iload 4, 2) := by decide +kernel
theorem d_RM_sum_146 : decode prog_6_method_24_code 146 = .ok (.iload 5, 2) := by decide +kernel
theorem d_RM_sum_148 : decode prog_6_method_24_code 148 = .ok (.invokevirtual 90, 3) := by decide +kernel
theorem d_RM_sum_151 : decode prog_6_method_24_code 151 = .ok (.ireturn, 1) := by decide +kernel
theorem d_RM_sum_152 : decode prog_6_method_24_code 152 = .ok (.iload 7, 2) := by decide +kernel
theorem d_RM_sum_154 : decode prog_6_method_24_code 154 = .ok (.iconst 2, 1) := by decide +kernel
theorem d_RM_sum_155 : decode prog_6_method_24_code 155 = .ok (.if_icmp .ne 18, 3) := by decide +kernel
theorem d_RM_sum_158 : decode prog_6_method_24_code 158 = .ok (.aload_n 0, 1) := by decide +kernel
theorem d_RM_sum_159 : decode prog_6_method_24_code 159 = .ok (.iload_n 1, 1) := by decide +kernel
theorem d_RM_sum_160 : decode prog_6_method_24_code 160 = .ok (.iload_n 2, 1) := by decide +kernel
theorem d_RM_sum_161 : decode prog_6_method_24_code 161 = .ok (.aload_n 0, 1) := by decide +kernel
theorem d_RM_sum_162 : decode prog_6_method_24_code 162 = .ok (.getfield 16, 3) := by decide +kernel
theorem d_RM_sum_165 : decode prog_6_method_24_code 165 = .ok (.iload_n 2, 1) := by decide +kernel
theorem d_RM_sum_166 : decode prog_6_method_24_code 166 = .ok (.iaload, 1) := by decide +kernel
theorem d_RM_sum_167 : decode prog_6_method_24_code 167 = .ok (.iload 5, 2) := by decide +kernel
theorem d_RM_sum_169 : decode prog_6_method_24_code 169 = .ok (.invokevirtual 90, 3) := by decide +kernel
theorem d_RM_sum_172 : decode prog_6_method_24_code 172 = .ok (.ireturn, 1) := by decide +kernel
theorem d_RM_sum_173 : decode prog_6_method_24_code 173 = .ok (.aload_n 0, 1) := by decide +kernel
theorem d_RM_sum_174 : decode prog_6_method_24_code 174 = .ok (.invokevirtual 80, 3) := by decide +kernel
theorem d_RM_sum_177 : decode prog_6_method_24_code 177 = .ok (.aload_n 0, 1) := by decide +kernel
theorem d_RM_sum_178 : decode prog_6_method_24_code 178 = .ok (.iload_n 2, 1) := by decide +kernel
theorem d_RM_sum_179 : decode prog_6_method_24_code 179 = .ok (.invokevirtual 86, 3) := by decide +kernel
theorem d_RM_sum_182 : decode prog_6_method_24_code 182 = .ok (.aload_n 0, 1) := by decide +kernel
theorem d_RM_sum_183 : decode prog_6_method_24_code 183 = .ok (.aload_n 0, 1) := by decide +kernel
theorem d_RM_sum_184 : decode prog_6_method_24_code 184 = .ok (.getfield 16, 3) := by decide +kernel
theorem d_RM_sum_187 : decode prog_6_method_24_code 187 = .ok (.iload_n 2, 1) := by decide +kernel
theorem d_RM_sum_188 : decode prog_6_method_24_code 188 = .ok (.iaload, 1) := by decide +kernel
theorem d_RM_sum_189 : decode prog_6_method_24_code 189 = .ok (.iload_n 3, 1) := by decide +kernel
theorem d_RM_sum_190 : decode prog_6_method_24_code 190 = .ok (.iload 4, 2) := by decide +kernel
theorem d_RM_sum_192 : decode prog_6_method_24_code 192 = .ok (.invokevirtual 97, 3) := by decide +kernel
theorem d_RM_sum_195 : decode prog_6_method_24_code 195 = .ok (.istore 8, 2) := by decide +kernel
theorem d_RM_sum_197 : decode prog_6_method_24_code 197 = .ok (.iload 8, 2) := by decide +kernel
theorem d_RM_sum_199 : decode prog_6_method_24_code 199 = .ok (.ifCond .ne 13, 3) := by decide +kernel
theorem d_RM_sum_202 : decode prog_6_method_24_code 202 = .ok (.aload_n 0, 1) := by decide +kernel
theorem d_RM_sum_203 : decode prog_6_method_24_code 203 = .ok (.iload_n 1, 1) := by decide +kernel
theorem d_RM_sum_204 : decode prog_6_method_24_code 204 = .ok (.iload 5, 2) := by decide +kernel
theorem d_RM_sum_206 : decode prog_6_method_24_code 206 = .ok (.invokevirtual 94, 3) := by decide +kernel
theorem d_RM_sum_209 : decode prog_6_method_24_code 209 = .ok (.goto 12, 3) := by decide +kernel
theorem d_RM_sum_212 : decode prog_6_method_24_code 212 = .ok (.aload_n 0, 1) := by decide +kernel
theorem d_RM_sum_213 : decode prog_6_method_24_code 213 = .ok (.iload_n 1, 1) := by decide +kernel
theorem d_RM_sum_214 : decode prog_6_method_24_code 214 = .ok (.iload 8, 2) := by decide +kernel
theorem d_RM_sum_216 : decode prog_6_method_24_code 216 = .ok (.iload 5, 2) := by decide +kernel
theorem d_RM_sum_218 : decode prog_6_method_24_code 218 = .ok (.invokevirtual 83, 3) := by decide +kernel
theorem d_RM_sum_221 : decode prog_6_method_24_code 221 = .ok (.ireturn, 1) := by decide +kernel
def RM_sum_49 (L1 : Int32) (st : rm_S) : Option (Int32 × rm_S) := ob2 (RM_keep st L1 (0 : Int32) (0 : Int32)) (fun r53 t53 => some (r53, t53))
def RM_sum_89 (s0 : Int32) (s1 : Int32) (s2 : Int32) (st : rm_S) : Option (Int32 × rm_S) := ob2 (RM_keep st s2 s1 s0) (fun r89 t89 => some (r89, t89))
def RM_sum_69 (L1 : Int32) (L2 : Int32) (L4 : Int32) (L6 : Int32) (st : rm_S) : Option (Int32 × rm_S) := (if L6 = (1 : Int32) then (if ob_in L2 8 = true then RM_sum_89 (st 3 L2.toNatClampNeg) (1 : Int32) L1 st else none) else RM_sum_89 L4 (1 : Int32) L1 st)
def RM_sum_135 (L1 : Int32) (L2 : Int32) (L3 : Int32) (L4 : Int32) (L5 : Int32) (L6 : Int32) (L7 : Int32) (st : rm_S) : Option (Int32 × rm_S) := (if L6 = (2 : Int32) then ob2 (RM_move st L1 L3 L4 L5) (fun r148 t148 => some (r148, t148)) else (if L7 = (2 : Int32) then (if ob_in L2 8 = true then ob2 (RM_move st L1 L2 (st 3 L2.toNatClampNeg) L5) (fun r169 t169 => some (r169, t169)) else none) else ob1 (RM_clear st) (fun t174 => ob1 (RM_put t174 L2) (fun t179 => (if ob_in L2 8 = true then ob2 (RM_sumWith t179 (t179 3 L2.toNatClampNeg) L3 L4) (fun r192 t192 => (if r192 = 0 then ob2 (RM_nothing t192 L1 L5) (fun r206 t206 => some (r206, t206)) else ob2 (RM_round t192 L1 r192 L5) (fun r218 t218 => some (r218, t218)))) else none)))))
def RM_sum_57 (L1 : Int32) (L2 : Int32) (L3 : Int32) (L4 : Int32) (L5 : Int32) (L6 : Int32) (L7 : Int32) (st : rm_S) : Option (Int32 × rm_S) := (if L6 = (1 : Int32) then RM_sum_69 L1 L2 L4 L6 st else (if L7 = (1 : Int32) then RM_sum_69 L1 L2 L4 L6 st else (if L6 = (2 : Int32) then (if L7 = (2 : Int32) then (if ob_in L2 8 = true then (if (st 3 L2.toNatClampNeg) = L4 then ob2 (RM_keep st L1 (2 : Int32) L4) (fun r121 t121 => some (r121, t121)) else ob2 (RM_nothing st L1 L5) (fun r131 t131 => some (r131, t131))) else none) else RM_sum_135 L1 L2 L3 L4 L5 L6 L7 st) else RM_sum_135 L1 L2 L3 L4 L5 L6 L7 st)))
def RM_sum (st : rm_S) (p0 : Int32) (p1 : Int32) (p2 : Int32) (p3 : Int32) (p4 : Int32) : Option (Int32 × rm_S) := (if ob_in p1 8 = true then nm (st 2 p1.toNatClampNeg) (fun x6 => (if ob_in p2 8 = true then nm (st 2 p2.toNatClampNeg) (fun x14 => (if x6 = 0 then RM_sum_49 p0 st else (if x14 = 0 then RM_sum_49 p0 st else (if x6 = (1 : Int32) then (if x14 = (1 : Int32) then (if ob_in p1 8 = true then (if (st 3 p1.toNatClampNeg) = p3 then RM_sum_57 p0 p1 p2 p3 p4 x6 x14 st else RM_sum_49 p0 st) else none) else RM_sum_57 p0 p1 p2 p3 p4 x6 x14 st) else RM_sum_57 p0 p1 p2 p3 p4 x6 x14 st)))) else none)) else none)
set_option maxHeartbeats 4000000 in
set_option maxRecDepth 100000 in
theorem c_RM_sum (l : Launch) {D : va_G} (a : Nat → Nat) (ci : ClassId) (hi : rm_inj a) (st : rm_S) (p0 : Int32) (p1 : Int32) (p2 : Int32) (p3 : Int32) (p4 : Int32) (r0 : Int32) (t0 : rm_S) (hF : RM_sum st p0 p1 p2 p3 p4 = some (r0, t0)) : ct_i l ⟨"RoundedNumbersModel", "sum", "(IIIII)I"⟩ (.code ⟨"RoundedNumbersModel", "sum", "(IIIII)I"⟩ prog_6_method_24_code 9 (some .int) :: ct_T) { frames := 4, cells := 0, slots := 0, locals := 105 } D vwCl (rm_T ci) (rm_g a ci) (rm_X a) [.ref (a 0), .int p0, .int p1, .int p2, .int p3, .int p4] st r0 t0 := by
  refine ct_i.mk (cc := prog_6_method_24_code) (maxL := 9) (by decide) rfl (Nat.le_of_ble_eq_true rfl) ?_
  intro p e s m below meth c hx hb hr hml hown hts hlk hK hN hP hS ls hl
  have hown : s.vm.findClass "RoundedNumbersModel" = some m.cls := hown
  have hl : lv_has ls 9 [(0, .ref (a 0)), (1, .int p0), (2, .int p1), (3, .int p2), (4, .int p3), (5, .int p4)] := hl
  have htb := fun w h => hts w (List.mem_cons_of_mem _ h)
  unfold RM_sum at hF
  refine lv_aload_n hx hb d_RM_sum_0 rfl (lv_at hl 0 rfl) ?_
  refine gf_RM_13 hx hb htb hown hK hP d_RM_sum_1 ?_
  refine lv_iload_n hx hb d_RM_sum_4 rfl (lv_at hl 2 rfl) ?_
  obtain ⟨b5, hF⟩ := ob_if hF
  refine rm_ald hx hb hK hP (k := 2) (by decide) (by decide) (ob_vi b5) d_RM_sum_5 ?_
  refine lv_topi (fun x6 e6 => ?_)
  replace hF := (nm_eq e6.symm).symm.trans hF
  refine lv_istore (lv' := [(6, .int x6), (0, .ref (a 0)), (1, .int p0), (2, .int p1), (3, .int p2), (4, .int p3), (5, .int p4)]) hx hb d_RM_sum_6 hl (by decide) rfl (fun ls hl => ?_)
  refine lv_aload_n hx hb d_RM_sum_8 rfl (lv_at hl 1 rfl) ?_
  refine gf_RM_13 hx hb htb hown hK hP d_RM_sum_9 ?_
  refine lv_iload_n hx hb d_RM_sum_12 rfl (lv_at hl 4 rfl) ?_
  obtain ⟨b13, hF⟩ := ob_if hF
  refine rm_ald hx hb hK hP (k := 2) (by decide) (by decide) (ob_vi b13) d_RM_sum_13 ?_
  refine lv_topi (fun x14 e14 => ?_)
  replace hF := (nm_eq e14.symm).symm.trans hF
  refine lv_istore (lv' := [(7, .int x14), (6, .int x6), (0, .ref (a 0)), (1, .int p0), (2, .int p1), (3, .int p2), (4, .int p3), (5, .int p4)]) hx hb d_RM_sum_14 hl (by decide) rfl (fun ls hl => ?_)
  refine lv_iload hx hb d_RM_sum_16 (lv_at hl 1 rfl) ?_
  refine ct_cut0 (fun  ls H locs => lv_has ls 9 [(0, .ref (a 0)), (1, .int p0)] ∧ RM_sum_49 p0 st = some (r0, t0) ∧ va_P D vwCl (rm_g a ci st) H ∧ va_S (ct_F (rm_X a) s.heap.size) s.heap H locs) 49 [] ?_ ?_
  · intro ls H locs hq
    obtain ⟨hl, hF, hP, hS⟩ := hq
    unfold RM_sum_49 at hF
    refine lv_aload_n hx hb d_RM_sum_49 rfl (lv_at hl 0 rfl) ?_
    refine lv_iload_n hx hb d_RM_sum_50 rfl (lv_at hl 1 rfl) ?_
    refine lv_iconst (v := 0) hx hb d_RM_sum_51 (by decide) ?_
    refine lv_iconst (v := 0) hx hb d_RM_sum_52 (by decide) ?_
    obtain ⟨r53, t53, e53, hF⟩ := ob_two hF
    refine ct_calli (va_runV (As := [.int p0, .int (0 : Int32), .int (0 : Int32)]) (rest := []) ⟨hx, hb, hml, hown, hts⟩ (c_RM_keep l (D := D) a ci hi st p0 (0 : Int32) (0 : Int32) _ _ e53 _) (kc_RM_59 hts ⟨by decide, by decide⟩) ⟨ct_blind, rm_rc hK hP, ct_ok hP hK hN⟩ rfl rfl hl.1 rfl (lv_room (Nat.le_of_ble_eq_true rfl)) d_RM_sum_53 ⟨Nat.zero_le _, Nat.zero_le _⟩) hS (fun H locs hP hS => ?_)
    replace hF := Option.some.inj hF
    obtain ⟨rfl, rfl⟩ := Prod.mk.inj hF
    exact ct_iret hx hb hr hlk hP hS d_RM_sum_56
  · intro kj49
    refine lv_if_eq hx hb d_RM_sum_18 (tgt := 49) (by decide) (fun c18 => ?_) (fun c18 => ?_)
    · replace hF := (if_pos c18).symm.trans hF
      exact kj49 _ _ _ ⟨lv_sub hl [2, 3] rfl, hF, hP, hS⟩
    · replace hF := (if_neg c18).symm.trans hF
      refine lv_iload hx hb d_RM_sum_21 (lv_at hl 0 rfl) ?_
      refine lv_if_eq hx hb d_RM_sum_23 (tgt := 49) (by decide) (fun c23 => ?_) (fun c23 => ?_)
      · replace hF := (if_pos c23).symm.trans hF
        exact kj49 _ _ _ ⟨lv_sub hl [2, 3] rfl, hF, hP, hS⟩
      · replace hF := (if_neg c23).symm.trans hF
        refine lv_iload hx hb d_RM_sum_26 (lv_at hl 1 rfl) ?_
        refine lv_iconst (v := 1) hx hb d_RM_sum_28 (by decide) ?_
        refine ct_cut0 (fun  ls H locs => lv_has ls 9 [(7, .int x14), (6, .int x6), (0, .ref (a 0)), (1, .int p0), (2, .int p1), (3, .int p2), (4, .int p3), (5, .int p4)] ∧ RM_sum_57 p0 p1 p2 p3 p4 x6 x14 st = some (r0, t0) ∧ va_P D vwCl (rm_g a ci st) H ∧ va_S (ct_F (rm_X a) s.heap.size) s.heap H locs) 57 [] ?_ ?_
        · intro ls H locs hq
          obtain ⟨hl, hF, hP, hS⟩ := hq
          unfold RM_sum_57 at hF
          refine lv_iload hx hb d_RM_sum_57 (lv_at hl 1 rfl) ?_
          refine lv_iconst (v := 1) hx hb d_RM_sum_59 (by decide) ?_
          refine ct_cut0 (fun  ls H locs => lv_has ls 9 [(6, .int x6), (0, .ref (a 0)), (1, .int p0), (2, .int p1), (4, .int p3)] ∧ RM_sum_69 p0 p1 p3 x6 st = some (r0, t0) ∧ va_P D vwCl (rm_g a ci st) H ∧ va_S (ct_F (rm_X a) s.heap.size) s.heap H locs) 69 [] ?_ ?_
          · intro ls H locs hq
            obtain ⟨hl, hF, hP, hS⟩ := hq
            unfold RM_sum_69 at hF
            refine lv_aload_n hx hb d_RM_sum_69 rfl (lv_at hl 1 rfl) ?_
            refine lv_iload_n hx hb d_RM_sum_70 rfl (lv_at hl 2 rfl) ?_
            refine lv_iconst (v := 1) hx hb d_RM_sum_71 (by decide) ?_
            refine lv_iload hx hb d_RM_sum_72 (lv_at hl 0 rfl) ?_
            refine lv_iconst (v := 1) hx hb d_RM_sum_74 (by decide) ?_
            refine ct_cut1 (fun (j89s0 : Int32) ls H locs => lv_has ls 9 [] ∧ RM_sum_89 j89s0 (1 : Int32) p0 st = some (r0, t0) ∧ va_P D vwCl (rm_g a ci st) H ∧ va_S (ct_F (rm_X a) s.heap.size) s.heap H locs) 89 (fun j89s0 => [.int j89s0, .int (1 : Int32), .int p0, .ref (a 0)]) ?_ ?_
            · intro j89s0 ls H locs hq
              obtain ⟨hl, hF, hP, hS⟩ := hq
              unfold RM_sum_89 at hF
              obtain ⟨r89, t89, e89, hF⟩ := ob_two hF
              refine ct_calli (va_runV (As := [.int p0, .int (1 : Int32), .int j89s0]) (rest := []) ⟨hx, hb, hml, hown, hts⟩ (c_RM_keep l (D := D) a ci hi st p0 (1 : Int32) j89s0 _ _ e89 _) (kc_RM_59 hts ⟨by decide, by decide⟩) ⟨ct_blind, rm_rc hK hP, ct_ok hP hK hN⟩ rfl rfl hl.1 rfl (lv_room (Nat.le_of_ble_eq_true rfl)) d_RM_sum_89 ⟨Nat.zero_le _, Nat.zero_le _⟩) hS (fun H locs hP hS => ?_)
              replace hF := Option.some.inj hF
              obtain ⟨rfl, rfl⟩ := Prod.mk.inj hF
              exact ct_iret hx hb hr hlk hP hS d_RM_sum_92
            · intro kj89
              refine lv_icmp_ne hx hb d_RM_sum_75 (tgt := 87) (by decide) (fun c75 => ?_) (fun c75 => ?_)
              · replace hF := (if_neg c75).symm.trans hF
                refine lv_iload hx hb d_RM_sum_87 (lv_at hl 4 rfl) ?_
                exact kj89 p3 _ _ _ ⟨lv_sub hl [] rfl, hF, hP, hS⟩
              · replace hF := (if_pos c75).symm.trans hF
                refine lv_aload_n hx hb d_RM_sum_78 rfl (lv_at hl 1 rfl) ?_
                refine gf_RM_16 hx hb htb hown hK hP d_RM_sum_79 ?_
                refine lv_iload_n hx hb d_RM_sum_82 rfl (lv_at hl 3 rfl) ?_
                obtain ⟨b83, hF⟩ := ob_if hF
                refine rm_ald hx hb hK hP (k := 3) (by decide) (by decide) (ob_vi b83) d_RM_sum_83 ?_
                refine lv_goto hx hb d_RM_sum_84 (tgt := 89) (by decide) ?_
                exact kj89 (st 3 p1.toNatClampNeg) _ _ _ ⟨lv_sub hl [] rfl, hF, hP, hS⟩
          · intro kj69
            refine lv_icmp_eq hx hb d_RM_sum_60 (tgt := 69) (by decide) (fun c60 => ?_) (fun c60 => ?_)
            · replace hF := (if_pos c60).symm.trans hF
              exact kj69 _ _ _ ⟨lv_sub hl [1, 2, 3, 4, 6] rfl, hF, hP, hS⟩
            · replace hF := (if_neg c60).symm.trans hF
              refine lv_iload hx hb d_RM_sum_63 (lv_at hl 0 rfl) ?_
              refine lv_iconst (v := 1) hx hb d_RM_sum_65 (by decide) ?_
              refine lv_icmp_ne hx hb d_RM_sum_66 (tgt := 93) (by decide) (fun c66 => ?_) (fun c66 => ?_)
              · replace hF := (if_neg c66).symm.trans hF
                refine lv_iload hx hb d_RM_sum_93 (lv_at hl 1 rfl) ?_
                refine lv_iconst (v := 2) hx hb d_RM_sum_95 (by decide) ?_
                refine ct_cut0 (fun  ls H locs => lv_has ls 9 [(7, .int x14), (6, .int x6), (0, .ref (a 0)), (1, .int p0), (2, .int p1), (3, .int p2), (4, .int p3), (5, .int p4)] ∧ RM_sum_135 p0 p1 p2 p3 p4 x6 x14 st = some (r0, t0) ∧ va_P D vwCl (rm_g a ci st) H ∧ va_S (ct_F (rm_X a) s.heap.size) s.heap H locs) 135 [] ?_ ?_
                · intro ls H locs hq
                  obtain ⟨hl, hF, hP, hS⟩ := hq
                  unfold RM_sum_135 at hF
                  refine lv_iload hx hb d_RM_sum_135 (lv_at hl 1 rfl) ?_
                  refine lv_iconst (v := 2) hx hb d_RM_sum_137 (by decide) ?_
                  refine lv_icmp_ne hx hb d_RM_sum_138 (tgt := 152) (by decide) (fun c138 => ?_) (fun c138 => ?_)
                  · replace hF := (if_neg c138).symm.trans hF
                    refine lv_iload hx hb d_RM_sum_152 (lv_at hl 0 rfl) ?_
                    refine lv_iconst (v := 2) hx hb d_RM_sum_154 (by decide) ?_
                    refine lv_icmp_ne hx hb d_RM_sum_155 (tgt := 173) (by decide) (fun c155 => ?_) (fun c155 => ?_)
                    · replace hF := (if_neg c155).symm.trans hF
                      refine lv_aload_n hx hb d_RM_sum_173 rfl (lv_at hl 2 rfl) ?_
                      obtain ⟨t174, e174, hF⟩ := ob_one hF
                      refine ct_callv (va_runV (As := []) (rest := []) ⟨hx, hb, hml, hown, hts⟩ (c_RM_clear l (D := D) a ci hi st _ e174 _) (kc_RM_80 hts ⟨by decide, by decide⟩) ⟨ct_blind, rm_rc hK hP, ct_ok hP hK hN⟩ rfl rfl hl.1 rfl (lv_room (Nat.le_of_ble_eq_true rfl)) d_RM_sum_174 ⟨Nat.zero_le _, Nat.zero_le _⟩) hS (fun H locs hP hS => ?_)
                      refine lv_aload_n hx hb d_RM_sum_177 rfl (lv_at hl 2 rfl) ?_
                      refine lv_iload_n hx hb d_RM_sum_178 rfl (lv_at hl 4 rfl) ?_
                      obtain ⟨t179, e179, hF⟩ := ob_one hF
                      refine ct_callv (va_runV (As := [.int p1]) (rest := []) ⟨hx, hb, hml, hown, hts⟩ (c_RM_put l (D := D) a ci hi t174 p1 _ e179 _) (kc_RM_86 hts ⟨by decide, by decide⟩) ⟨ct_blind, rm_rc hK hP, ct_ok hP hK hN⟩ rfl rfl hl.1 rfl (lv_room (Nat.le_of_ble_eq_true rfl)) d_RM_sum_179 ⟨Nat.zero_le _, Nat.zero_le _⟩) hS (fun H locs hP hS => ?_)
                      refine lv_aload_n hx hb d_RM_sum_182 rfl (lv_at hl 2 rfl) ?_
                      refine lv_aload_n hx hb d_RM_sum_183 rfl (lv_at hl 2 rfl) ?_
                      refine gf_RM_16 hx hb htb hown hK hP d_RM_sum_184 ?_
                      refine lv_iload_n hx hb d_RM_sum_187 rfl (lv_at hl 4 rfl) ?_
                      obtain ⟨b188, hF⟩ := ob_if hF
                      refine rm_ald hx hb hK hP (k := 3) (by decide) (by decide) (ob_vi b188) d_RM_sum_188 ?_
                      refine lv_iload_n hx hb d_RM_sum_189 rfl (lv_at hl 5 rfl) ?_
                      refine lv_iload hx hb d_RM_sum_190 (lv_at hl 6 rfl) ?_
                      obtain ⟨r192, t192, e192, hF⟩ := ob_two hF
                      refine ct_calli (va_runV (As := [.int (t179 3 p1.toNatClampNeg), .int p2, .int p3]) (rest := []) ⟨hx, hb, hml, hown, hts⟩ (c_RM_sumWith l (D := D) a ci hi t179 (t179 3 p1.toNatClampNeg) p2 p3 _ _ e192 _) (kc_RM_97 hts ⟨by decide, by decide⟩) ⟨ct_blind, rm_rc hK hP, ct_ok hP hK hN⟩ rfl rfl hl.1 rfl (lv_room (Nat.le_of_ble_eq_true rfl)) d_RM_sum_192 ⟨Nat.zero_le _, Nat.zero_le _⟩) hS (fun H locs hP hS => ?_)
                      refine lv_istore (lv' := [(8, .int r192), (7, .int x14), (6, .int x6), (0, .ref (a 0)), (1, .int p0), (2, .int p1), (3, .int p2), (4, .int p3), (5, .int p4)]) hx hb d_RM_sum_195 hl (by decide) rfl (fun ls hl => ?_)
                      refine lv_iload hx hb d_RM_sum_197 (lv_at hl 0 rfl) ?_
                      refine lv_if_ne hx hb d_RM_sum_199 (tgt := 212) (by decide) (fun c199 => ?_) (fun c199 => ?_)
                      · replace hF := (if_neg c199).symm.trans hF
                        refine lv_aload_n hx hb d_RM_sum_212 rfl (lv_at hl 3 rfl) ?_
                        refine lv_iload_n hx hb d_RM_sum_213 rfl (lv_at hl 4 rfl) ?_
                        refine lv_iload hx hb d_RM_sum_214 (lv_at hl 0 rfl) ?_
                        refine lv_iload hx hb d_RM_sum_216 (lv_at hl 8 rfl) ?_
                        obtain ⟨r218, t218, e218, hF⟩ := ob_two hF
                        refine ct_calli (va_runV (As := [.int p0, .int r192, .int p4]) (rest := []) ⟨hx, hb, hml, hown, hts⟩ (c_RM_round l (D := D) a ci hi t192 p0 r192 p4 _ _ e218 _) (kc_RM_83 hts ⟨by decide, by decide⟩) ⟨ct_blind, rm_rc hK hP, ct_ok hP hK hN⟩ rfl rfl hl.1 rfl (lv_room (Nat.le_of_ble_eq_true rfl)) d_RM_sum_218 ⟨Nat.zero_le _, Nat.zero_le _⟩) hS (fun H locs hP hS => ?_)
                        replace hF := Option.some.inj hF
                        obtain ⟨rfl, rfl⟩ := Prod.mk.inj hF
                        exact ct_iret hx hb hr hlk hP hS d_RM_sum_221
                      · replace hF := (if_pos c199).symm.trans hF
                        refine lv_aload_n hx hb d_RM_sum_202 rfl (lv_at hl 3 rfl) ?_
                        refine lv_iload_n hx hb d_RM_sum_203 rfl (lv_at hl 4 rfl) ?_
                        refine lv_iload hx hb d_RM_sum_204 (lv_at hl 8 rfl) ?_
                        obtain ⟨r206, t206, e206, hF⟩ := ob_two hF
                        refine ct_calli (va_runV (As := [.int p0, .int p4]) (rest := []) ⟨hx, hb, hml, hown, hts⟩ (c_RM_nothing l (D := D) a ci hi t192 p0 p4 _ _ e206 _) (kc_RM_94 hts ⟨by decide, by decide⟩) ⟨ct_blind, rm_rc hK hP, ct_ok hP hK hN⟩ rfl rfl hl.1 rfl (lv_room (Nat.le_of_ble_eq_true rfl)) d_RM_sum_206 ⟨Nat.zero_le _, Nat.zero_le _⟩) hS (fun H locs hP hS => ?_)
                        refine lv_goto hx hb d_RM_sum_209 (tgt := 221) (by decide) ?_
                        replace hF := Option.some.inj hF
                        obtain ⟨rfl, rfl⟩ := Prod.mk.inj hF
                        exact ct_iret hx hb hr hlk hP hS d_RM_sum_221
                    · replace hF := (if_pos c155).symm.trans hF
                      refine lv_aload_n hx hb d_RM_sum_158 rfl (lv_at hl 2 rfl) ?_
                      refine lv_iload_n hx hb d_RM_sum_159 rfl (lv_at hl 3 rfl) ?_
                      refine lv_iload_n hx hb d_RM_sum_160 rfl (lv_at hl 4 rfl) ?_
                      refine lv_aload_n hx hb d_RM_sum_161 rfl (lv_at hl 2 rfl) ?_
                      refine gf_RM_16 hx hb htb hown hK hP d_RM_sum_162 ?_
                      refine lv_iload_n hx hb d_RM_sum_165 rfl (lv_at hl 4 rfl) ?_
                      obtain ⟨b166, hF⟩ := ob_if hF
                      refine rm_ald hx hb hK hP (k := 3) (by decide) (by decide) (ob_vi b166) d_RM_sum_166 ?_
                      refine lv_iload hx hb d_RM_sum_167 (lv_at hl 7 rfl) ?_
                      obtain ⟨r169, t169, e169, hF⟩ := ob_two hF
                      refine ct_calli (va_runV (As := [.int p0, .int p1, .int (st 3 p1.toNatClampNeg), .int p4]) (rest := []) ⟨hx, hb, hml, hown, hts⟩ (c_RM_move l (D := D) a ci hi st p0 p1 (st 3 p1.toNatClampNeg) p4 _ _ e169 _) (kc_RM_90 hts ⟨by decide, by decide⟩) ⟨ct_blind, rm_rc hK hP, ct_ok hP hK hN⟩ rfl rfl hl.1 rfl (lv_room (Nat.le_of_ble_eq_true rfl)) d_RM_sum_169 ⟨Nat.zero_le _, Nat.zero_le _⟩) hS (fun H locs hP hS => ?_)
                      replace hF := Option.some.inj hF
                      obtain ⟨rfl, rfl⟩ := Prod.mk.inj hF
                      exact ct_iret hx hb hr hlk hP hS d_RM_sum_172
                  · replace hF := (if_pos c138).symm.trans hF
                    refine lv_aload_n hx hb d_RM_sum_141 rfl (lv_at hl 2 rfl) ?_
                    refine lv_iload_n hx hb d_RM_sum_142 rfl (lv_at hl 3 rfl) ?_
                    refine lv_iload_n hx hb d_RM_sum_143 rfl (lv_at hl 5 rfl) ?_
                    refine lv_iload hx hb d_RM_sum_144 (lv_at hl 6 rfl) ?_
                    refine lv_iload hx hb d_RM_sum_146 (lv_at hl 7 rfl) ?_
                    obtain ⟨r148, t148, e148, hF⟩ := ob_two hF
                    refine ct_calli (va_runV (As := [.int p0, .int p2, .int p3, .int p4]) (rest := []) ⟨hx, hb, hml, hown, hts⟩ (c_RM_move l (D := D) a ci hi st p0 p2 p3 p4 _ _ e148 _) (kc_RM_90 hts ⟨by decide, by decide⟩) ⟨ct_blind, rm_rc hK hP, ct_ok hP hK hN⟩ rfl rfl hl.1 rfl (lv_room (Nat.le_of_ble_eq_true rfl)) d_RM_sum_148 ⟨Nat.zero_le _, Nat.zero_le _⟩) hS (fun H locs hP hS => ?_)
                    replace hF := Option.some.inj hF
                    obtain ⟨rfl, rfl⟩ := Prod.mk.inj hF
                    exact ct_iret hx hb hr hlk hP hS d_RM_sum_151
                · intro kj135
                  refine lv_icmp_ne hx hb d_RM_sum_96 (tgt := 135) (by decide) (fun c96 => ?_) (fun c96 => ?_)
                  · replace hF := (if_neg c96).symm.trans hF
                    exact kj135 _ _ _ ⟨lv_sub hl [0, 1, 2, 3, 4, 5, 6, 7] rfl, hF, hP, hS⟩
                  · replace hF := (if_pos c96).symm.trans hF
                    refine lv_iload hx hb d_RM_sum_99 (lv_at hl 0 rfl) ?_
                    refine lv_iconst (v := 2) hx hb d_RM_sum_101 (by decide) ?_
                    refine lv_icmp_ne hx hb d_RM_sum_102 (tgt := 135) (by decide) (fun c102 => ?_) (fun c102 => ?_)
                    · replace hF := (if_neg c102).symm.trans hF
                      exact kj135 _ _ _ ⟨lv_sub hl [0, 1, 2, 3, 4, 5, 6, 7] rfl, hF, hP, hS⟩
                    · replace hF := (if_pos c102).symm.trans hF
                      refine lv_aload_n hx hb d_RM_sum_105 rfl (lv_at hl 2 rfl) ?_
                      refine gf_RM_16 hx hb htb hown hK hP d_RM_sum_106 ?_
                      refine lv_iload_n hx hb d_RM_sum_109 rfl (lv_at hl 4 rfl) ?_
                      obtain ⟨b110, hF⟩ := ob_if hF
                      refine rm_ald hx hb hK hP (k := 3) (by decide) (by decide) (ob_vi b110) d_RM_sum_110 ?_
                      refine lv_iload hx hb d_RM_sum_111 (lv_at hl 6 rfl) ?_
                      refine lv_icmp_ne hx hb d_RM_sum_113 (tgt := 127) (by decide) (fun c113 => ?_) (fun c113 => ?_)
                      · replace hF := (if_neg c113).symm.trans hF
                        refine lv_aload_n hx hb d_RM_sum_127 rfl (lv_at hl 2 rfl) ?_
                        refine lv_iload_n hx hb d_RM_sum_128 rfl (lv_at hl 3 rfl) ?_
                        refine lv_iload hx hb d_RM_sum_129 (lv_at hl 7 rfl) ?_
                        obtain ⟨r131, t131, e131, hF⟩ := ob_two hF
                        refine ct_calli (va_runV (As := [.int p0, .int p4]) (rest := []) ⟨hx, hb, hml, hown, hts⟩ (c_RM_nothing l (D := D) a ci hi st p0 p4 _ _ e131 _) (kc_RM_94 hts ⟨by decide, by decide⟩) ⟨ct_blind, rm_rc hK hP, ct_ok hP hK hN⟩ rfl rfl hl.1 rfl (lv_room (Nat.le_of_ble_eq_true rfl)) d_RM_sum_131 ⟨Nat.zero_le _, Nat.zero_le _⟩) hS (fun H locs hP hS => ?_)
                        replace hF := Option.some.inj hF
                        obtain ⟨rfl, rfl⟩ := Prod.mk.inj hF
                        exact ct_iret hx hb hr hlk hP hS d_RM_sum_134
                      · replace hF := (if_pos c113).symm.trans hF
                        refine lv_aload_n hx hb d_RM_sum_116 rfl (lv_at hl 2 rfl) ?_
                        refine lv_iload_n hx hb d_RM_sum_117 rfl (lv_at hl 3 rfl) ?_
                        refine lv_iconst (v := 2) hx hb d_RM_sum_118 (by decide) ?_
                        refine lv_iload hx hb d_RM_sum_119 (lv_at hl 6 rfl) ?_
                        obtain ⟨r121, t121, e121, hF⟩ := ob_two hF
                        refine ct_calli (va_runV (As := [.int p0, .int (2 : Int32), .int p3]) (rest := []) ⟨hx, hb, hml, hown, hts⟩ (c_RM_keep l (D := D) a ci hi st p0 (2 : Int32) p3 _ _ e121 _) (kc_RM_59 hts ⟨by decide, by decide⟩) ⟨ct_blind, rm_rc hK hP, ct_ok hP hK hN⟩ rfl rfl hl.1 rfl (lv_room (Nat.le_of_ble_eq_true rfl)) d_RM_sum_121 ⟨Nat.zero_le _, Nat.zero_le _⟩) hS (fun H locs hP hS => ?_)
                        refine lv_goto hx hb d_RM_sum_124 (tgt := 134) (by decide) ?_
                        replace hF := Option.some.inj hF
                        obtain ⟨rfl, rfl⟩ := Prod.mk.inj hF
                        exact ct_iret hx hb hr hlk hP hS d_RM_sum_134
              · replace hF := (if_pos c66).symm.trans hF
                exact kj69 _ _ _ ⟨lv_sub hl [1, 2, 3, 4, 6] rfl, hF, hP, hS⟩
        · intro kj57
          refine lv_icmp_ne hx hb d_RM_sum_29 (tgt := 57) (by decide) (fun c29 => ?_) (fun c29 => ?_)
          · replace hF := (if_neg c29).symm.trans hF
            exact kj57 _ _ _ ⟨lv_sub hl [0, 1, 2, 3, 4, 5, 6, 7] rfl, hF, hP, hS⟩
          · replace hF := (if_pos c29).symm.trans hF
            refine lv_iload hx hb d_RM_sum_32 (lv_at hl 0 rfl) ?_
            refine lv_iconst (v := 1) hx hb d_RM_sum_34 (by decide) ?_
            refine lv_icmp_ne hx hb d_RM_sum_35 (tgt := 57) (by decide) (fun c35 => ?_) (fun c35 => ?_)
            · replace hF := (if_neg c35).symm.trans hF
              exact kj57 _ _ _ ⟨lv_sub hl [0, 1, 2, 3, 4, 5, 6, 7] rfl, hF, hP, hS⟩
            · replace hF := (if_pos c35).symm.trans hF
              refine lv_aload_n hx hb d_RM_sum_38 rfl (lv_at hl 2 rfl) ?_
              refine gf_RM_16 hx hb htb hown hK hP d_RM_sum_39 ?_
              refine lv_iload_n hx hb d_RM_sum_42 rfl (lv_at hl 4 rfl) ?_
              obtain ⟨b43, hF⟩ := ob_if hF
              refine rm_ald hx hb hK hP (k := 3) (by decide) (by decide) (ob_vi b43) d_RM_sum_43 ?_
              refine lv_iload hx hb d_RM_sum_44 (lv_at hl 6 rfl) ?_
              refine lv_icmp_eq hx hb d_RM_sum_46 (tgt := 57) (by decide) (fun c46 => ?_) (fun c46 => ?_)
              · replace hF := (if_pos c46).symm.trans hF
                exact kj57 _ _ _ ⟨lv_sub hl [0, 1, 2, 3, 4, 5, 6, 7] rfl, hF, hP, hS⟩
              · replace hF := (if_neg c46).symm.trans hF
                exact kj49 _ _ _ ⟨lv_sub hl [2, 3] rfl, hF, hP, hS⟩
theorem d_RM_add_0 : decode prog_6_method_25_code 0 = .ok (.iload_n 1, 1) := by decide +kernel
theorem d_RM_add_1 : decode prog_6_method_25_code 1 = .ok (.invokestatic 40, 3) := by decide +kernel
theorem d_RM_add_4 : decode prog_6_method_25_code 4 = .ok (.ifCond .eq 43, 3) := by decide +kernel
theorem d_RM_add_7 : decode prog_6_method_25_code 7 = .ok (.iload_n 2, 1) := by decide +kernel
theorem d_RM_add_8 : decode prog_6_method_25_code 8 = .ok (.invokestatic 40, 3) := by decide +kernel
theorem d_RM_add_11 : decode prog_6_method_25_code 11 = .ok (.ifCond .eq 36, 3) := by decide +kernel
theorem d_RM_add_14 : decode prog_6_method_25_code 14 = .ok (.iload_n 3, 1) := by decide +kernel
theorem d_RM_add_15 : decode prog_6_method_25_code 15 = .ok (.invokestatic 40, 3) := by decide +kernel
theorem d_RM_add_18 : decode prog_6_method_25_code 18 = .ok (.ifCond .eq 29, 3) := by decide +kernel
theorem d_RM_add_21 : decode prog_6_method_25_code 21 = .ok (.iload 4, 2) := by decide +kernel
theorem d_RM_add_23 : decode prog_6_method_25_code 23 = .ok (.invokestatic 77, 3) := by decide +kernel
theorem d_RM_add_26 : decode prog_6_method_25_code 26 = .ok (.ifCond .eq 21, 3) := by decide +kernel
theorem d_RM_add_29 : decode prog_6_method_25_code 29 = .ok (.aload_n 0, 1) := by decide +kernel
theorem d_RM_add_30 : decode prog_6_method_25_code 30 = .ok (.iload_n 1, 1) := by decide +kernel
theorem d_RM_add_31 : decode prog_6_method_25_code 31 = .ok (.iload_n 2, 1) := by decide +kernel
theorem d_RM_add_32 : decode prog_6_method_25_code 32 = .ok (.iload_n 3, 1) := by decide +kernel
theorem d_RM_add_33 : decode prog_6_method_25_code 33 = .ok (.aload_n 0, 1) := by decide +kernel
theorem d_RM_add_34 : decode prog_6_method_25_code 34 = .ok (.getfield 16, 3) := by decide +kernel
theorem d_RM_add_37 : decode prog_6_method_25_code 37 = .ok (.iload_n 3, 1) := by decide +kernel
theorem d_RM_add_38 : decode prog_6_method_25_code 38 = .ok (.iaload, 1) := by decide +kernel
theorem d_RM_add_39 : decode prog_6_method_25_code 39 = .ok (.iload 4, 2) := by decide +kernel
theorem d_RM_add_41 : decode prog_6_method_25_code 41 = .ok (.invokevirtual 100, 3) := by decide +kernel
theorem d_RM_add_44 : decode prog_6_method_25_code 44 = .ok (.goto 5, 3) := by decide +kernel
theorem d_RM_add_47 : decode prog_6_method_25_code 47 = .ok (.bipush 9, 2) := by decide +kernel
theorem d_RM_add_49 : decode prog_6_method_25_code 49 = .ok (.ireturn, 1) := by decide +kernel
def RM_add (st : rm_S) (p0 : Int32) (p1 : Int32) (p2 : Int32) (p3 : Int32) : Option (Int32 × rm_S) := nm (RM_isRegister p0) (fun r1 => (if r1 = 0 then some ((9 : Int32), st) else nm (RM_isRegister p1) (fun r8 => (if r8 = 0 then some ((9 : Int32), st) else nm (RM_isRegister p2) (fun r15 => (if r15 = 0 then some ((9 : Int32), st) else nm (RM_isMode p3) (fun r23 => (if r23 = 0 then some ((9 : Int32), st) else (if ob_in p2 8 = true then ob2 (RM_sum st p0 p1 p2 (st 3 p2.toNatClampNeg) p3) (fun r41 t41 => some (r41, t41)) else none)))))))))
set_option maxHeartbeats 4000000 in
set_option maxRecDepth 100000 in
theorem c_RM_add (l : Launch) {D : va_G} (a : Nat → Nat) (ci : ClassId) (hi : rm_inj a) (st : rm_S) (p0 : Int32) (p1 : Int32) (p2 : Int32) (p3 : Int32) (r0 : Int32) (t0 : rm_S) (hF : RM_add st p0 p1 p2 p3 = some (r0, t0)) : ct_i l ⟨"RoundedNumbersModel", "add", "(IIII)I"⟩ (.code ⟨"RoundedNumbersModel", "add", "(IIII)I"⟩ prog_6_method_25_code 5 (some .int) :: ct_T) { frames := 5, cells := 0, slots := 0, locals := 133 } D vwCl (rm_T ci) (rm_g a ci) (rm_X a) [.ref (a 0), .int p0, .int p1, .int p2, .int p3] st r0 t0 := by
  refine ct_i.mk (cc := prog_6_method_25_code) (maxL := 5) (by decide) rfl (Nat.le_of_ble_eq_true rfl) ?_
  intro p e s m below meth c hx hb hr hml hown hts hlk hK hN hP hS ls hl
  have hown : s.vm.findClass "RoundedNumbersModel" = some m.cls := hown
  have hl : lv_has ls 5 [(0, .ref (a 0)), (1, .int p0), (2, .int p1), (3, .int p2), (4, .int p3)] := hl
  have htb := fun w h => hts w (List.mem_cons_of_mem _ h)
  unfold RM_add at hF
  refine lv_iload_n hx hb d_RM_add_0 rfl (lv_at hl 1 rfl) ?_
  obtain ⟨r1, e1⟩ := nm_ex (RM_isRegister p0)
  replace hF := (nm_eq e1).symm.trans hF
  refine ct_calli (va_runS (As := [.int p0]) (rest := []) ⟨hx, hb, hml, hown, hts⟩ (c_RM_isRegister l (D := D) a ci hi st p0 _ e1 _) (kc_RM_40 hts ⟨by decide, by decide⟩) ⟨ct_blind, ct_ok hP hK hN⟩ rfl rfl hl.1 rfl (lv_room (Nat.le_of_ble_eq_true rfl)) d_RM_add_1 ⟨Nat.zero_le _, Nat.zero_le _⟩) hS (fun H locs hP hS => ?_)
  refine lv_if_eq hx hb d_RM_add_4 (tgt := 47) (by decide) (fun c4 => ?_) (fun c4 => ?_)
  · replace hF := (if_pos c4).symm.trans hF
    refine lv_bipush (v := 9) hx hb d_RM_add_47 (by decide) ?_
    replace hF := Option.some.inj hF
    obtain ⟨rfl, rfl⟩ := Prod.mk.inj hF
    exact ct_iret hx hb hr hlk hP hS d_RM_add_49
  · replace hF := (if_neg c4).symm.trans hF
    refine lv_iload_n hx hb d_RM_add_7 rfl (lv_at hl 2 rfl) ?_
    obtain ⟨r8, e8⟩ := nm_ex (RM_isRegister p1)
    replace hF := (nm_eq e8).symm.trans hF
    refine ct_calli (va_runS (As := [.int p1]) (rest := []) ⟨hx, hb, hml, hown, hts⟩ (c_RM_isRegister l (D := D) a ci hi st p1 _ e8 _) (kc_RM_40 hts ⟨by decide, by decide⟩) ⟨ct_blind, ct_ok hP hK hN⟩ rfl rfl hl.1 rfl (lv_room (Nat.le_of_ble_eq_true rfl)) d_RM_add_8 ⟨Nat.zero_le _, Nat.zero_le _⟩) hS (fun H locs hP hS => ?_)
    refine lv_if_eq hx hb d_RM_add_11 (tgt := 47) (by decide) (fun c11 => ?_) (fun c11 => ?_)
    · replace hF := (if_pos c11).symm.trans hF
      refine lv_bipush (v := 9) hx hb d_RM_add_47 (by decide) ?_
      replace hF := Option.some.inj hF
      obtain ⟨rfl, rfl⟩ := Prod.mk.inj hF
      exact ct_iret hx hb hr hlk hP hS d_RM_add_49
    · replace hF := (if_neg c11).symm.trans hF
      refine lv_iload_n hx hb d_RM_add_14 rfl (lv_at hl 3 rfl) ?_
      obtain ⟨r15, e15⟩ := nm_ex (RM_isRegister p2)
      replace hF := (nm_eq e15).symm.trans hF
      refine ct_calli (va_runS (As := [.int p2]) (rest := []) ⟨hx, hb, hml, hown, hts⟩ (c_RM_isRegister l (D := D) a ci hi st p2 _ e15 _) (kc_RM_40 hts ⟨by decide, by decide⟩) ⟨ct_blind, ct_ok hP hK hN⟩ rfl rfl hl.1 rfl (lv_room (Nat.le_of_ble_eq_true rfl)) d_RM_add_15 ⟨Nat.zero_le _, Nat.zero_le _⟩) hS (fun H locs hP hS => ?_)
      refine lv_if_eq hx hb d_RM_add_18 (tgt := 47) (by decide) (fun c18 => ?_) (fun c18 => ?_)
      · replace hF := (if_pos c18).symm.trans hF
        refine lv_bipush (v := 9) hx hb d_RM_add_47 (by decide) ?_
        replace hF := Option.some.inj hF
        obtain ⟨rfl, rfl⟩ := Prod.mk.inj hF
        exact ct_iret hx hb hr hlk hP hS d_RM_add_49
      · replace hF := (if_neg c18).symm.trans hF
        refine lv_iload hx hb d_RM_add_21 (lv_at hl 4 rfl) ?_
        obtain ⟨r23, e23⟩ := nm_ex (RM_isMode p3)
        replace hF := (nm_eq e23).symm.trans hF
        refine ct_calli (va_runS (As := [.int p3]) (rest := []) ⟨hx, hb, hml, hown, hts⟩ (c_RM_isMode l (D := D) a ci hi st p3 _ e23 _) (kc_RM_77 hts ⟨by decide, by decide⟩) ⟨ct_blind, ct_ok hP hK hN⟩ rfl rfl hl.1 rfl (lv_room (Nat.le_of_ble_eq_true rfl)) d_RM_add_23 ⟨Nat.zero_le _, Nat.zero_le _⟩) hS (fun H locs hP hS => ?_)
        refine lv_if_eq hx hb d_RM_add_26 (tgt := 47) (by decide) (fun c26 => ?_) (fun c26 => ?_)
        · replace hF := (if_pos c26).symm.trans hF
          refine lv_bipush (v := 9) hx hb d_RM_add_47 (by decide) ?_
          replace hF := Option.some.inj hF
          obtain ⟨rfl, rfl⟩ := Prod.mk.inj hF
          exact ct_iret hx hb hr hlk hP hS d_RM_add_49
        · replace hF := (if_neg c26).symm.trans hF
          refine lv_aload_n hx hb d_RM_add_29 rfl (lv_at hl 0 rfl) ?_
          refine lv_iload_n hx hb d_RM_add_30 rfl (lv_at hl 1 rfl) ?_
          refine lv_iload_n hx hb d_RM_add_31 rfl (lv_at hl 2 rfl) ?_
          refine lv_iload_n hx hb d_RM_add_32 rfl (lv_at hl 3 rfl) ?_
          refine lv_aload_n hx hb d_RM_add_33 rfl (lv_at hl 0 rfl) ?_
          refine gf_RM_16 hx hb htb hown hK hP d_RM_add_34 ?_
          refine lv_iload_n hx hb d_RM_add_37 rfl (lv_at hl 3 rfl) ?_
          obtain ⟨b38, hF⟩ := ob_if hF
          refine rm_ald hx hb hK hP (k := 3) (by decide) (by decide) (ob_vi b38) d_RM_add_38 ?_
          refine lv_iload hx hb d_RM_add_39 (lv_at hl 4 rfl) ?_
          obtain ⟨r41, t41, e41, hF⟩ := ob_two hF
          refine ct_calli (va_runV (As := [.int p0, .int p1, .int p2, .int (st 3 p2.toNatClampNeg), .int p3]) (rest := []) ⟨hx, hb, hml, hown, hts⟩ (c_RM_sum l (D := D) a ci hi st p0 p1 p2 (st 3 p2.toNatClampNeg) p3 _ _ e41 _) (kc_RM_100 hts ⟨by decide, by decide⟩) ⟨ct_blind, rm_rc hK hP, ct_ok hP hK hN⟩ rfl rfl hl.1 rfl (lv_room (Nat.le_of_ble_eq_true rfl)) d_RM_add_41 ⟨Nat.zero_le _, Nat.zero_le _⟩) hS (fun H locs hP hS => ?_)
          refine lv_goto hx hb d_RM_add_44 (tgt := 49) (by decide) ?_
          replace hF := Option.some.inj hF
          obtain ⟨rfl, rfl⟩ := Prod.mk.inj hF
          exact ct_iret hx hb hr hlk hP hS d_RM_add_49
theorem d_RM_sub_0 : decode prog_6_method_26_code 0 = .ok (.iload_n 1, 1) := by decide +kernel
theorem d_RM_sub_1 : decode prog_6_method_26_code 1 = .ok (.invokestatic 40, 3) := by decide +kernel
theorem d_RM_sub_4 : decode prog_6_method_26_code 4 = .ok (.ifCond .eq 44, 3) := by decide +kernel
theorem d_RM_sub_7 : decode prog_6_method_26_code 7 = .ok (.iload_n 2, 1) := by decide +kernel
theorem d_RM_sub_8 : decode prog_6_method_26_code 8 = .ok (.invokestatic 40, 3) := by decide +kernel
theorem d_RM_sub_11 : decode prog_6_method_26_code 11 = .ok (.ifCond .eq 37, 3) := by decide +kernel
theorem d_RM_sub_14 : decode prog_6_method_26_code 14 = .ok (.iload_n 3, 1) := by decide +kernel
theorem d_RM_sub_15 : decode prog_6_method_26_code 15 = .ok (.invokestatic 40, 3) := by decide +kernel
theorem d_RM_sub_18 : decode prog_6_method_26_code 18 = .ok (.ifCond .eq 30, 3) := by decide +kernel
theorem d_RM_sub_21 : decode prog_6_method_26_code 21 = .ok (.iload 4, 2) := by decide +kernel
theorem d_RM_sub_23 : decode prog_6_method_26_code 23 = .ok (.invokestatic 77, 3) := by decide +kernel
theorem d_RM_sub_26 : decode prog_6_method_26_code 26 = .ok (.ifCond .eq 22, 3) := by decide +kernel
theorem d_RM_sub_29 : decode prog_6_method_26_code 29 = .ok (.aload_n 0, 1) := by decide +kernel
theorem d_RM_sub_30 : decode prog_6_method_26_code 30 = .ok (.iload_n 1, 1) := by decide +kernel
theorem d_RM_sub_31 : decode prog_6_method_26_code 31 = .ok (.iload_n 2, 1) := by decide +kernel
theorem d_RM_sub_32 : decode prog_6_method_26_code 32 = .ok (.iload_n 3, 1) := by decide +kernel
theorem d_RM_sub_33 : decode prog_6_method_26_code 33 = .ok (.aload_n 0, 1) := by decide +kernel
theorem d_RM_sub_34 : decode prog_6_method_26_code 34 = .ok (.getfield 16, 3) := by decide +kernel
theorem d_RM_sub_37 : decode prog_6_method_26_code 37 = .ok (.iload_n 3, 1) := by decide +kernel
theorem d_RM_sub_38 : decode prog_6_method_26_code 38 = .ok (.iaload, 1) := by decide +kernel
theorem d_RM_sub_39 : decode prog_6_method_26_code 39 = .ok (.ineg, 1) := by decide +kernel
theorem d_RM_sub_40 : decode prog_6_method_26_code 40 = .ok (.iload 4, 2) := by decide +kernel
theorem d_RM_sub_42 : decode prog_6_method_26_code 42 = .ok (.invokevirtual 100, 3) := by decide +kernel
theorem d_RM_sub_45 : decode prog_6_method_26_code 45 = .ok (.goto 5, 3) := by decide +kernel
theorem d_RM_sub_48 : decode prog_6_method_26_code 48 = .ok (.bipush 9, 2) := by decide +kernel
theorem d_RM_sub_50 : decode prog_6_method_26_code 50 = .ok (.ireturn, 1) := by decide +kernel
def RM_sub (st : rm_S) (p0 : Int32) (p1 : Int32) (p2 : Int32) (p3 : Int32) : Option (Int32 × rm_S) := nm (RM_isRegister p0) (fun r1 => (if r1 = 0 then some ((9 : Int32), st) else nm (RM_isRegister p1) (fun r8 => (if r8 = 0 then some ((9 : Int32), st) else nm (RM_isRegister p2) (fun r15 => (if r15 = 0 then some ((9 : Int32), st) else nm (RM_isMode p3) (fun r23 => (if r23 = 0 then some ((9 : Int32), st) else (if ob_in p2 8 = true then ob2 (RM_sum st p0 p1 p2 (-(st 3 p2.toNatClampNeg)) p3) (fun r42 t42 => some (r42, t42)) else none)))))))))
set_option maxHeartbeats 4000000 in
set_option maxRecDepth 100000 in
theorem c_RM_sub (l : Launch) {D : va_G} (a : Nat → Nat) (ci : ClassId) (hi : rm_inj a) (st : rm_S) (p0 : Int32) (p1 : Int32) (p2 : Int32) (p3 : Int32) (r0 : Int32) (t0 : rm_S) (hF : RM_sub st p0 p1 p2 p3 = some (r0, t0)) : ct_i l ⟨"RoundedNumbersModel", "sub", "(IIII)I"⟩ (.code ⟨"RoundedNumbersModel", "sub", "(IIII)I"⟩ prog_6_method_26_code 5 (some .int) :: ct_T) { frames := 5, cells := 0, slots := 0, locals := 133 } D vwCl (rm_T ci) (rm_g a ci) (rm_X a) [.ref (a 0), .int p0, .int p1, .int p2, .int p3] st r0 t0 := by
  refine ct_i.mk (cc := prog_6_method_26_code) (maxL := 5) (by decide) rfl (Nat.le_of_ble_eq_true rfl) ?_
  intro p e s m below meth c hx hb hr hml hown hts hlk hK hN hP hS ls hl
  have hown : s.vm.findClass "RoundedNumbersModel" = some m.cls := hown
  have hl : lv_has ls 5 [(0, .ref (a 0)), (1, .int p0), (2, .int p1), (3, .int p2), (4, .int p3)] := hl
  have htb := fun w h => hts w (List.mem_cons_of_mem _ h)
  unfold RM_sub at hF
  refine lv_iload_n hx hb d_RM_sub_0 rfl (lv_at hl 1 rfl) ?_
  obtain ⟨r1, e1⟩ := nm_ex (RM_isRegister p0)
  replace hF := (nm_eq e1).symm.trans hF
  refine ct_calli (va_runS (As := [.int p0]) (rest := []) ⟨hx, hb, hml, hown, hts⟩ (c_RM_isRegister l (D := D) a ci hi st p0 _ e1 _) (kc_RM_40 hts ⟨by decide, by decide⟩) ⟨ct_blind, ct_ok hP hK hN⟩ rfl rfl hl.1 rfl (lv_room (Nat.le_of_ble_eq_true rfl)) d_RM_sub_1 ⟨Nat.zero_le _, Nat.zero_le _⟩) hS (fun H locs hP hS => ?_)
  refine lv_if_eq hx hb d_RM_sub_4 (tgt := 48) (by decide) (fun c4 => ?_) (fun c4 => ?_)
  · replace hF := (if_pos c4).symm.trans hF
    refine lv_bipush (v := 9) hx hb d_RM_sub_48 (by decide) ?_
    replace hF := Option.some.inj hF
    obtain ⟨rfl, rfl⟩ := Prod.mk.inj hF
    exact ct_iret hx hb hr hlk hP hS d_RM_sub_50
  · replace hF := (if_neg c4).symm.trans hF
    refine lv_iload_n hx hb d_RM_sub_7 rfl (lv_at hl 2 rfl) ?_
    obtain ⟨r8, e8⟩ := nm_ex (RM_isRegister p1)
    replace hF := (nm_eq e8).symm.trans hF
    refine ct_calli (va_runS (As := [.int p1]) (rest := []) ⟨hx, hb, hml, hown, hts⟩ (c_RM_isRegister l (D := D) a ci hi st p1 _ e8 _) (kc_RM_40 hts ⟨by decide, by decide⟩) ⟨ct_blind, ct_ok hP hK hN⟩ rfl rfl hl.1 rfl (lv_room (Nat.le_of_ble_eq_true rfl)) d_RM_sub_8 ⟨Nat.zero_le _, Nat.zero_le _⟩) hS (fun H locs hP hS => ?_)
    refine lv_if_eq hx hb d_RM_sub_11 (tgt := 48) (by decide) (fun c11 => ?_) (fun c11 => ?_)
    · replace hF := (if_pos c11).symm.trans hF
      refine lv_bipush (v := 9) hx hb d_RM_sub_48 (by decide) ?_
      replace hF := Option.some.inj hF
      obtain ⟨rfl, rfl⟩ := Prod.mk.inj hF
      exact ct_iret hx hb hr hlk hP hS d_RM_sub_50
    · replace hF := (if_neg c11).symm.trans hF
      refine lv_iload_n hx hb d_RM_sub_14 rfl (lv_at hl 3 rfl) ?_
      obtain ⟨r15, e15⟩ := nm_ex (RM_isRegister p2)
      replace hF := (nm_eq e15).symm.trans hF
      refine ct_calli (va_runS (As := [.int p2]) (rest := []) ⟨hx, hb, hml, hown, hts⟩ (c_RM_isRegister l (D := D) a ci hi st p2 _ e15 _) (kc_RM_40 hts ⟨by decide, by decide⟩) ⟨ct_blind, ct_ok hP hK hN⟩ rfl rfl hl.1 rfl (lv_room (Nat.le_of_ble_eq_true rfl)) d_RM_sub_15 ⟨Nat.zero_le _, Nat.zero_le _⟩) hS (fun H locs hP hS => ?_)
      refine lv_if_eq hx hb d_RM_sub_18 (tgt := 48) (by decide) (fun c18 => ?_) (fun c18 => ?_)
      · replace hF := (if_pos c18).symm.trans hF
        refine lv_bipush (v := 9) hx hb d_RM_sub_48 (by decide) ?_
        replace hF := Option.some.inj hF
        obtain ⟨rfl, rfl⟩ := Prod.mk.inj hF
        exact ct_iret hx hb hr hlk hP hS d_RM_sub_50
      · replace hF := (if_neg c18).symm.trans hF
        refine lv_iload hx hb d_RM_sub_21 (lv_at hl 4 rfl) ?_
        obtain ⟨r23, e23⟩ := nm_ex (RM_isMode p3)
        replace hF := (nm_eq e23).symm.trans hF
        refine ct_calli (va_runS (As := [.int p3]) (rest := []) ⟨hx, hb, hml, hown, hts⟩ (c_RM_isMode l (D := D) a ci hi st p3 _ e23 _) (kc_RM_77 hts ⟨by decide, by decide⟩) ⟨ct_blind, ct_ok hP hK hN⟩ rfl rfl hl.1 rfl (lv_room (Nat.le_of_ble_eq_true rfl)) d_RM_sub_23 ⟨Nat.zero_le _, Nat.zero_le _⟩) hS (fun H locs hP hS => ?_)
        refine lv_if_eq hx hb d_RM_sub_26 (tgt := 48) (by decide) (fun c26 => ?_) (fun c26 => ?_)
        · replace hF := (if_pos c26).symm.trans hF
          refine lv_bipush (v := 9) hx hb d_RM_sub_48 (by decide) ?_
          replace hF := Option.some.inj hF
          obtain ⟨rfl, rfl⟩ := Prod.mk.inj hF
          exact ct_iret hx hb hr hlk hP hS d_RM_sub_50
        · replace hF := (if_neg c26).symm.trans hF
          refine lv_aload_n hx hb d_RM_sub_29 rfl (lv_at hl 0 rfl) ?_
          refine lv_iload_n hx hb d_RM_sub_30 rfl (lv_at hl 1 rfl) ?_
          refine lv_iload_n hx hb d_RM_sub_31 rfl (lv_at hl 2 rfl) ?_
          refine lv_iload_n hx hb d_RM_sub_32 rfl (lv_at hl 3 rfl) ?_
          refine lv_aload_n hx hb d_RM_sub_33 rfl (lv_at hl 0 rfl) ?_
          refine gf_RM_16 hx hb htb hown hK hP d_RM_sub_34 ?_
          refine lv_iload_n hx hb d_RM_sub_37 rfl (lv_at hl 3 rfl) ?_
          obtain ⟨b38, hF⟩ := ob_if hF
          refine rm_ald hx hb hK hP (k := 3) (by decide) (by decide) (ob_vi b38) d_RM_sub_38 ?_
          refine lv_ineg hx hb d_RM_sub_39 ?_
          refine lv_iload hx hb d_RM_sub_40 (lv_at hl 4 rfl) ?_
          obtain ⟨r42, t42, e42, hF⟩ := ob_two hF
          refine ct_calli (va_runV (As := [.int p0, .int p1, .int p2, .int (-(st 3 p2.toNatClampNeg)), .int p3]) (rest := []) ⟨hx, hb, hml, hown, hts⟩ (c_RM_sum l (D := D) a ci hi st p0 p1 p2 (-(st 3 p2.toNatClampNeg)) p3 _ _ e42 _) (kc_RM_100 hts ⟨by decide, by decide⟩) ⟨ct_blind, rm_rc hK hP, ct_ok hP hK hN⟩ rfl rfl hl.1 rfl (lv_room (Nat.le_of_ble_eq_true rfl)) d_RM_sub_42 ⟨Nat.zero_le _, Nat.zero_le _⟩) hS (fun H locs hP hS => ?_)
          refine lv_goto hx hb d_RM_sub_45 (tgt := 50) (by decide) ?_
          replace hF := Option.some.inj hF
          obtain ⟨rfl, rfl⟩ := Prod.mk.inj hF
          exact ct_iret hx hb hr hlk hP hS d_RM_sub_50
theorem d_RM_productKind_0 : decode prog_6_method_27_code 0 = .ok (.aload_n 0, 1) := by decide +kernel
theorem d_RM_productKind_1 : decode prog_6_method_27_code 1 = .ok (.getfield 13, 3) := by decide +kernel
theorem d_RM_productKind_4 : decode prog_6_method_27_code 4 = .ok (.iload_n 1, 1) := by decide +kernel
theorem d_RM_productKind_5 : decode prog_6_method_27_code 5 = .ok (.iaload, 1) := by decide +kernel
theorem d_RM_productKind_6 : decode prog_6_method_27_code 6 = .ok (.istore_n 3, 1) := by decide +kernel
theorem d_RM_productKind_7 : decode prog_6_method_27_code 7 = .ok (.aload_n 0, 1) := by decide +kernel
theorem d_RM_productKind_8 : decode prog_6_method_27_code 8 = .ok (.getfield 13, 3) := by decide +kernel
theorem d_RM_productKind_11 : decode prog_6_method_27_code 11 = .ok (.iload_n 2, 1) := by decide +kernel
theorem d_RM_productKind_12 : decode prog_6_method_27_code 12 = .ok (.iaload, 1) := by decide +kernel
theorem d_RM_productKind_13 : decode prog_6_method_27_code 13 = .ok (.istore 4, 2) := by decide +kernel
theorem d_RM_productKind_15 : decode prog_6_method_27_code 15 = .ok (.iload_n 3, 1) := by decide +kernel
theorem d_RM_productKind_16 : decode prog_6_method_27_code 16 = .ok (.ifCond .eq 30, 3) := by decide +kernel
theorem d_RM_productKind_19 : decode prog_6_method_27_code 19 = .ok (.iload 4, 2) := by decide +kernel
theorem d_RM_productKind_21 : decode prog_6_method_27_code 21 = .ok (.ifCond .eq 25, 3) := by decide +kernel
theorem d_RM_productKind_24 : decode prog_6_method_27_code 24 = .ok (.iload_n 3, 1) := by decide +kernel
theorem d_RM_productKind_25 : decode prog_6_method_27_code 25 = .ok (.iconst 1, 1) := by decide +kernel
theorem d_RM_productKind_26 : decode prog_6_method_27_code 26 = .ok (.if_icmp .ne 9, 3) := by decide +kernel
theorem d_RM_productKind_29 : decode prog_6_method_27_code 29 = .ok (.iload 4, 2) := by decide +kernel
theorem d_RM_productKind_31 : decode prog_6_method_27_code 31 = .ok (.iconst 2, 1) := by decide +kernel
theorem d_RM_productKind_32 : decode prog_6_method_27_code 32 = .ok (.if_icmp .eq 14, 3) := by decide +kernel
theorem d_RM_productKind_35 : decode prog_6_method_27_code 35 = .ok (.iload_n 3, 1) := by decide +kernel
theorem d_RM_productKind_36 : decode prog_6_method_27_code 36 = .ok (.iconst 2, 1) := by decide +kernel
theorem d_RM_productKind_37 : decode prog_6_method_27_code 37 = .ok (.if_icmp .ne 11, 3) := by decide +kernel
theorem d_RM_productKind_40 : decode prog_6_method_27_code 40 = .ok (.iload 4, 2) := by decide +kernel
theorem d_RM_productKind_42 : decode prog_6_method_27_code 42 = .ok (.iconst 1, 1) := by decide +kernel
theorem d_RM_productKind_43 : decode prog_6_method_27_code 43 = .ok (.if_icmp .ne 5, 3) := by decide +kernel
theorem d_RM_productKind_46 : decode prog_6_method_27_code 46 = .ok (.iconst 0, 1) := by decide +kernel
theorem d_RM_productKind_47 : decode prog_6_method_27_code 47 = .ok (.ireturn, 1) := by decide +kernel
theorem d_RM_productKind_48 : decode prog_6_method_27_code 48 = .ok (.iload_n 3, 1) := by decide +kernel
theorem d_RM_productKind_49 : decode prog_6_method_27_code 49 = .ok (.iconst 1, 1) := by decide +kernel
theorem d_RM_productKind_50 : decode prog_6_method_27_code 50 = .ok (.if_icmp .eq 9, 3) := by decide +kernel
theorem d_RM_productKind_53 : decode prog_6_method_27_code 53 = .ok (.iload 4, 2) := by decide +kernel
theorem d_RM_productKind_55 : decode prog_6_method_27_code 55 = .ok (.iconst 1, 1) := by decide +kernel
theorem d_RM_productKind_56 : decode prog_6_method_27_code 56 = .ok (.if_icmp .ne 7, 3) := by decide +kernel
theorem d_RM_productKind_59 : decode prog_6_method_27_code 59 = .ok (.iconst 1, 1) := by decide +kernel
theorem d_RM_productKind_60 : decode prog_6_method_27_code 60 = .ok (.goto 19, 3) := by decide +kernel
theorem d_RM_productKind_63 : decode prog_6_method_27_code 63 = .ok (.iload_n 3, 1) := by decide +kernel
theorem d_RM_productKind_64 : decode prog_6_method_27_code 64 = .ok (.iconst 2, 1) := by decide +kernel
theorem d_RM_productKind_65 : decode prog_6_method_27_code 65 = .ok (.if_icmp .eq 9, 3) := by decide +kernel
theorem d_RM_productKind_68 : decode prog_6_method_27_code 68 = .ok (.iload 4, 2) := by decide +kernel
theorem d_RM_productKind_70 : decode prog_6_method_27_code 70 = .ok (.iconst 2, 1) := by decide +kernel
theorem d_RM_productKind_71 : decode prog_6_method_27_code 71 = .ok (.if_icmp .ne 7, 3) := by decide +kernel
theorem d_RM_productKind_74 : decode prog_6_method_27_code 74 = .ok (.iconst 2, 1) := by decide +kernel
theorem d_RM_productKind_75 : decode prog_6_method_27_code 75 = .ok (.goto 4, 3) := by decide +kernel
theorem d_RM_productKind_78 : decode prog_6_method_27_code 78 = .ok (.iconst 3, 1) := by decide +kernel
theorem d_RM_productKind_79 : decode prog_6_method_27_code 79 = .ok (.ireturn, 1) := by decide +kernel
def RM_productKind_59 (st : rm_S) : Option (Int32) := some (1 : Int32)
def RM_productKind_74 (st : rm_S) : Option (Int32) := some (2 : Int32)
def RM_productKind_48 (L3 : Int32) (L4 : Int32) (st : rm_S) : Option (Int32) := (if L3 = (1 : Int32) then RM_productKind_59 st else (if L4 = (1 : Int32) then RM_productKind_59 st else (if L3 = (2 : Int32) then RM_productKind_74 st else (if L4 = (2 : Int32) then RM_productKind_74 st else some (3 : Int32)))))
def RM_productKind_35 (L3 : Int32) (L4 : Int32) (st : rm_S) : Option (Int32) := (if L3 = (2 : Int32) then (if L4 = (1 : Int32) then some (0 : Int32) else RM_productKind_48 L3 L4 st) else RM_productKind_48 L3 L4 st)
def RM_productKind (st : rm_S) (p0 : Int32) (p1 : Int32) : Option (Int32) := (if ob_in p0 8 = true then nm (st 2 p0.toNatClampNeg) (fun x6 => (if ob_in p1 8 = true then nm (st 2 p1.toNatClampNeg) (fun x13 => (if x6 = 0 then some (0 : Int32) else (if x13 = 0 then some (0 : Int32) else (if x6 = (1 : Int32) then (if x13 = (2 : Int32) then some (0 : Int32) else RM_productKind_35 x6 x13 st) else RM_productKind_35 x6 x13 st)))) else none)) else none)
set_option maxHeartbeats 4000000 in
set_option maxRecDepth 100000 in
theorem c_RM_productKind (l : Launch) {D : va_G} (a : Nat → Nat) (ci : ClassId) (hi : rm_inj a) (st : rm_S) (p0 : Int32) (p1 : Int32) (r0 : Int32) (hF : RM_productKind st p0 p1 = some r0) : ct_i l ⟨"RoundedNumbersModel", "productKind", "(II)I"⟩ (.code ⟨"RoundedNumbersModel", "productKind", "(II)I"⟩ prog_6_method_27_code 5 (some .int) :: ct_T) { frames := 0, cells := 0, slots := 0, locals := 0 } D vwCl (rm_T ci) (rm_g a ci) (rm_X a) [.ref (a 0), .int p0, .int p1] st r0 st := by
  refine ct_i.mk (cc := prog_6_method_27_code) (maxL := 5) (by decide) rfl (Nat.le_of_ble_eq_true rfl) ?_
  intro p e s m below meth c hx hb hr hml hown hts hlk hK hN hP hS ls hl
  have hown : s.vm.findClass "RoundedNumbersModel" = some m.cls := hown
  have hl : lv_has ls 5 [(0, .ref (a 0)), (1, .int p0), (2, .int p1)] := hl
  have htb := fun w h => hts w (List.mem_cons_of_mem _ h)
  unfold RM_productKind at hF
  refine lv_aload_n hx hb d_RM_productKind_0 rfl (lv_at hl 0 rfl) ?_
  refine gf_RM_13 hx hb htb hown hK hP d_RM_productKind_1 ?_
  refine lv_iload_n hx hb d_RM_productKind_4 rfl (lv_at hl 1 rfl) ?_
  obtain ⟨b5, hF⟩ := ob_if hF
  refine rm_ald hx hb hK hP (k := 2) (by decide) (by decide) (ob_vi b5) d_RM_productKind_5 ?_
  refine lv_topi (fun x6 e6 => ?_)
  replace hF := (nm_eq e6.symm).symm.trans hF
  refine lv_istore_n (lv' := [(3, .int x6), (0, .ref (a 0)), (1, .int p0), (2, .int p1)]) hx hb d_RM_productKind_6 rfl hl (by decide) rfl (fun ls hl => ?_)
  refine lv_aload_n hx hb d_RM_productKind_7 rfl (lv_at hl 1 rfl) ?_
  refine gf_RM_13 hx hb htb hown hK hP d_RM_productKind_8 ?_
  refine lv_iload_n hx hb d_RM_productKind_11 rfl (lv_at hl 3 rfl) ?_
  obtain ⟨b12, hF⟩ := ob_if hF
  refine rm_ald hx hb hK hP (k := 2) (by decide) (by decide) (ob_vi b12) d_RM_productKind_12 ?_
  refine lv_topi (fun x13 e13 => ?_)
  replace hF := (nm_eq e13.symm).symm.trans hF
  refine lv_istore (lv' := [(4, .int x13), (3, .int x6), (0, .ref (a 0)), (1, .int p0), (2, .int p1)]) hx hb d_RM_productKind_13 hl (by decide) rfl (fun ls hl => ?_)
  refine lv_iload_n hx hb d_RM_productKind_15 rfl (lv_at hl 1 rfl) ?_
  refine lv_if_eq hx hb d_RM_productKind_16 (tgt := 46) (by decide) (fun c16 => ?_) (fun c16 => ?_)
  · replace hF := (if_pos c16).symm.trans hF
    refine lv_iconst (v := 0) hx hb d_RM_productKind_46 (by decide) ?_
    replace hF := Option.some.inj hF
    subst hF
    exact ct_iret hx hb hr hlk hP hS d_RM_productKind_47
  · replace hF := (if_neg c16).symm.trans hF
    refine lv_iload hx hb d_RM_productKind_19 (lv_at hl 0 rfl) ?_
    refine lv_if_eq hx hb d_RM_productKind_21 (tgt := 46) (by decide) (fun c21 => ?_) (fun c21 => ?_)
    · replace hF := (if_pos c21).symm.trans hF
      refine lv_iconst (v := 0) hx hb d_RM_productKind_46 (by decide) ?_
      replace hF := Option.some.inj hF
      subst hF
      exact ct_iret hx hb hr hlk hP hS d_RM_productKind_47
    · replace hF := (if_neg c21).symm.trans hF
      refine lv_iload_n hx hb d_RM_productKind_24 rfl (lv_at hl 1 rfl) ?_
      refine lv_iconst (v := 1) hx hb d_RM_productKind_25 (by decide) ?_
      refine ct_cut0 (fun  ls H locs => lv_has ls 5 [(4, .int x13), (3, .int x6)] ∧ RM_productKind_35 x6 x13 st = some r0 ∧ va_P D vwCl (rm_g a ci st) H ∧ va_S (ct_F (rm_X a) s.heap.size) s.heap H locs) 35 [] ?_ ?_
      · intro ls H locs hq
        obtain ⟨hl, hF, hP, hS⟩ := hq
        unfold RM_productKind_35 at hF
        refine lv_iload_n hx hb d_RM_productKind_35 rfl (lv_at hl 1 rfl) ?_
        refine lv_iconst (v := 2) hx hb d_RM_productKind_36 (by decide) ?_
        refine ct_cut0 (fun  ls H locs => lv_has ls 5 [(4, .int x13), (3, .int x6)] ∧ RM_productKind_48 x6 x13 st = some r0 ∧ va_P D vwCl (rm_g a ci st) H ∧ va_S (ct_F (rm_X a) s.heap.size) s.heap H locs) 48 [] ?_ ?_
        · intro ls H locs hq
          obtain ⟨hl, hF, hP, hS⟩ := hq
          unfold RM_productKind_48 at hF
          refine lv_iload_n hx hb d_RM_productKind_48 rfl (lv_at hl 1 rfl) ?_
          refine lv_iconst (v := 1) hx hb d_RM_productKind_49 (by decide) ?_
          refine ct_cut0 (fun  ls H locs => lv_has ls 5 [] ∧ RM_productKind_59 st = some r0 ∧ va_P D vwCl (rm_g a ci st) H ∧ va_S (ct_F (rm_X a) s.heap.size) s.heap H locs) 59 [] ?_ ?_
          · intro ls H locs hq
            obtain ⟨hl, hF, hP, hS⟩ := hq
            unfold RM_productKind_59 at hF
            refine lv_iconst (v := 1) hx hb d_RM_productKind_59 (by decide) ?_
            refine lv_goto hx hb d_RM_productKind_60 (tgt := 79) (by decide) ?_
            replace hF := Option.some.inj hF
            subst hF
            exact ct_iret hx hb hr hlk hP hS d_RM_productKind_79
          · intro kj59
            refine lv_icmp_eq hx hb d_RM_productKind_50 (tgt := 59) (by decide) (fun c50 => ?_) (fun c50 => ?_)
            · replace hF := (if_pos c50).symm.trans hF
              exact kj59 _ _ _ ⟨lv_sub hl [] rfl, hF, hP, hS⟩
            · replace hF := (if_neg c50).symm.trans hF
              refine lv_iload hx hb d_RM_productKind_53 (lv_at hl 0 rfl) ?_
              refine lv_iconst (v := 1) hx hb d_RM_productKind_55 (by decide) ?_
              refine lv_icmp_ne hx hb d_RM_productKind_56 (tgt := 63) (by decide) (fun c56 => ?_) (fun c56 => ?_)
              · replace hF := (if_neg c56).symm.trans hF
                refine lv_iload_n hx hb d_RM_productKind_63 rfl (lv_at hl 1 rfl) ?_
                refine lv_iconst (v := 2) hx hb d_RM_productKind_64 (by decide) ?_
                refine ct_cut0 (fun  ls H locs => lv_has ls 5 [] ∧ RM_productKind_74 st = some r0 ∧ va_P D vwCl (rm_g a ci st) H ∧ va_S (ct_F (rm_X a) s.heap.size) s.heap H locs) 74 [] ?_ ?_
                · intro ls H locs hq
                  obtain ⟨hl, hF, hP, hS⟩ := hq
                  unfold RM_productKind_74 at hF
                  refine lv_iconst (v := 2) hx hb d_RM_productKind_74 (by decide) ?_
                  refine lv_goto hx hb d_RM_productKind_75 (tgt := 79) (by decide) ?_
                  replace hF := Option.some.inj hF
                  subst hF
                  exact ct_iret hx hb hr hlk hP hS d_RM_productKind_79
                · intro kj74
                  refine lv_icmp_eq hx hb d_RM_productKind_65 (tgt := 74) (by decide) (fun c65 => ?_) (fun c65 => ?_)
                  · replace hF := (if_pos c65).symm.trans hF
                    exact kj74 _ _ _ ⟨lv_sub hl [] rfl, hF, hP, hS⟩
                  · replace hF := (if_neg c65).symm.trans hF
                    refine lv_iload hx hb d_RM_productKind_68 (lv_at hl 0 rfl) ?_
                    refine lv_iconst (v := 2) hx hb d_RM_productKind_70 (by decide) ?_
                    refine lv_icmp_ne hx hb d_RM_productKind_71 (tgt := 78) (by decide) (fun c71 => ?_) (fun c71 => ?_)
                    · replace hF := (if_neg c71).symm.trans hF
                      refine lv_iconst (v := 3) hx hb d_RM_productKind_78 (by decide) ?_
                      replace hF := Option.some.inj hF
                      subst hF
                      exact ct_iret hx hb hr hlk hP hS d_RM_productKind_79
                    · replace hF := (if_pos c71).symm.trans hF
                      exact kj74 _ _ _ ⟨lv_sub hl [] rfl, hF, hP, hS⟩
              · replace hF := (if_pos c56).symm.trans hF
                exact kj59 _ _ _ ⟨lv_sub hl [] rfl, hF, hP, hS⟩
        · intro kj48
          refine lv_icmp_ne hx hb d_RM_productKind_37 (tgt := 48) (by decide) (fun c37 => ?_) (fun c37 => ?_)
          · replace hF := (if_neg c37).symm.trans hF
            exact kj48 _ _ _ ⟨lv_sub hl [0, 1] rfl, hF, hP, hS⟩
          · replace hF := (if_pos c37).symm.trans hF
            refine lv_iload hx hb d_RM_productKind_40 (lv_at hl 0 rfl) ?_
            refine lv_iconst (v := 1) hx hb d_RM_productKind_42 (by decide) ?_
            refine lv_icmp_ne hx hb d_RM_productKind_43 (tgt := 48) (by decide) (fun c43 => ?_) (fun c43 => ?_)
            · replace hF := (if_neg c43).symm.trans hF
              exact kj48 _ _ _ ⟨lv_sub hl [0, 1] rfl, hF, hP, hS⟩
            · replace hF := (if_pos c43).symm.trans hF
              refine lv_iconst (v := 0) hx hb d_RM_productKind_46 (by decide) ?_
              replace hF := Option.some.inj hF
              subst hF
              exact ct_iret hx hb hr hlk hP hS d_RM_productKind_47
      · intro kj35
        refine lv_icmp_ne hx hb d_RM_productKind_26 (tgt := 35) (by decide) (fun c26 => ?_) (fun c26 => ?_)
        · replace hF := (if_neg c26).symm.trans hF
          exact kj35 _ _ _ ⟨lv_sub hl [0, 1] rfl, hF, hP, hS⟩
        · replace hF := (if_pos c26).symm.trans hF
          refine lv_iload hx hb d_RM_productKind_29 (lv_at hl 0 rfl) ?_
          refine lv_iconst (v := 2) hx hb d_RM_productKind_31 (by decide) ?_
          refine lv_icmp_eq hx hb d_RM_productKind_32 (tgt := 46) (by decide) (fun c32 => ?_) (fun c32 => ?_)
          · replace hF := (if_pos c32).symm.trans hF
            refine lv_iconst (v := 0) hx hb d_RM_productKind_46 (by decide) ?_
            replace hF := Option.some.inj hF
            subst hF
            exact ct_iret hx hb hr hlk hP hS d_RM_productKind_47
          · replace hF := (if_neg c32).symm.trans hF
            exact kj35 _ _ _ ⟨lv_sub hl [0, 1] rfl, hF, hP, hS⟩
theorem d_RM_mul_0 : decode prog_6_method_28_code 0 = .ok (.iload_n 1, 1) := by decide +kernel
theorem d_RM_mul_1 : decode prog_6_method_28_code 1 = .ok (.invokestatic 40, 3) := by decide +kernel
theorem d_RM_mul_4 : decode prog_6_method_28_code 4 = .ok (.ifCond .eq 25, 3) := by decide +kernel
theorem d_RM_mul_7 : decode prog_6_method_28_code 7 = .ok (.iload_n 2, 1) := by decide +kernel
theorem d_RM_mul_8 : decode prog_6_method_28_code 8 = .ok (.invokestatic 40, 3) := by decide +kernel
theorem d_RM_mul_11 : decode prog_6_method_28_code 11 = .ok (.ifCond .eq 18, 3) := by decide +kernel
theorem d_RM_mul_14 : decode prog_6_method_28_code 14 = .ok (.iload_n 3, 1) := by decide +kernel
theorem d_RM_mul_15 : decode prog_6_method_28_code 15 = .ok (.invokestatic 40, 3) := by decide +kernel
theorem d_RM_mul_18 : decode prog_6_method_28_code 18 = .ok (.ifCond .eq 11, 3) := by decide +kernel
theorem d_RM_mul_21 : decode prog_6_method_28_code 21 = .ok (.iload 4, 2) := by decide +kernel
theorem d_RM_mul_23 : decode prog_6_method_28_code 23 = .ok (.invokestatic 77, 3) := by decide +kernel
theorem d_RM_mul_26 : decode prog_6_method_28_code 26 = .ok (.ifCond .ne 6, 3) := by decide +kernel
theorem d_RM_mul_29 : decode prog_6_method_28_code 29 = .ok (.bipush 9, 2) := by decide +kernel
theorem d_RM_mul_31 : decode prog_6_method_28_code 31 = .ok (.ireturn, 1) := by decide +kernel
theorem d_RM_mul_32 : decode prog_6_method_28_code 32 = .ok (.aload_n 0, 1) := by decide +kernel
theorem d_RM_mul_33 : decode prog_6_method_28_code 33 = .ok (.iload_n 2, 1) := by decide +kernel
theorem d_RM_mul_34 : decode prog_6_method_28_code 34 = .ok (.iload_n 3, 1) := by decide +kernel
theorem d_RM_mul_35 : decode prog_6_method_28_code 35 = .ok (.invokevirtual 104, 3) := by decide +kernel
theorem d_RM_mul_38 : decode prog_6_method_28_code 38 = .ok (.istore 5, 2) := by decide +kernel
theorem d_RM_mul_40 : decode prog_6_method_28_code 40 = .ok (.aload_n 0, 1) := by decide +kernel
theorem d_RM_mul_41 : decode prog_6_method_28_code 41 = .ok (.getfield 16, 3) := by decide +kernel
theorem d_RM_mul_44 : decode prog_6_method_28_code 44 = .ok (.iload_n 2, 1) := by decide +kernel
theorem d_RM_mul_45 : decode prog_6_method_28_code 45 = .ok (.iaload, 1) := by decide +kernel
theorem d_RM_mul_46 : decode prog_6_method_28_code 46 = .ok (.aload_n 0, 1) := by decide +kernel
theorem d_RM_mul_47 : decode prog_6_method_28_code 47 = .ok (.getfield 16, 3) := by decide +kernel
theorem d_RM_mul_50 : decode prog_6_method_28_code 50 = .ok (.iload_n 3, 1) := by decide +kernel
theorem d_RM_mul_51 : decode prog_6_method_28_code 51 = .ok (.iaload, 1) := by decide +kernel
theorem d_RM_mul_52 : decode prog_6_method_28_code 52 = .ok (.imul, 1) := by decide +kernel
theorem d_RM_mul_53 : decode prog_6_method_28_code 53 = .ok (.istore 6, 2) := by decide +kernel
theorem d_RM_mul_55 : decode prog_6_method_28_code 55 = .ok (.iload 5, 2) := by decide +kernel
theorem d_RM_mul_57 : decode prog_6_method_28_code 57 = .ok (.iconst 3, 1) := by decide +kernel
theorem d_RM_mul_58 : decode prog_6_method_28_code 58 = .ok (.if_icmp .eq 13, 3) := by decide +kernel
theorem d_RM_mul_61 : decode prog_6_method_28_code 61 = .ok (.aload_n 0, 1) := by decide +kernel
theorem d_RM_mul_62 : decode prog_6_method_28_code 62 = .ok (.iload_n 1, 1) := by decide +kernel
theorem d_RM_mul_63 : decode prog_6_method_28_code 63 = .ok (.iload 5, 2) := by decide +kernel
theorem d_RM_mul_65 : decode prog_6_method_28_code 65 = .ok (.iload 6, 2) := by decide +kernel
theorem d_RM_mul_67 : decode prog_6_method_28_code 67 = .ok (.invokevirtual 59, 3) := by decide +kernel
theorem d_RM_mul_70 : decode prog_6_method_28_code 70 = .ok (.ireturn, 1) := by decide +kernel
theorem d_RM_mul_71 : decode prog_6_method_28_code 71 = .ok (.aload_n 0, 1) := by decide +kernel
theorem d_RM_mul_72 : decode prog_6_method_28_code 72 = .ok (.invokevirtual 80, 3) := by decide +kernel
theorem d_RM_mul_75 : decode prog_6_method_28_code 75 = .ok (.aload_n 0, 1) := by decide +kernel
theorem d_RM_mul_76 : decode prog_6_method_28_code 76 = .ok (.iload_n 2, 1) := by decide +kernel
theorem d_RM_mul_77 : decode prog_6_method_28_code 77 = .ok (.iload_n 3, 1) := by decide +kernel
theorem d_RM_mul_78 : decode prog_6_method_28_code 78 = .ok (.invokevirtual 107, 3) := by decide +kernel
theorem d_RM_mul_81 : decode prog_6_method_28_code 81 = .ok (.aload_n 0, 1) := by decide +kernel
theorem d_RM_mul_82 : decode prog_6_method_28_code 82 = .ok (.iload_n 1, 1) := by decide +kernel
theorem d_RM_mul_83 : decode prog_6_method_28_code 83 = .ok (.iload 6, 2) := by decide +kernel
theorem d_RM_mul_85 : decode prog_6_method_28_code 85 = .ok (.iload 4, 2) := by decide +kernel
theorem d_RM_mul_87 : decode prog_6_method_28_code 87 = .ok (.invokevirtual 83, 3) := by decide +kernel
theorem d_RM_mul_90 : decode prog_6_method_28_code 90 = .ok (.ireturn, 1) := by decide +kernel
def RM_mul (st : rm_S) (p0 : Int32) (p1 : Int32) (p2 : Int32) (p3 : Int32) : Option (Int32 × rm_S) := nm (RM_isRegister p0) (fun r1 => (if r1 = 0 then some ((9 : Int32), st) else nm (RM_isRegister p1) (fun r8 => (if r8 = 0 then some ((9 : Int32), st) else nm (RM_isRegister p2) (fun r15 => (if r15 = 0 then some ((9 : Int32), st) else nm (RM_isMode p3) (fun r23 => (if r23 = 0 then some ((9 : Int32), st) else ob1 (RM_productKind st p1 p2) (fun r35 => (if ob_in p1 8 = true then (if ob_in p2 8 = true then nm ((st 3 p1.toNatClampNeg) * (st 3 p2.toNatClampNeg)) (fun x53 => (if r35 = (3 : Int32) then ob1 (RM_clear st) (fun t72 => ob1 (RM_putProduct t72 p1 p2) (fun t78 => ob2 (RM_round t78 p0 x53 p3) (fun r87 t87 => some (r87, t87)))) else ob2 (RM_keep st p0 r35 x53) (fun r67 t67 => some (r67, t67)))) else none) else none))))))))))
set_option maxHeartbeats 4000000 in
set_option maxRecDepth 100000 in
theorem c_RM_mul (l : Launch) {D : va_G} (a : Nat → Nat) (ci : ClassId) (hi : rm_inj a) (st : rm_S) (p0 : Int32) (p1 : Int32) (p2 : Int32) (p3 : Int32) (r0 : Int32) (t0 : rm_S) (hF : RM_mul st p0 p1 p2 p3 = some (r0, t0)) : ct_i l ⟨"RoundedNumbersModel", "mul", "(IIII)I"⟩ (.code ⟨"RoundedNumbersModel", "mul", "(IIII)I"⟩ prog_6_method_28_code 7 (some .int) :: ct_T) { frames := 3, cells := 0, slots := 0, locals := 81 } D vwCl (rm_T ci) (rm_g a ci) (rm_X a) [.ref (a 0), .int p0, .int p1, .int p2, .int p3] st r0 t0 := by
  refine ct_i.mk (cc := prog_6_method_28_code) (maxL := 7) (by decide) rfl (Nat.le_of_ble_eq_true rfl) ?_
  intro p e s m below meth c hx hb hr hml hown hts hlk hK hN hP hS ls hl
  have hown : s.vm.findClass "RoundedNumbersModel" = some m.cls := hown
  have hl : lv_has ls 7 [(0, .ref (a 0)), (1, .int p0), (2, .int p1), (3, .int p2), (4, .int p3)] := hl
  have htb := fun w h => hts w (List.mem_cons_of_mem _ h)
  unfold RM_mul at hF
  refine lv_iload_n hx hb d_RM_mul_0 rfl (lv_at hl 1 rfl) ?_
  obtain ⟨r1, e1⟩ := nm_ex (RM_isRegister p0)
  replace hF := (nm_eq e1).symm.trans hF
  refine ct_calli (va_runS (As := [.int p0]) (rest := []) ⟨hx, hb, hml, hown, hts⟩ (c_RM_isRegister l (D := D) a ci hi st p0 _ e1 _) (kc_RM_40 hts ⟨by decide, by decide⟩) ⟨ct_blind, ct_ok hP hK hN⟩ rfl rfl hl.1 rfl (lv_room (Nat.le_of_ble_eq_true rfl)) d_RM_mul_1 ⟨Nat.zero_le _, Nat.zero_le _⟩) hS (fun H locs hP hS => ?_)
  refine lv_if_eq hx hb d_RM_mul_4 (tgt := 29) (by decide) (fun c4 => ?_) (fun c4 => ?_)
  · replace hF := (if_pos c4).symm.trans hF
    refine lv_bipush (v := 9) hx hb d_RM_mul_29 (by decide) ?_
    replace hF := Option.some.inj hF
    obtain ⟨rfl, rfl⟩ := Prod.mk.inj hF
    exact ct_iret hx hb hr hlk hP hS d_RM_mul_31
  · replace hF := (if_neg c4).symm.trans hF
    refine lv_iload_n hx hb d_RM_mul_7 rfl (lv_at hl 2 rfl) ?_
    obtain ⟨r8, e8⟩ := nm_ex (RM_isRegister p1)
    replace hF := (nm_eq e8).symm.trans hF
    refine ct_calli (va_runS (As := [.int p1]) (rest := []) ⟨hx, hb, hml, hown, hts⟩ (c_RM_isRegister l (D := D) a ci hi st p1 _ e8 _) (kc_RM_40 hts ⟨by decide, by decide⟩) ⟨ct_blind, ct_ok hP hK hN⟩ rfl rfl hl.1 rfl (lv_room (Nat.le_of_ble_eq_true rfl)) d_RM_mul_8 ⟨Nat.zero_le _, Nat.zero_le _⟩) hS (fun H locs hP hS => ?_)
    refine lv_if_eq hx hb d_RM_mul_11 (tgt := 29) (by decide) (fun c11 => ?_) (fun c11 => ?_)
    · replace hF := (if_pos c11).symm.trans hF
      refine lv_bipush (v := 9) hx hb d_RM_mul_29 (by decide) ?_
      replace hF := Option.some.inj hF
      obtain ⟨rfl, rfl⟩ := Prod.mk.inj hF
      exact ct_iret hx hb hr hlk hP hS d_RM_mul_31
    · replace hF := (if_neg c11).symm.trans hF
      refine lv_iload_n hx hb d_RM_mul_14 rfl (lv_at hl 3 rfl) ?_
      obtain ⟨r15, e15⟩ := nm_ex (RM_isRegister p2)
      replace hF := (nm_eq e15).symm.trans hF
      refine ct_calli (va_runS (As := [.int p2]) (rest := []) ⟨hx, hb, hml, hown, hts⟩ (c_RM_isRegister l (D := D) a ci hi st p2 _ e15 _) (kc_RM_40 hts ⟨by decide, by decide⟩) ⟨ct_blind, ct_ok hP hK hN⟩ rfl rfl hl.1 rfl (lv_room (Nat.le_of_ble_eq_true rfl)) d_RM_mul_15 ⟨Nat.zero_le _, Nat.zero_le _⟩) hS (fun H locs hP hS => ?_)
      refine lv_if_eq hx hb d_RM_mul_18 (tgt := 29) (by decide) (fun c18 => ?_) (fun c18 => ?_)
      · replace hF := (if_pos c18).symm.trans hF
        refine lv_bipush (v := 9) hx hb d_RM_mul_29 (by decide) ?_
        replace hF := Option.some.inj hF
        obtain ⟨rfl, rfl⟩ := Prod.mk.inj hF
        exact ct_iret hx hb hr hlk hP hS d_RM_mul_31
      · replace hF := (if_neg c18).symm.trans hF
        refine lv_iload hx hb d_RM_mul_21 (lv_at hl 4 rfl) ?_
        obtain ⟨r23, e23⟩ := nm_ex (RM_isMode p3)
        replace hF := (nm_eq e23).symm.trans hF
        refine ct_calli (va_runS (As := [.int p3]) (rest := []) ⟨hx, hb, hml, hown, hts⟩ (c_RM_isMode l (D := D) a ci hi st p3 _ e23 _) (kc_RM_77 hts ⟨by decide, by decide⟩) ⟨ct_blind, ct_ok hP hK hN⟩ rfl rfl hl.1 rfl (lv_room (Nat.le_of_ble_eq_true rfl)) d_RM_mul_23 ⟨Nat.zero_le _, Nat.zero_le _⟩) hS (fun H locs hP hS => ?_)
        refine lv_if_ne hx hb d_RM_mul_26 (tgt := 32) (by decide) (fun c26 => ?_) (fun c26 => ?_)
        · replace hF := (if_neg c26).symm.trans hF
          refine lv_aload_n hx hb d_RM_mul_32 rfl (lv_at hl 0 rfl) ?_
          refine lv_iload_n hx hb d_RM_mul_33 rfl (lv_at hl 2 rfl) ?_
          refine lv_iload_n hx hb d_RM_mul_34 rfl (lv_at hl 3 rfl) ?_
          obtain ⟨r35, e35, hF⟩ := ob_one hF
          refine ct_calli (va_runV (As := [.int p1, .int p2]) (rest := []) ⟨hx, hb, hml, hown, hts⟩ (c_RM_productKind l (D := D) a ci hi st p1 p2 _ e35 _) (kc_RM_104 hts ⟨by decide, by decide⟩) ⟨ct_blind, rm_rc hK hP, ct_ok hP hK hN⟩ rfl rfl hl.1 rfl (lv_room (Nat.le_of_ble_eq_true rfl)) d_RM_mul_35 ⟨Nat.zero_le _, Nat.zero_le _⟩) hS (fun H locs hP hS => ?_)
          refine lv_istore (lv' := [(5, .int r35), (0, .ref (a 0)), (1, .int p0), (2, .int p1), (3, .int p2), (4, .int p3)]) hx hb d_RM_mul_38 hl (by decide) rfl (fun ls hl => ?_)
          refine lv_aload_n hx hb d_RM_mul_40 rfl (lv_at hl 1 rfl) ?_
          refine gf_RM_16 hx hb htb hown hK hP d_RM_mul_41 ?_
          refine lv_iload_n hx hb d_RM_mul_44 rfl (lv_at hl 3 rfl) ?_
          obtain ⟨b45, hF⟩ := ob_if hF
          refine rm_ald hx hb hK hP (k := 3) (by decide) (by decide) (ob_vi b45) d_RM_mul_45 ?_
          refine lv_aload_n hx hb d_RM_mul_46 rfl (lv_at hl 1 rfl) ?_
          refine gf_RM_16 hx hb htb hown hK hP d_RM_mul_47 ?_
          refine lv_iload_n hx hb d_RM_mul_50 rfl (lv_at hl 4 rfl) ?_
          obtain ⟨b51, hF⟩ := ob_if hF
          refine rm_ald hx hb hK hP (k := 3) (by decide) (by decide) (ob_vi b51) d_RM_mul_51 ?_
          refine lv_imul hx hb d_RM_mul_52 ?_
          refine lv_topi (fun x53 e53 => ?_)
          replace hF := (nm_eq e53.symm).symm.trans hF
          refine lv_istore (lv' := [(6, .int x53), (5, .int r35), (0, .ref (a 0)), (1, .int p0), (2, .int p1), (3, .int p2), (4, .int p3)]) hx hb d_RM_mul_53 hl (by decide) rfl (fun ls hl => ?_)
          refine lv_iload hx hb d_RM_mul_55 (lv_at hl 1 rfl) ?_
          refine lv_iconst (v := 3) hx hb d_RM_mul_57 (by decide) ?_
          refine lv_icmp_eq hx hb d_RM_mul_58 (tgt := 71) (by decide) (fun c58 => ?_) (fun c58 => ?_)
          · replace hF := (if_pos c58).symm.trans hF
            refine lv_aload_n hx hb d_RM_mul_71 rfl (lv_at hl 2 rfl) ?_
            obtain ⟨t72, e72, hF⟩ := ob_one hF
            refine ct_callv (va_runV (As := []) (rest := []) ⟨hx, hb, hml, hown, hts⟩ (c_RM_clear l (D := D) a ci hi st _ e72 _) (kc_RM_80 hts ⟨by decide, by decide⟩) ⟨ct_blind, rm_rc hK hP, ct_ok hP hK hN⟩ rfl rfl hl.1 rfl (lv_room (Nat.le_of_ble_eq_true rfl)) d_RM_mul_72 ⟨Nat.zero_le _, Nat.zero_le _⟩) hS (fun H locs hP hS => ?_)
            refine lv_aload_n hx hb d_RM_mul_75 rfl (lv_at hl 2 rfl) ?_
            refine lv_iload_n hx hb d_RM_mul_76 rfl (lv_at hl 4 rfl) ?_
            refine lv_iload_n hx hb d_RM_mul_77 rfl (lv_at hl 5 rfl) ?_
            obtain ⟨t78, e78, hF⟩ := ob_one hF
            refine ct_callv (va_runV (As := [.int p1, .int p2]) (rest := []) ⟨hx, hb, hml, hown, hts⟩ (c_RM_putProduct l (D := D) a ci hi t72 p1 p2 _ e78 _) (kc_RM_107 hts ⟨by decide, by decide⟩) ⟨ct_blind, rm_rc hK hP, ct_ok hP hK hN⟩ rfl rfl hl.1 rfl (lv_room (Nat.le_of_ble_eq_true rfl)) d_RM_mul_78 ⟨Nat.zero_le _, Nat.zero_le _⟩) hS (fun H locs hP hS => ?_)
            refine lv_aload_n hx hb d_RM_mul_81 rfl (lv_at hl 2 rfl) ?_
            refine lv_iload_n hx hb d_RM_mul_82 rfl (lv_at hl 3 rfl) ?_
            refine lv_iload hx hb d_RM_mul_83 (lv_at hl 0 rfl) ?_
            refine lv_iload hx hb d_RM_mul_85 (lv_at hl 6 rfl) ?_
            obtain ⟨r87, t87, e87, hF⟩ := ob_two hF
            refine ct_calli (va_runV (As := [.int p0, .int x53, .int p3]) (rest := []) ⟨hx, hb, hml, hown, hts⟩ (c_RM_round l (D := D) a ci hi t78 p0 x53 p3 _ _ e87 _) (kc_RM_83 hts ⟨by decide, by decide⟩) ⟨ct_blind, rm_rc hK hP, ct_ok hP hK hN⟩ rfl rfl hl.1 rfl (lv_room (Nat.le_of_ble_eq_true rfl)) d_RM_mul_87 ⟨Nat.zero_le _, Nat.zero_le _⟩) hS (fun H locs hP hS => ?_)
            replace hF := Option.some.inj hF
            obtain ⟨rfl, rfl⟩ := Prod.mk.inj hF
            exact ct_iret hx hb hr hlk hP hS d_RM_mul_90
          · replace hF := (if_neg c58).symm.trans hF
            refine lv_aload_n hx hb d_RM_mul_61 rfl (lv_at hl 2 rfl) ?_
            refine lv_iload_n hx hb d_RM_mul_62 rfl (lv_at hl 3 rfl) ?_
            refine lv_iload hx hb d_RM_mul_63 (lv_at hl 1 rfl) ?_
            refine lv_iload hx hb d_RM_mul_65 (lv_at hl 0 rfl) ?_
            obtain ⟨r67, t67, e67, hF⟩ := ob_two hF
            refine ct_calli (va_runV (As := [.int p0, .int r35, .int x53]) (rest := []) ⟨hx, hb, hml, hown, hts⟩ (c_RM_keep l (D := D) a ci hi st p0 r35 x53 _ _ e67 _) (kc_RM_59 hts ⟨by decide, by decide⟩) ⟨ct_blind, rm_rc hK hP, ct_ok hP hK hN⟩ rfl rfl hl.1 rfl (lv_room (Nat.le_of_ble_eq_true rfl)) d_RM_mul_67 ⟨Nat.zero_le _, Nat.zero_le _⟩) hS (fun H locs hP hS => ?_)
            replace hF := Option.some.inj hF
            obtain ⟨rfl, rfl⟩ := Prod.mk.inj hF
            exact ct_iret hx hb hr hlk hP hS d_RM_mul_70
        · replace hF := (if_pos c26).symm.trans hF
          refine lv_bipush (v := 9) hx hb d_RM_mul_29 (by decide) ?_
          replace hF := Option.some.inj hF
          obtain ⟨rfl, rfl⟩ := Prod.mk.inj hF
          exact ct_iret hx hb hr hlk hP hS d_RM_mul_31
