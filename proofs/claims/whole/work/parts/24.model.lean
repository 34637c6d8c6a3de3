theorem d_RM_sumWith_0 : decode prog_6_method_17_code 0 = .ok (.iconst 0, 1) := by decide +kernel
theorem d_RM_sumWith_1 : decode prog_6_method_17_code 1 = .ok (.istore 4, 2) := by decide +kernel
theorem d_RM_sumWith_3 : decode prog_6_method_17_code 3 = .ok (.iload 4, 2) := by decide +kernel
theorem d_RM_sumWith_5 : decode prog_6_method_17_code 5 = .ok (.sipush 1024, 3) := by decide +kernel
theorem d_RM_sumWith_8 : decode prog_6_method_17_code 8 = .ok (.if_icmp .ge 17, 3) := by decide +kernel
theorem d_RM_sumWith_11 : decode prog_6_method_17_code 11 = .ok (.aload_n 0, 1) := by decide +kernel
theorem d_RM_sumWith_12 : decode prog_6_method_17_code 12 = .ok (.getfield 28, 3) := by decide +kernel
theorem d_RM_sumWith_15 : decode prog_6_method_17_code 15 = .ok (.iload 4, 2) := by decide +kernel
theorem d_RM_sumWith_17 : decode prog_6_method_17_code 17 = .ok (.iconst 0, 1) := by decide +kernel
theorem d_RM_sumWith_18 : decode prog_6_method_17_code 18 = .ok (.iastore, 1) := by decide +kernel
theorem d_RM_sumWith_19 : decode prog_6_method_17_code 19 = .ok (.iinc 4 1, 3) := by decide +kernel
theorem d_RM_sumWith_22 : decode prog_6_method_17_code 22 = .ok (.goto (-19), 3) := by decide +kernel
theorem d_RM_sumWith_25 : decode prog_6_method_17_code 25 = .ok (.iconst 0, 1) := by decide +kernel
theorem d_RM_sumWith_26 : decode prog_6_method_17_code 26 = .ok (.istore 4, 2) := by decide +kernel
theorem d_RM_sumWith_28 : decode prog_6_method_17_code 28 = .ok (.iload 4, 2) := by decide +kernel
theorem d_RM_sumWith_30 : decode prog_6_method_17_code 30 = .ok (.aload_n 0, 1) := by decide +kernel
theorem d_RM_sumWith_31 : decode prog_6_method_17_code 31 = .ok (.getfield 7, 3) := by decide +kernel
theorem d_RM_sumWith_34 : decode prog_6_method_17_code 34 = .ok (.iload_n 2, 1) := by decide +kernel
theorem d_RM_sumWith_35 : decode prog_6_method_17_code 35 = .ok (.iaload, 1) := by decide +kernel
theorem d_RM_sumWith_36 : decode prog_6_method_17_code 36 = .ok (.if_icmp .ge 41, 3) := by decide +kernel
theorem d_RM_sumWith_39 : decode prog_6_method_17_code 39 = .ok (.aload_n 0, 1) := by decide +kernel
theorem d_RM_sumWith_40 : decode prog_6_method_17_code 40 = .ok (.getfield 28, 3) := by decide +kernel
theorem d_RM_sumWith_43 : decode prog_6_method_17_code 43 = .ok (.sipush 600, 3) := by decide +kernel
theorem d_RM_sumWith_46 : decode prog_6_method_17_code 46 = .ok (.aload_n 0, 1) := by decide +kernel
theorem d_RM_sumWith_47 : decode prog_6_method_17_code 47 = .ok (.getfield 19, 3) := by decide +kernel
theorem d_RM_sumWith_50 : decode prog_6_method_17_code 50 = .ok (.iload_n 2, 1) := by decide +kernel
theorem d_RM_sumWith_51 : decode prog_6_method_17_code 51 = .ok (.iaload, 1) := by decide +kernel
theorem d_RM_sumWith_52 : decode prog_6_method_17_code 52 = .ok (.iadd, 1) := by decide +kernel
theorem d_RM_sumWith_53 : decode prog_6_method_17_code 53 = .ok (.iconst 1, 1) := by decide +kernel
theorem d_RM_sumWith_54 : decode prog_6_method_17_code 54 = .ok (.isub, 1) := by decide +kernel
theorem d_RM_sumWith_55 : decode prog_6_method_17_code 55 = .ok (.iload 4, 2) := by decide +kernel
theorem d_RM_sumWith_57 : decode prog_6_method_17_code 57 = .ok (.isub, 1) := by decide +kernel
theorem d_RM_sumWith_58 : decode prog_6_method_17_code 58 = .ok (.aload_n 0, 1) := by decide +kernel
theorem d_RM_sumWith_59 : decode prog_6_method_17_code 59 = .ok (.getfield 22, 3) := by decide +kernel
theorem d_RM_sumWith_62 : decode prog_6_method_17_code 62 = .ok (.bipush 93, 2) := by decide +kernel
theorem d_RM_sumWith_64 : decode prog_6_method_17_code 64 = .ok (.iload_n 2, 1) := by decide +kernel
theorem d_RM_sumWith_65 : decode prog_6_method_17_code 65 = .ok (.imul, 1) := by decide +kernel
theorem d_RM_sumWith_66 : decode prog_6_method_17_code 66 = .ok (.iload 4, 2) := by decide +kernel
theorem d_RM_sumWith_68 : decode prog_6_method_17_code 68 = .ok (.iadd, 1) := by decide +kernel
theorem d_RM_sumWith_69 : decode prog_6_method_17_code 69 = .ok (.iaload, 1) := by decide +kernel
theorem d_RM_sumWith_70 : decode prog_6_method_17_code 70 = .ok (.iastore, 1) := by decide +kernel
theorem d_RM_sumWith_71 : decode prog_6_method_17_code 71 = .ok (.iinc 4 1, 3) := by decide +kernel
theorem d_RM_sumWith_74 : decode prog_6_method_17_code 74 = .ok (.goto (-46), 3) := by decide +kernel
theorem d_RM_sumWith_77 : decode prog_6_method_17_code 77 = .ok (.iload_n 1, 1) := by decide +kernel
theorem d_RM_sumWith_78 : decode prog_6_method_17_code 78 = .ok (.iload_n 3, 1) := by decide +kernel
theorem d_RM_sumWith_79 : decode prog_6_method_17_code 79 = .ok (.if_icmp .ne 7, 3) := by decide +kernel
theorem d_RM_sumWith_82 : decode prog_6_method_17_code 82 = .ok (.iconst 2, 1) := by decide +kernel
theorem d_RM_sumWith_83 : decode prog_6_method_17_code 83 = .ok (.goto 7, 3) := by decide +kernel
theorem d_RM_sumWith_86 : decode prog_6_method_17_code 86 = .ok (.aload_n 0, 1) := by decide +kernel
theorem d_RM_sumWith_87 : decode prog_6_method_17_code 87 = .ok (.invokevirtual 70, 3) := by decide +kernel
theorem d_RM_sumWith_90 : decode prog_6_method_17_code 90 = .ok (.istore 4, 2) := by decide +kernel
theorem d_RM_sumWith_92 : decode prog_6_method_17_code 92 = .ok (.iconst 0, 1) := by decide +kernel
theorem d_RM_sumWith_93 : decode prog_6_method_17_code 93 = .ok (.istore 5, 2) := by decide +kernel
theorem d_RM_sumWith_95 : decode prog_6_method_17_code 95 = .ok (.iconst 0, 1) := by decide +kernel
theorem d_RM_sumWith_96 : decode prog_6_method_17_code 96 = .ok (.istore 6, 2) := by decide +kernel
theorem d_RM_sumWith_98 : decode prog_6_method_17_code 98 = .ok (.iload 6, 2) := by decide +kernel
theorem d_RM_sumWith_100 : decode prog_6_method_17_code 100 = .ok (.sipush 1024, 3) := by decide +kernel
theorem d_RM_sumWith_103 : decode prog_6_method_17_code 103 = .ok (.if_icmp .ge 99, 3) := by decide +kernel
theorem d_RM_sumWith_106 : decode prog_6_method_17_code 106 = .ok (.iload 4, 2) := by decide +kernel
theorem d_RM_sumWith_108 : decode prog_6_method_17_code 108 = .ok (.iconst 2, 1) := by decide +kernel
theorem d_RM_sumWith_109 : decode prog_6_method_17_code 109 = .ok (.if_icmp .ne 24, 3) := by decide +kernel
theorem d_RM_sumWith_112 : decode prog_6_method_17_code 112 = .ok (.aload_n 0, 1) := by decide +kernel
theorem d_RM_sumWith_113 : decode prog_6_method_17_code 113 = .ok (.getfield 25, 3) := by decide +kernel
theorem d_RM_sumWith_116 : decode prog_6_method_17_code 116 = .ok (.iload 6, 2) := by decide +kernel
theorem d_RM_sumWith_118 : decode prog_6_method_17_code 118 = .ok (.iaload, 1) := by decide +kernel
theorem d_RM_sumWith_119 : decode prog_6_method_17_code 119 = .ok (.aload_n 0, 1) := by decide +kernel
theorem d_RM_sumWith_120 : decode prog_6_method_17_code 120 = .ok (.getfield 28, 3) := by decide +kernel
theorem d_RM_sumWith_123 : decode prog_6_method_17_code 123 = .ok (.iload 6, 2) := by decide +kernel
theorem d_RM_sumWith_125 : decode prog_6_method_17_code 125 = .ok (.iaload, 1) := by decide +kernel
theorem d_RM_sumWith_126 : decode prog_6_method_17_code 126 = .ok (.iadd, 1) := by decide +kernel
theorem d_RM_sumWith_127 : decode prog_6_method_17_code 127 = .ok (.iload 5, 2) := by decide +kernel
theorem d_RM_sumWith_129 : decode prog_6_method_17_code 129 = .ok (.iadd, 1) := by decide +kernel
theorem d_RM_sumWith_130 : decode prog_6_method_17_code 130 = .ok (.goto 47, 3) := by decide +kernel
theorem d_RM_sumWith_133 : decode prog_6_method_17_code 133 = .ok (.iload 4, 2) := by decide +kernel
theorem d_RM_sumWith_135 : decode prog_6_method_17_code 135 = .ok (.ifCond .lt 24, 3) := by decide +kernel
theorem d_RM_sumWith_138 : decode prog_6_method_17_code 138 = .ok (.aload_n 0, 1) := by decide +kernel
theorem d_RM_sumWith_139 : decode prog_6_method_17_code 139 = .ok (.getfield 25, 3) := by decide +kernel
theorem d_RM_sumWith_142 : decode prog_6_method_17_code 142 = .ok (.iload 6, 2) := by decide +kernel
theorem d_RM_sumWith_144 : decode prog_6_method_17_code 144 = .ok (.iaload, 1) := by decide +kernel
theorem d_RM_sumWith_145 : decode prog_6_method_17_code 145 = .ok (.aload_n 0, 1) := by decide +kernel
theorem d_RM_sumWith_146 : decode prog_6_method_17_code 146 = .ok (.getfield 28, 3) := by decide +kernel
theorem d_RM_sumWith_149 : decode prog_6_method_17_code 149 = .ok (.iload 6, 2) := by decide +kernel
theorem d_RM_sumWith_151 : decode prog_6_method_17_code 151 = .ok (.iaload, 1) := by decide +kernel
theorem d_RM_sumWith_152 : decode prog_6_method_17_code 152 = .ok (.isub, 1) := by decide +kernel
theorem d_RM_sumWith_153 : decode prog_6_method_17_code 153 = .ok (.iload 5, 2) := by decide +kernel
theorem d_RM_sumWith_155 : decode prog_6_method_17_code 155 = .ok (.iadd, 1) := by decide +kernel
theorem d_RM_sumWith_156 : decode prog_6_method_17_code 156 = .ok (.goto 21, 3) := by decide +kernel
theorem d_RM_sumWith_159 : decode prog_6_method_17_code 159 = .ok (.aload_n 0, 1) := by decide +kernel
theorem d_RM_sumWith_160 : decode prog_6_method_17_code 160 = .ok (.getfield 28, 3) := by decide +kernel
theorem d_RM_sumWith_163 : decode prog_6_method_17_code 163 = .ok (.iload 6, 2) := by decide +kernel
theorem d_RM_sumWith_165 : decode prog_6_method_17_code 165 = .ok (.iaload, 1) := by decide +kernel
theorem d_RM_sumWith_166 : decode prog_6_method_17_code 166 = .ok (.aload_n 0, 1) := by decide +kernel
theorem d_RM_sumWith_167 : decode prog_6_method_17_code 167 = .ok (.getfield 25, 3) := by decide +kernel
theorem d_RM_sumWith_170 : decode prog_6_method_17_code 170 = .ok (.iload 6, 2) := by decide +kernel
theorem d_RM_sumWith_172 : decode prog_6_method_17_code 172 = .ok (.iaload, 1) := by decide +kernel
theorem d_RM_sumWith_173 : decode prog_6_method_17_code 173 = .ok (.isub, 1) := by decide +kernel
theorem d_RM_sumWith_174 : decode prog_6_method_17_code 174 = .ok (.iload 5, 2) := by decide +kernel
theorem d_RM_sumWith_176 : decode prog_6_method_17_code 176 = .ok (.iadd, 1) := by decide +kernel
theorem d_RM_sumWith_177 : decode prog_6_method_17_code 177 = .ok (.istore 7, 2) := by decide +kernel
theorem d_RM_sumWith_179 : decode prog_6_method_17_code 179 = .ok (.aload_n 0, 1) := by decide +kernel
theorem d_RM_sumWith_180 : decode prog_6_method_17_code 180 = .ok (.getfield 25, 3) := by decide +kernel
theorem d_RM_sumWith_183 : decode prog_6_method_17_code 183 = .ok (.iload 6, 2) := by decide +kernel
theorem d_RM_sumWith_185 : decode prog_6_method_17_code 185 = .ok (.iload 7, 2) := by decide +kernel
theorem d_RM_sumWith_187 : decode prog_6_method_17_code 187 = .ok (.iconst 1, 1) := by decide +kernel
theorem d_RM_sumWith_188 : decode prog_6_method_17_code 188 = .ok (.iand, 1) := by decide +kernel
theorem d_RM_sumWith_189 : decode prog_6_method_17_code 189 = .ok (.iastore, 1) := by decide +kernel
theorem d_RM_sumWith_190 : decode prog_6_method_17_code 190 = .ok (.iload 7, 2) := by decide +kernel
theorem d_RM_sumWith_192 : decode prog_6_method_17_code 192 = .ok (.iconst 1, 1) := by decide +kernel
theorem d_RM_sumWith_193 : decode prog_6_method_17_code 193 = .ok (.ishr, 1) := by decide +kernel
theorem d_RM_sumWith_194 : decode prog_6_method_17_code 194 = .ok (.istore 5, 2) := by decide +kernel
theorem d_RM_sumWith_196 : decode prog_6_method_17_code 196 = .ok (.iinc 6 1, 3) := by decide +kernel
theorem d_RM_sumWith_199 : decode prog_6_method_17_code 199 = .ok (.goto (-101), 3) := by decide +kernel
theorem d_RM_sumWith_202 : decode prog_6_method_17_code 202 = .ok (.iload 4, 2) := by decide +kernel
theorem d_RM_sumWith_204 : decode prog_6_method_17_code 204 = .ok (.ifCond .ne 7, 3) := by decide +kernel
theorem d_RM_sumWith_207 : decode prog_6_method_17_code 207 = .ok (.iconst 0, 1) := by decide +kernel
theorem d_RM_sumWith_208 : decode prog_6_method_17_code 208 = .ok (.goto 14, 3) := by decide +kernel
theorem d_RM_sumWith_211 : decode prog_6_method_17_code 211 = .ok (.iload 4, 2) := by decide +kernel
theorem d_RM_sumWith_213 : decode prog_6_method_17_code 213 = .ok (.iconst (-1), 1) := by decide +kernel
theorem d_RM_sumWith_214 : decode prog_6_method_17_code 214 = .ok (.if_icmp .ne 7, 3) := by decide +kernel
theorem d_RM_sumWith_217 : decode prog_6_method_17_code 217 = .ok (.iload_n 3, 1) := by decide +kernel
theorem d_RM_sumWith_218 : decode prog_6_method_17_code 218 = .ok (.goto 4, 3) := by decide +kernel
theorem d_RM_sumWith_221 : decode prog_6_method_17_code 221 = .ok (.iload_n 1, 1) := by decide +kernel
theorem d_RM_sumWith_222 : decode prog_6_method_17_code 222 = .ok (.ireturn, 1) := by decide +kernel
def RM_sumWith_177 (k98 : Int32 → Int32 → Int32 → Int32 → Int32 → rm_S → Option (Int32 × rm_S)) (L1 : Int32) (L3 : Int32) (L4 : Int32) (L6 : Int32) (s0 : Int32) (st : rm_S) : Option (Int32 × rm_S) := (if ob_in L6 1024 = true then nm (rm_up st 6 L6.toNatClampNeg (s0 &&& (1 : Int32))) (fun t189 => nm (s0 >>> ((1 : Int32) &&& 31)) (fun x194 => nm (L6 + (1 : Int32)) (fun x196 => k98 L1 L3 L4 x194 x196 t189))) else none)
def RM_sumWith_98 : Nat → Int32 → Int32 → Int32 → Int32 → Int32 → rm_S → Option (Int32 × rm_S)
  | 0, _, _, _, _, _, _ => none
  | n + 1, L1, L3, L4, L5, L6, st => (if (1024 : Int32) ≤ L6 then (if L4 = 0 then some ((0 : Int32), st) else (if L4 = (-1 : Int32) then some (L3, st) else some (L1, st))) else (if L4 = (2 : Int32) then (if ob_in L6 1024 = true then (if ob_in L6 1024 = true then RM_sumWith_177 (RM_sumWith_98 n) L1 L3 L4 L6 (((st 6 L6.toNatClampNeg) + (st 7 L6.toNatClampNeg)) + L5) st else none) else none) else (if L4 < 0 then (if ob_in L6 1024 = true then (if ob_in L6 1024 = true then RM_sumWith_177 (RM_sumWith_98 n) L1 L3 L4 L6 (((st 7 L6.toNatClampNeg) - (st 6 L6.toNatClampNeg)) + L5) st else none) else none) else (if ob_in L6 1024 = true then (if ob_in L6 1024 = true then RM_sumWith_177 (RM_sumWith_98 n) L1 L3 L4 L6 (((st 6 L6.toNatClampNeg) - (st 7 L6.toNatClampNeg)) + L5) st else none) else none))))
def RM_sumWith_90 (L1 : Int32) (L3 : Int32) (s0 : Int32) (st : rm_S) : Option (Int32 × rm_S) := RM_sumWith_98 (2000) L1 L3 s0 (0 : Int32) (0 : Int32) st
def RM_sumWith_28 : Nat → Int32 → Int32 → Int32 → Int32 → rm_S → Option (Int32 × rm_S)
  | 0, _, _, _, _, _ => none
  | n + 1, L1, L2, L3, L4, st => (if ob_in L2 8 = true then (if (st 1 L2.toNatClampNeg) ≤ L4 then (if L1 = L3 then RM_sumWith_90 L1 L3 (2 : Int32) st else ob1 (RM_compareRows st) (fun r87 => RM_sumWith_90 L1 L3 r87 st)) else (if ob_in L2 8 = true then (if ob_in (((93 : Int32) * L2) + L4) 744 = true then (if ob_in ((((600 : Int32) + (st 4 L2.toNatClampNeg)) - (1 : Int32)) - L4) 1024 = true then nm (rm_up st 7 ((((600 : Int32) + (st 4 L2.toNatClampNeg)) - (1 : Int32)) - L4).toNatClampNeg (st 5 (((93 : Int32) * L2) + L4).toNatClampNeg)) (fun t70 => nm (L4 + (1 : Int32)) (fun x71 => (RM_sumWith_28 n) L1 L2 L3 x71 t70)) else none) else none) else none)) else none)
def RM_sumWith_3 : Nat → Int32 → Int32 → Int32 → Int32 → rm_S → Option (Int32 × rm_S)
  | 0, _, _, _, _, _ => none
  | n + 1, L1, L2, L3, L4, st => (if (1024 : Int32) ≤ L4 then RM_sumWith_28 (2000) L1 L2 L3 (0 : Int32) st else (if ob_in L4 1024 = true then nm (rm_up st 7 L4.toNatClampNeg (0 : Int32)) (fun t18 => nm (L4 + (1 : Int32)) (fun x19 => (RM_sumWith_3 n) L1 L2 L3 x19 t18)) else none))
def RM_sumWith (st : rm_S) (p0 : Int32) (p1 : Int32) (p2 : Int32) : Option (Int32 × rm_S) := RM_sumWith_3 (2000) p0 p1 p2 (0 : Int32) st
set_option maxHeartbeats 4000000 in
set_option maxRecDepth 100000 in
theorem c_RM_sumWith (l : Launch) {D : va_G} (a : Nat → Nat) (ci : ClassId) (hi : rm_inj a) (st : rm_S) (p0 : Int32) (p1 : Int32) (p2 : Int32) (r0 : Int32) (t0 : rm_S) (hF : RM_sumWith st p0 p1 p2 = some (r0, t0)) : ct_i l ⟨"RoundedNumbersModel", "sumWith", "(III)I"⟩ (.code ⟨"RoundedNumbersModel", "sumWith", "(III)I"⟩ prog_6_method_17_code 8 (some .int) :: ct_T) { frames := 1, cells := 0, slots := 0, locals := 21 } D vwCl (rm_T ci) (rm_g a ci) (rm_X a) [.ref (a 0), .int p0, .int p1, .int p2] st r0 t0 := by
  refine ct_i.mk (cc := prog_6_method_17_code) (maxL := 8) (by decide) rfl (Nat.le_of_ble_eq_true rfl) ?_
  intro p e s m below meth c hx hb hr hml hown hts hlk hK hN hP hS ls hl
  have hown : s.vm.findClass "RoundedNumbersModel" = some m.cls := hown
  have hl : lv_has ls 8 [(0, .ref (a 0)), (1, .int p0), (2, .int p1), (3, .int p2)] := hl
  have htb := fun w h => hts w (List.mem_cons_of_mem _ h)
  unfold RM_sumWith at hF
  refine lv_iconst (v := 0) hx hb d_RM_sumWith_0 (by decide) ?_
  refine lv_istore (lv' := [(4, .int (0 : Int32)), (0, .ref (a 0)), (1, .int p0), (2, .int p1), (3, .int p2)]) hx hb d_RM_sumWith_1 hl (by decide) rfl (fun ls hl => ?_)
  refine ct_loop2 (fun n (w3L4 : Int32) (w3t : rm_S) ls H locs => lv_has ls 8 [(4, .int w3L4), (0, .ref (a 0)), (1, .int p0), (2, .int p1), (3, .int p2)] ∧ RM_sumWith_3 n p0 p1 p2 w3L4 w3t = some (r0, t0) ∧ va_P D vwCl (rm_g a ci w3t) H ∧ va_S (ct_F (rm_X a) s.heap.size) s.heap H locs) 3 ?_ ?_ (2000) (0 : Int32) st ⟨lv_sub hl [0, 1, 2, 3, 4] rfl, hF, hP, hS⟩
  · intro w3L4 w3t ls H locs hq
    obtain ⟨hl, hF, hP, hS⟩ := hq
    rw [RM_sumWith_3] at hF
    cases hF
  · intro n3 ih3 w3L4 w3t ls H locs hq
    obtain ⟨hl, hF, hP, hS⟩ := hq
    rw [RM_sumWith_3] at hF
    refine lv_iload hx hb d_RM_sumWith_3 (lv_at hl 0 rfl) ?_
    refine lv_sipush (v := 1024) hx hb d_RM_sumWith_5 (by decide) ?_
    refine lv_icmp_ge hx hb d_RM_sumWith_8 (tgt := 25) (by decide) (fun c8 => ?_) (fun c8 => ?_)
    · replace hF := (if_pos c8).symm.trans hF
      refine lv_iconst (v := 0) hx hb d_RM_sumWith_25 (by decide) ?_
      refine lv_istore (lv' := [(4, .int (0 : Int32)), (0, .ref (a 0)), (1, .int p0), (2, .int p1), (3, .int p2)]) hx hb d_RM_sumWith_26 hl (by decide) rfl (fun ls hl => ?_)
      refine ct_loop2 (fun n (w28L4 : Int32) (w28t : rm_S) ls H locs => lv_has ls 8 [(4, .int w28L4), (0, .ref (a 0)), (1, .int p0), (2, .int p1), (3, .int p2)] ∧ RM_sumWith_28 n p0 p1 p2 w28L4 w28t = some (r0, t0) ∧ va_P D vwCl (rm_g a ci w28t) H ∧ va_S (ct_F (rm_X a) s.heap.size) s.heap H locs) 28 ?_ ?_ (2000) (0 : Int32) w3t ⟨lv_sub hl [0, 1, 2, 3, 4] rfl, hF, hP, hS⟩
      · intro w28L4 w28t ls H locs hq
        obtain ⟨hl, hF, hP, hS⟩ := hq
        rw [RM_sumWith_28] at hF
        cases hF
      · intro n28 ih28 w28L4 w28t ls H locs hq
        obtain ⟨hl, hF, hP, hS⟩ := hq
        rw [RM_sumWith_28] at hF
        refine lv_iload hx hb d_RM_sumWith_28 (lv_at hl 0 rfl) ?_
        refine lv_aload_n hx hb d_RM_sumWith_30 rfl (lv_at hl 1 rfl) ?_
        refine gf_RM_7 hx hb htb hown hK hP d_RM_sumWith_31 ?_
        refine lv_iload_n hx hb d_RM_sumWith_34 rfl (lv_at hl 3 rfl) ?_
        obtain ⟨b35, hF⟩ := ob_if hF
        refine rm_ald hx hb hK hP (k := 1) (by decide) (by decide) (ob_vi b35) d_RM_sumWith_35 ?_
        refine lv_icmp_ge hx hb d_RM_sumWith_36 (tgt := 77) (by decide) (fun c36 => ?_) (fun c36 => ?_)
        · replace hF := (if_pos c36).symm.trans hF
          refine lv_iload_n hx hb d_RM_sumWith_77 rfl (lv_at hl 2 rfl) ?_
          refine lv_iload_n hx hb d_RM_sumWith_78 rfl (lv_at hl 4 rfl) ?_
          refine ct_cut1 (fun (j90s0 : Int32) ls H locs => lv_has ls 8 [(0, .ref (a 0)), (1, .int p0), (3, .int p2)] ∧ RM_sumWith_90 p0 p2 j90s0 w28t = some (r0, t0) ∧ va_P D vwCl (rm_g a ci w28t) H ∧ va_S (ct_F (rm_X a) s.heap.size) s.heap H locs) 90 (fun j90s0 => [.int j90s0]) ?_ ?_
          · intro j90s0 ls H locs hq
            obtain ⟨hl, hF, hP, hS⟩ := hq
            unfold RM_sumWith_90 at hF
            refine lv_istore (lv' := [(4, .int j90s0), (0, .ref (a 0)), (1, .int p0), (3, .int p2)]) hx hb d_RM_sumWith_90 hl (by decide) rfl (fun ls hl => ?_)
            refine lv_iconst (v := 0) hx hb d_RM_sumWith_92 (by decide) ?_
            refine lv_istore (lv' := [(5, .int (0 : Int32)), (4, .int j90s0), (0, .ref (a 0)), (1, .int p0), (3, .int p2)]) hx hb d_RM_sumWith_93 hl (by decide) rfl (fun ls hl => ?_)
            refine lv_iconst (v := 0) hx hb d_RM_sumWith_95 (by decide) ?_
            refine lv_istore (lv' := [(6, .int (0 : Int32)), (5, .int (0 : Int32)), (4, .int j90s0), (0, .ref (a 0)), (1, .int p0), (3, .int p2)]) hx hb d_RM_sumWith_96 hl (by decide) rfl (fun ls hl => ?_)
            refine ct_loop3 (fun n (w98L6 : Int32) (w98L5 : Int32) (w98t : rm_S) ls H locs => lv_has ls 8 [(6, .int w98L6), (5, .int w98L5), (4, .int j90s0), (0, .ref (a 0)), (1, .int p0), (3, .int p2)] ∧ RM_sumWith_98 n p0 p2 j90s0 w98L5 w98L6 w98t = some (r0, t0) ∧ va_P D vwCl (rm_g a ci w98t) H ∧ va_S (ct_F (rm_X a) s.heap.size) s.heap H locs) 98 ?_ ?_ (2000) (0 : Int32) (0 : Int32) w28t ⟨lv_sub hl [0, 1, 2, 3, 4, 5] rfl, hF, hP, hS⟩
            · intro w98L6 w98L5 w98t ls H locs hq
              obtain ⟨hl, hF, hP, hS⟩ := hq
              rw [RM_sumWith_98] at hF
              cases hF
            · intro n98 ih98 w98L6 w98L5 w98t ls H locs hq
              obtain ⟨hl, hF, hP, hS⟩ := hq
              rw [RM_sumWith_98] at hF
              refine lv_iload hx hb d_RM_sumWith_98 (lv_at hl 0 rfl) ?_
              refine lv_sipush (v := 1024) hx hb d_RM_sumWith_100 (by decide) ?_
              refine lv_icmp_ge hx hb d_RM_sumWith_103 (tgt := 202) (by decide) (fun c103 => ?_) (fun c103 => ?_)
              · replace hF := (if_pos c103).symm.trans hF
                refine lv_iload hx hb d_RM_sumWith_202 (lv_at hl 2 rfl) ?_
                refine lv_if_ne hx hb d_RM_sumWith_204 (tgt := 211) (by decide) (fun c204 => ?_) (fun c204 => ?_)
                · replace hF := (if_neg c204).symm.trans hF
                  refine lv_iload hx hb d_RM_sumWith_211 (lv_at hl 2 rfl) ?_
                  refine lv_iconst (v := -1) hx hb d_RM_sumWith_213 (by decide) ?_
                  refine lv_icmp_ne hx hb d_RM_sumWith_214 (tgt := 221) (by decide) (fun c214 => ?_) (fun c214 => ?_)
                  · replace hF := (if_neg c214).symm.trans hF
                    refine lv_iload_n hx hb d_RM_sumWith_221 rfl (lv_at hl 4 rfl) ?_
                    replace hF := Option.some.inj hF
                    obtain ⟨rfl, rfl⟩ := Prod.mk.inj hF
                    exact ct_iret hx hb hr hlk hP hS d_RM_sumWith_222
                  · replace hF := (if_pos c214).symm.trans hF
                    refine lv_iload_n hx hb d_RM_sumWith_217 rfl (lv_at hl 5 rfl) ?_
                    refine lv_goto hx hb d_RM_sumWith_218 (tgt := 222) (by decide) ?_
                    replace hF := Option.some.inj hF
                    obtain ⟨rfl, rfl⟩ := Prod.mk.inj hF
                    exact ct_iret hx hb hr hlk hP hS d_RM_sumWith_222
                · replace hF := (if_pos c204).symm.trans hF
                  refine lv_iconst (v := 0) hx hb d_RM_sumWith_207 (by decide) ?_
                  refine lv_goto hx hb d_RM_sumWith_208 (tgt := 222) (by decide) ?_
                  replace hF := Option.some.inj hF
                  obtain ⟨rfl, rfl⟩ := Prod.mk.inj hF
                  exact ct_iret hx hb hr hlk hP hS d_RM_sumWith_222
              · replace hF := (if_neg c103).symm.trans hF
                refine lv_iload hx hb d_RM_sumWith_106 (lv_at hl 2 rfl) ?_
                refine lv_iconst (v := 2) hx hb d_RM_sumWith_108 (by decide) ?_
                refine ct_cut1 (fun (j177s0 : Int32) ls H locs => lv_has ls 8 [(6, .int w98L6), (4, .int j90s0), (0, .ref (a 0)), (1, .int p0), (3, .int p2)] ∧ RM_sumWith_177 (RM_sumWith_98 n98) p0 p2 j90s0 w98L6 j177s0 w98t = some (r0, t0) ∧ va_P D vwCl (rm_g a ci w98t) H ∧ va_S (ct_F (rm_X a) s.heap.size) s.heap H locs) 177 (fun j177s0 => [.int j177s0]) ?_ ?_
                · intro j177s0 ls H locs hq
                  obtain ⟨hl, hF, hP, hS⟩ := hq
                  unfold RM_sumWith_177 at hF
                  refine lv_istore (lv' := [(7, .int j177s0), (6, .int w98L6), (4, .int j90s0), (0, .ref (a 0)), (1, .int p0), (3, .int p2)]) hx hb d_RM_sumWith_177 hl (by decide) rfl (fun ls hl => ?_)
                  refine lv_aload_n hx hb d_RM_sumWith_179 rfl (lv_at hl 3 rfl) ?_
                  refine gf_RM_25 hx hb htb hown hK hP d_RM_sumWith_180 ?_
                  refine lv_iload hx hb d_RM_sumWith_183 (lv_at hl 1 rfl) ?_
                  refine lv_iload hx hb d_RM_sumWith_185 (lv_at hl 0 rfl) ?_
                  refine lv_iconst (v := 1) hx hb d_RM_sumWith_187 (by decide) ?_
                  refine lv_iand hx hb d_RM_sumWith_188 ?_
                  obtain ⟨b189, hF⟩ := ob_if hF
                  refine rm_ast hx hb hK hP hS hi (k := 6) (by decide) (by decide) (ob_vi b189) d_RM_sumWith_189 (fun H locs hP hS => ?_)
                  obtain ⟨t189, e189, hP⟩ := nm_st hP
                  replace hF := (nm_eq e189).symm.trans hF
                  refine lv_iload hx hb d_RM_sumWith_190 (lv_at hl 0 rfl) ?_
                  refine lv_iconst (v := 1) hx hb d_RM_sumWith_192 (by decide) ?_
                  refine lv_ishr hx hb d_RM_sumWith_193 ?_
                  refine lv_topi (fun x194 e194 => ?_)
                  replace hF := (nm_eq e194.symm).symm.trans hF
                  refine lv_istore (lv' := [(5, .int x194), (7, .int j177s0), (6, .int w98L6), (4, .int j90s0), (0, .ref (a 0)), (1, .int p0), (3, .int p2)]) hx hb d_RM_sumWith_194 hl (by decide) rfl (fun ls hl => ?_)
                  obtain ⟨x196, e196⟩ := nm_ex (w98L6 + (1 : Int32))
                  replace hF := (nm_eq e196).symm.trans hF
                  refine lv_iinc (v := x196) (lv' := [(6, .int x196), (5, .int x194), (7, .int j177s0), (4, .int j90s0), (0, .ref (a 0)), (1, .int p0), (3, .int p2)]) hx hb d_RM_sumWith_196 hl (k := 2) rfl e196 (by decide) rfl (fun ls hl => ?_)
                  refine lv_goto hx hb d_RM_sumWith_199 (tgt := 98) (by decide) ?_
                  exact ih98 x196 x194 t189 _ _ _ ⟨lv_sub hl [0, 1, 3, 4, 5, 6] rfl, hF, hP, hS⟩
                · intro kj177
                  refine lv_icmp_ne hx hb d_RM_sumWith_109 (tgt := 133) (by decide) (fun c109 => ?_) (fun c109 => ?_)
                  · replace hF := (if_neg c109).symm.trans hF
                    refine lv_iload hx hb d_RM_sumWith_133 (lv_at hl 2 rfl) ?_
                    refine lv_if_lt hx hb d_RM_sumWith_135 (tgt := 159) (by decide) (fun c135 => ?_) (fun c135 => ?_)
                    · replace hF := (if_pos c135).symm.trans hF
                      refine lv_aload_n hx hb d_RM_sumWith_159 rfl (lv_at hl 3 rfl) ?_
                      refine gf_RM_28 hx hb htb hown hK hP d_RM_sumWith_160 ?_
                      refine lv_iload hx hb d_RM_sumWith_163 (lv_at hl 0 rfl) ?_
                      obtain ⟨b165, hF⟩ := ob_if hF
                      refine rm_ald hx hb hK hP (k := 7) (by decide) (by decide) (ob_vi b165) d_RM_sumWith_165 ?_
                      refine lv_aload_n hx hb d_RM_sumWith_166 rfl (lv_at hl 3 rfl) ?_
                      refine gf_RM_25 hx hb htb hown hK hP d_RM_sumWith_167 ?_
                      refine lv_iload hx hb d_RM_sumWith_170 (lv_at hl 0 rfl) ?_
                      obtain ⟨b172, hF⟩ := ob_if hF
                      refine rm_ald hx hb hK hP (k := 6) (by decide) (by decide) (ob_vi b172) d_RM_sumWith_172 ?_
                      refine lv_isub hx hb d_RM_sumWith_173 ?_
                      refine lv_iload hx hb d_RM_sumWith_174 (lv_at hl 1 rfl) ?_
                      refine lv_iadd hx hb d_RM_sumWith_176 ?_
                      exact kj177 (((w98t 7 w98L6.toNatClampNeg) - (w98t 6 w98L6.toNatClampNeg)) + w98L5) _ _ _ ⟨lv_sub hl [0, 2, 3, 4, 5] rfl, hF, hP, hS⟩
                    · replace hF := (if_neg c135).symm.trans hF
                      refine lv_aload_n hx hb d_RM_sumWith_138 rfl (lv_at hl 3 rfl) ?_
                      refine gf_RM_25 hx hb htb hown hK hP d_RM_sumWith_139 ?_
                      refine lv_iload hx hb d_RM_sumWith_142 (lv_at hl 0 rfl) ?_
                      obtain ⟨b144, hF⟩ := ob_if hF
                      refine rm_ald hx hb hK hP (k := 6) (by decide) (by decide) (ob_vi b144) d_RM_sumWith_144 ?_
                      refine lv_aload_n hx hb d_RM_sumWith_145 rfl (lv_at hl 3 rfl) ?_
                      refine gf_RM_28 hx hb htb hown hK hP d_RM_sumWith_146 ?_
                      refine lv_iload hx hb d_RM_sumWith_149 (lv_at hl 0 rfl) ?_
                      obtain ⟨b151, hF⟩ := ob_if hF
                      refine rm_ald hx hb hK hP (k := 7) (by decide) (by decide) (ob_vi b151) d_RM_sumWith_151 ?_
                      refine lv_isub hx hb d_RM_sumWith_152 ?_
                      refine lv_iload hx hb d_RM_sumWith_153 (lv_at hl 1 rfl) ?_
                      refine lv_iadd hx hb d_RM_sumWith_155 ?_
                      refine lv_goto hx hb d_RM_sumWith_156 (tgt := 177) (by decide) ?_
                      exact kj177 (((w98t 6 w98L6.toNatClampNeg) - (w98t 7 w98L6.toNatClampNeg)) + w98L5) _ _ _ ⟨lv_sub hl [0, 2, 3, 4, 5] rfl, hF, hP, hS⟩
                  · replace hF := (if_pos c109).symm.trans hF
                    refine lv_aload_n hx hb d_RM_sumWith_112 rfl (lv_at hl 3 rfl) ?_
                    refine gf_RM_25 hx hb htb hown hK hP d_RM_sumWith_113 ?_
                    refine lv_iload hx hb d_RM_sumWith_116 (lv_at hl 0 rfl) ?_
                    obtain ⟨b118, hF⟩ := ob_if hF
                    refine rm_ald hx hb hK hP (k := 6) (by decide) (by decide) (ob_vi b118) d_RM_sumWith_118 ?_
                    refine lv_aload_n hx hb d_RM_sumWith_119 rfl (lv_at hl 3 rfl) ?_
                    refine gf_RM_28 hx hb htb hown hK hP d_RM_sumWith_120 ?_
                    refine lv_iload hx hb d_RM_sumWith_123 (lv_at hl 0 rfl) ?_
                    obtain ⟨b125, hF⟩ := ob_if hF
                    refine rm_ald hx hb hK hP (k := 7) (by decide) (by decide) (ob_vi b125) d_RM_sumWith_125 ?_
                    refine lv_iadd hx hb d_RM_sumWith_126 ?_
                    refine lv_iload hx hb d_RM_sumWith_127 (lv_at hl 1 rfl) ?_
                    refine lv_iadd hx hb d_RM_sumWith_129 ?_
                    refine lv_goto hx hb d_RM_sumWith_130 (tgt := 177) (by decide) ?_
                    exact kj177 (((w98t 6 w98L6.toNatClampNeg) + (w98t 7 w98L6.toNatClampNeg)) + w98L5) _ _ _ ⟨lv_sub hl [0, 2, 3, 4, 5] rfl, hF, hP, hS⟩
          · intro kj90
            refine lv_icmp_ne hx hb d_RM_sumWith_79 (tgt := 86) (by decide) (fun c79 => ?_) (fun c79 => ?_)
            · replace hF := (if_neg c79).symm.trans hF
              refine lv_aload_n hx hb d_RM_sumWith_86 rfl (lv_at hl 1 rfl) ?_
              obtain ⟨r87, e87, hF⟩ := ob_one hF
              refine ct_calli (va_runV (As := []) (rest := []) ⟨hx, hb, hml, hown, hts⟩ (c_RM_compareRows l (D := D) a ci hi w28t _ e87 _) (kc_RM_70 hts ⟨by decide, by decide⟩) ⟨ct_blind, rm_rc hK hP, ct_ok hP hK hN⟩ rfl rfl hl.1 rfl (lv_room (Nat.le_of_ble_eq_true rfl)) d_RM_sumWith_87 ⟨Nat.zero_le _, Nat.zero_le _⟩) hS (fun H locs hP hS => ?_)
              exact kj90 r87 _ _ _ ⟨lv_sub hl [1, 2, 4] rfl, hF, hP, hS⟩
            · replace hF := (if_pos c79).symm.trans hF
              refine lv_iconst (v := 2) hx hb d_RM_sumWith_82 (by decide) ?_
              refine lv_goto hx hb d_RM_sumWith_83 (tgt := 90) (by decide) ?_
              exact kj90 (2 : Int32) _ _ _ ⟨lv_sub hl [1, 2, 4] rfl, hF, hP, hS⟩
        · replace hF := (if_neg c36).symm.trans hF
          refine lv_aload_n hx hb d_RM_sumWith_39 rfl (lv_at hl 1 rfl) ?_
          refine gf_RM_28 hx hb htb hown hK hP d_RM_sumWith_40 ?_
          refine lv_sipush (v := 600) hx hb d_RM_sumWith_43 (by decide) ?_
          refine lv_aload_n hx hb d_RM_sumWith_46 rfl (lv_at hl 1 rfl) ?_
          refine gf_RM_19 hx hb htb hown hK hP d_RM_sumWith_47 ?_
          refine lv_iload_n hx hb d_RM_sumWith_50 rfl (lv_at hl 3 rfl) ?_
          obtain ⟨b51, hF⟩ := ob_if hF
          refine rm_ald hx hb hK hP (k := 4) (by decide) (by decide) (ob_vi b51) d_RM_sumWith_51 ?_
          refine lv_iadd hx hb d_RM_sumWith_52 ?_
          refine lv_iconst (v := 1) hx hb d_RM_sumWith_53 (by decide) ?_
          refine lv_isub hx hb d_RM_sumWith_54 ?_
          refine lv_iload hx hb d_RM_sumWith_55 (lv_at hl 0 rfl) ?_
          refine lv_isub hx hb d_RM_sumWith_57 ?_
          refine lv_aload_n hx hb d_RM_sumWith_58 rfl (lv_at hl 1 rfl) ?_
          refine gf_RM_22 hx hb htb hown hK hP d_RM_sumWith_59 ?_
          refine lv_bipush (v := 93) hx hb d_RM_sumWith_62 (by decide) ?_
          refine lv_iload_n hx hb d_RM_sumWith_64 rfl (lv_at hl 3 rfl) ?_
          refine lv_imul hx hb d_RM_sumWith_65 ?_
          refine lv_iload hx hb d_RM_sumWith_66 (lv_at hl 0 rfl) ?_
          refine lv_iadd hx hb d_RM_sumWith_68 ?_
          obtain ⟨b69, hF⟩ := ob_if hF
          refine rm_ald hx hb hK hP (k := 5) (by decide) (by decide) (ob_vi b69) d_RM_sumWith_69 ?_
          obtain ⟨b70, hF⟩ := ob_if hF
          refine rm_ast hx hb hK hP hS hi (k := 7) (by decide) (by decide) (ob_vi b70) d_RM_sumWith_70 (fun H locs hP hS => ?_)
          obtain ⟨t70, e70, hP⟩ := nm_st hP
          replace hF := (nm_eq e70).symm.trans hF
          obtain ⟨x71, e71⟩ := nm_ex (w28L4 + (1 : Int32))
          replace hF := (nm_eq e71).symm.trans hF
          refine lv_iinc (v := x71) (lv' := [(4, .int x71), (0, .ref (a 0)), (1, .int p0), (2, .int p1), (3, .int p2)]) hx hb d_RM_sumWith_71 hl (k := 0) rfl e71 (by decide) rfl (fun ls hl => ?_)
          refine lv_goto hx hb d_RM_sumWith_74 (tgt := 28) (by decide) ?_
          exact ih28 x71 t70 _ _ _ ⟨lv_sub hl [0, 1, 2, 3, 4] rfl, hF, hP, hS⟩
    · replace hF := (if_neg c8).symm.trans hF
      refine lv_aload_n hx hb d_RM_sumWith_11 rfl (lv_at hl 1 rfl) ?_
      refine gf_RM_28 hx hb htb hown hK hP d_RM_sumWith_12 ?_
      refine lv_iload hx hb d_RM_sumWith_15 (lv_at hl 0 rfl) ?_
      refine lv_iconst (v := 0) hx hb d_RM_sumWith_17 (by decide) ?_
      obtain ⟨b18, hF⟩ := ob_if hF
      refine rm_ast hx hb hK hP hS hi (k := 7) (by decide) (by decide) (ob_vi b18) d_RM_sumWith_18 (fun H locs hP hS => ?_)
      obtain ⟨t18, e18, hP⟩ := nm_st hP
      replace hF := (nm_eq e18).symm.trans hF
      obtain ⟨x19, e19⟩ := nm_ex (w3L4 + (1 : Int32))
      replace hF := (nm_eq e19).symm.trans hF
      refine lv_iinc (v := x19) (lv' := [(4, .int x19), (0, .ref (a 0)), (1, .int p0), (2, .int p1), (3, .int p2)]) hx hb d_RM_sumWith_19 hl (k := 0) rfl e19 (by decide) rfl (fun ls hl => ?_)
      refine lv_goto hx hb d_RM_sumWith_22 (tgt := 3) (by decide) ?_
      exact ih3 x19 t18 _ _ _ ⟨lv_sub hl [0, 1, 2, 3, 4] rfl, hF, hP, hS⟩
theorem d_RM_loadScaled_0 : decode prog_6_method_19_code 0 = .ok (.iload_n 1, 1) := by decide +kernel
theorem d_RM_loadScaled_1 : decode prog_6_method_19_code 1 = .ok (.invokestatic 40, 3) := by decide +kernel
theorem d_RM_loadScaled_4 : decode prog_6_method_19_code 4 = .ok (.ifCond .eq 27, 3) := by decide +kernel
theorem d_RM_loadScaled_7 : decode prog_6_method_19_code 7 = .ok (.iload 5, 2) := by decide +kernel
theorem d_RM_loadScaled_9 : decode prog_6_method_19_code 9 = .ok (.invokestatic 77, 3) := by decide +kernel
theorem d_RM_loadScaled_12 : decode prog_6_method_19_code 12 = .ok (.ifCond .eq 19, 3) := by decide +kernel
theorem d_RM_loadScaled_15 : decode prog_6_method_19_code 15 = .ok (.iload 4, 2) := by decide +kernel
theorem d_RM_loadScaled_17 : decode prog_6_method_19_code 17 = .ok (.sipush (-300), 3) := by decide +kernel
theorem d_RM_loadScaled_20 : decode prog_6_method_19_code 20 = .ok (.if_icmp .lt 11, 3) := by decide +kernel
theorem d_RM_loadScaled_23 : decode prog_6_method_19_code 23 = .ok (.iload 4, 2) := by decide +kernel
theorem d_RM_loadScaled_25 : decode prog_6_method_19_code 25 = .ok (.sipush 300, 3) := by decide +kernel
theorem d_RM_loadScaled_28 : decode prog_6_method_19_code 28 = .ok (.if_icmp .le 6, 3) := by decide +kernel
theorem d_RM_loadScaled_31 : decode prog_6_method_19_code 31 = .ok (.bipush 9, 2) := by decide +kernel
theorem d_RM_loadScaled_33 : decode prog_6_method_19_code 33 = .ok (.ireturn, 1) := by decide +kernel
theorem d_RM_loadScaled_34 : decode prog_6_method_19_code 34 = .ok (.lload_n 2, 1) := by decide +kernel
theorem d_RM_loadScaled_35 : decode prog_6_method_19_code 35 = .ok (.lconst 0, 1) := by decide +kernel
theorem d_RM_loadScaled_36 : decode prog_6_method_19_code 36 = .ok (.lcmp, 1) := by decide +kernel
theorem d_RM_loadScaled_37 : decode prog_6_method_19_code 37 = .ok (.ifCond .ne 11, 3) := by decide +kernel
theorem d_RM_loadScaled_40 : decode prog_6_method_19_code 40 = .ok (.aload_n 0, 1) := by decide +kernel
theorem d_RM_loadScaled_41 : decode prog_6_method_19_code 41 = .ok (.iload_n 1, 1) := by decide +kernel
theorem d_RM_loadScaled_42 : decode prog_6_method_19_code 42 = .ok (.iconst 2, 1) := by decide +kernel
theorem d_RM_loadScaled_43 : decode prog_6_method_19_code 43 = .ok (.iconst 1, 1) := by decide +kernel
theorem d_RM_loadScaled_44 : decode prog_6_method_19_code 44 = .ok (.invokevirtual 59, 3) := by decide +kernel
theorem d_RM_loadScaled_47 : decode prog_6_method_19_code 47 = .ok (.ireturn, 1) := by decide +kernel
theorem d_RM_loadScaled_48 : decode prog_6_method_19_code 48 = .ok (.aload_n 0, 1) := by decide +kernel
theorem d_RM_loadScaled_49 : decode prog_6_method_19_code 49 = .ok (.invokevirtual 80, 3) := by decide +kernel
theorem d_RM_loadScaled_52 : decode prog_6_method_19_code 52 = .ok (.lload_n 2, 1) := by decide +kernel
theorem d_RM_loadScaled_53 : decode prog_6_method_19_code 53 = .ok (.lconst 0, 1) := by decide +kernel
theorem d_RM_loadScaled_54 : decode prog_6_method_19_code 54 = .ok (.lcmp, 1) := by decide +kernel
theorem d_RM_loadScaled_55 : decode prog_6_method_19_code 55 = .ok (.ifCond .ge 8, 3) := by decide +kernel
theorem d_RM_loadScaled_58 : decode prog_6_method_19_code 58 = .ok (.lload_n 2, 1) := by decide +kernel
theorem d_RM_loadScaled_59 : decode prog_6_method_19_code 59 = .ok (.lneg, 1) := by decide +kernel
theorem d_RM_loadScaled_60 : decode prog_6_method_19_code 60 = .ok (.goto 4, 3) := by decide +kernel
theorem d_RM_loadScaled_63 : decode prog_6_method_19_code 63 = .ok (.lload_n 2, 1) := by decide +kernel
theorem d_RM_loadScaled_64 : decode prog_6_method_19_code 64 = .ok (.lstore 6, 2) := by decide +kernel
theorem d_RM_loadScaled_66 : decode prog_6_method_19_code 66 = .ok (.iconst 0, 1) := by decide +kernel
theorem d_RM_loadScaled_67 : decode prog_6_method_19_code 67 = .ok (.istore 8, 2) := by decide +kernel
theorem d_RM_loadScaled_69 : decode prog_6_method_19_code 69 = .ok (.iload 8, 2) := by decide +kernel
theorem d_RM_loadScaled_71 : decode prog_6_method_19_code 71 = .ok (.bipush 64, 2) := by decide +kernel
theorem d_RM_loadScaled_73 : decode prog_6_method_19_code 73 = .ok (.if_icmp .ge 31, 3) := by decide +kernel
theorem d_RM_loadScaled_76 : decode prog_6_method_19_code 76 = .ok (.aload_n 0, 1) := by decide +kernel
theorem d_RM_loadScaled_77 : decode prog_6_method_19_code 77 = .ok (.getfield 25, 3) := by decide +kernel
theorem d_RM_loadScaled_80 : decode prog_6_method_19_code 80 = .ok (.sipush 600, 3) := by decide +kernel
theorem d_RM_loadScaled_83 : decode prog_6_method_19_code 83 = .ok (.iload 4, 2) := by decide +kernel
theorem d_RM_loadScaled_85 : decode prog_6_method_19_code 85 = .ok (.iadd, 1) := by decide +kernel
theorem d_RM_loadScaled_86 : decode prog_6_method_19_code 86 = .ok (.iload 8, 2) := by decide +kernel
theorem d_RM_loadScaled_88 : decode prog_6_method_19_code 88 = .ok (.iadd, 1) := by decide +kernel
theorem d_RM_loadScaled_89 : decode prog_6_method_19_code 89 = .ok (.lload 6, 2) := by decide +kernel
theorem d_RM_loadScaled_91 : decode prog_6_method_19_code 91 = .ok (.iload 8, 2) := by decide +kernel
theorem d_RM_loadScaled_93 : decode prog_6_method_19_code 93 = .ok (.lushr, 1) := by decide +kernel
theorem d_RM_loadScaled_94 : decode prog_6_method_19_code 94 = .ok (.lconst 1, 1) := by decide +kernel
theorem d_RM_loadScaled_95 : decode prog_6_method_19_code 95 = .ok (.land, 1) := by decide +kernel
theorem d_RM_loadScaled_96 : decode prog_6_method_19_code 96 = .ok (.l2i, 1) := by decide +kernel
theorem d_RM_loadScaled_97 : decode prog_6_method_19_code 97 = .ok (.iastore, 1) := by decide +kernel
theorem d_RM_loadScaled_98 : decode prog_6_method_19_code 98 = .ok (.iinc 8 1, 3) := by decide +kernel
theorem d_RM_loadScaled_101 : decode prog_6_method_19_code 101 = .ok (.goto (-32), 3) := by decide +kernel
theorem d_RM_loadScaled_104 : decode prog_6_method_19_code 104 = .ok (.aload_n 0, 1) := by decide +kernel
theorem d_RM_loadScaled_105 : decode prog_6_method_19_code 105 = .ok (.iload_n 1, 1) := by decide +kernel
theorem d_RM_loadScaled_106 : decode prog_6_method_19_code 106 = .ok (.lload_n 2, 1) := by decide +kernel
theorem d_RM_loadScaled_107 : decode prog_6_method_19_code 107 = .ok (.lconst 0, 1) := by decide +kernel
theorem d_RM_loadScaled_108 : decode prog_6_method_19_code 108 = .ok (.lcmp, 1) := by decide +kernel
theorem d_RM_loadScaled_109 : decode prog_6_method_19_code 109 = .ok (.ifCond .ge 7, 3) := by decide +kernel
theorem d_RM_loadScaled_112 : decode prog_6_method_19_code 112 = .ok (.iconst (-1), 1) := by decide +kernel
theorem d_RM_loadScaled_113 : decode prog_6_method_19_code 113 = .ok (.goto 4, 3) := by decide +kernel
theorem d_RM_loadScaled_116 : decode prog_6_method_19_code 116 = .ok (.iconst 1, 1) := by decide +kernel
theorem d_RM_loadScaled_117 : decode prog_6_method_19_code 117 = .ok (.iload 5, 2) := by decide +kernel
theorem d_RM_loadScaled_119 : decode prog_6_method_19_code 119 = .ok (.invokevirtual 83, 3) := by decide +kernel
theorem d_RM_loadScaled_122 : decode prog_6_method_19_code 122 = .ok (.ireturn, 1) := by decide +kernel
def RM_loadScaled_117 (L5 : Int32) (s0 : Int32) (s1 : Int32) (st : rm_S) : Option (Int32 × rm_S) := ob2 (RM_round st s1 s0 L5) (fun r119 t119 => some (r119, t119))
def RM_loadScaled_69 : Nat → Int32 → Int64 → Int32 → Int32 → Int64 → Int32 → rm_S → Option (Int32 × rm_S)
  | 0, _, _, _, _, _, _, _ => none
  | n + 1, L1, L2, L4, L5, L6, L8, st => (if (64 : Int32) ≤ L8 then (if 0 ≤ (lg_cmp L2 (0 : Int64)) then RM_loadScaled_117 L5 (1 : Int32) L1 st else RM_loadScaled_117 L5 (-1 : Int32) L1 st) else (if ob_in (((600 : Int32) + L4) + L8) 1024 = true then nm (rm_up st 6 (((600 : Int32) + L4) + L8).toNatClampNeg (((L6.toUInt64 >>> (L8.toInt64.toUInt64 &&& Int64.toUInt64 63)).toInt64 &&& (1 : Int64)).toInt32)) (fun t97 => nm (L8 + (1 : Int32)) (fun x98 => (RM_loadScaled_69 n) L1 L2 L4 L5 L6 x98 t97)) else none))
def RM_loadScaled_64 (L1 : Int32) (L2 : Int64) (L4 : Int32) (L5 : Int32) (s0 : Int64) (st : rm_S) : Option (Int32 × rm_S) := RM_loadScaled_69 (2000) L1 L2 L4 L5 s0 (0 : Int32) st
def RM_loadScaled (st : rm_S) (p0 : Int32) (p1 : Int64) (p2 : Int32) (p3 : Int32) : Option (Int32 × rm_S) := nm (RM_isRegister p0) (fun r1 => (if r1 = 0 then some ((9 : Int32), st) else nm (RM_isMode p3) (fun r9 => (if r9 = 0 then some ((9 : Int32), st) else (if p2 < (-300 : Int32) then some ((9 : Int32), st) else (if p2 ≤ (300 : Int32) then (if (lg_cmp p1 (0 : Int64)) = 0 then ob2 (RM_keep st p0 (2 : Int32) (1 : Int32)) (fun r44 t44 => some (r44, t44)) else ob1 (RM_clear st) (fun t49 => (if 0 ≤ (lg_cmp p1 (0 : Int64)) then RM_loadScaled_64 p0 p1 p2 p3 p1 t49 else RM_loadScaled_64 p0 p1 p2 p3 (-p1) t49))) else some ((9 : Int32), st)))))))
set_option maxHeartbeats 4000000 in
set_option maxRecDepth 100000 in
theorem c_RM_loadScaled (l : Launch) {D : va_G} (a : Nat → Nat) (ci : ClassId) (hi : rm_inj a) (st : rm_S) (p0 : Int32) (p1 : Int64) (p2 : Int32) (p3 : Int32) (r0 : Int32) (t0 : rm_S) (hF : RM_loadScaled st p0 p1 p2 p3 = some (r0, t0)) : ct_i l ⟨"RoundedNumbersModel", "loadScaled", "(IJII)I"⟩ (.code ⟨"RoundedNumbersModel", "loadScaled", "(IJII)I"⟩ prog_6_method_19_code 9 (some .int) :: ct_T) { frames := 3, cells := 0, slots := 0, locals := 81 } D vwCl (rm_T ci) (rm_g a ci) (rm_X a) [.ref (a 0), .int p0, .long p1, .int p2, .int p3] st r0 t0 := by
  refine ct_i.mk (cc := prog_6_method_19_code) (maxL := 9) (by decide) rfl (Nat.le_of_ble_eq_true rfl) ?_
  intro p e s m below meth c hx hb hr hml hown hts hlk hK hN hP hS ls hl
  have hown : s.vm.findClass "RoundedNumbersModel" = some m.cls := hown
  have hl : lv_has ls 9 [(0, .ref (a 0)), (1, .int p0), (2, .long p1), (4, .int p2), (5, .int p3)] := hl
  have htb := fun w h => hts w (List.mem_cons_of_mem _ h)
  unfold RM_loadScaled at hF
  refine lv_iload_n hx hb d_RM_loadScaled_0 rfl (lv_at hl 1 rfl) ?_
  obtain ⟨r1, e1⟩ := nm_ex (RM_isRegister p0)
  replace hF := (nm_eq e1).symm.trans hF
  refine ct_calli (va_runS (As := [.int p0]) (rest := []) ⟨hx, hb, hml, hown, hts⟩ (c_RM_isRegister l (D := D) a ci hi st p0 _ e1 _) (kc_RM_40 hts ⟨by decide, by decide⟩) ⟨ct_blind, ct_ok hP hK hN⟩ rfl rfl hl.1 rfl (lv_room (Nat.le_of_ble_eq_true rfl)) d_RM_loadScaled_1 ⟨Nat.zero_le _, Nat.zero_le _⟩) hS (fun H locs hP hS => ?_)
  refine lv_if_eq hx hb d_RM_loadScaled_4 (tgt := 31) (by decide) (fun c4 => ?_) (fun c4 => ?_)
  · replace hF := (if_pos c4).symm.trans hF
    refine lv_bipush (v := 9) hx hb d_RM_loadScaled_31 (by decide) ?_
    replace hF := Option.some.inj hF
    obtain ⟨rfl, rfl⟩ := Prod.mk.inj hF
    exact ct_iret hx hb hr hlk hP hS d_RM_loadScaled_33
  · replace hF := (if_neg c4).symm.trans hF
    refine lv_iload hx hb d_RM_loadScaled_7 (lv_at hl 4 rfl) ?_
    obtain ⟨r9, e9⟩ := nm_ex (RM_isMode p3)
    replace hF := (nm_eq e9).symm.trans hF
    refine ct_calli (va_runS (As := [.int p3]) (rest := []) ⟨hx, hb, hml, hown, hts⟩ (c_RM_isMode l (D := D) a ci hi st p3 _ e9 _) (kc_RM_77 hts ⟨by decide, by decide⟩) ⟨ct_blind, ct_ok hP hK hN⟩ rfl rfl hl.1 rfl (lv_room (Nat.le_of_ble_eq_true rfl)) d_RM_loadScaled_9 ⟨Nat.zero_le _, Nat.zero_le _⟩) hS (fun H locs hP hS => ?_)
    refine lv_if_eq hx hb d_RM_loadScaled_12 (tgt := 31) (by decide) (fun c12 => ?_) (fun c12 => ?_)
    · replace hF := (if_pos c12).symm.trans hF
      refine lv_bipush (v := 9) hx hb d_RM_loadScaled_31 (by decide) ?_
      replace hF := Option.some.inj hF
      obtain ⟨rfl, rfl⟩ := Prod.mk.inj hF
      exact ct_iret hx hb hr hlk hP hS d_RM_loadScaled_33
    · replace hF := (if_neg c12).symm.trans hF
      refine lv_iload hx hb d_RM_loadScaled_15 (lv_at hl 3 rfl) ?_
      refine lv_sipush (v := -300) hx hb d_RM_loadScaled_17 (by decide) ?_
      refine lv_icmp_lt hx hb d_RM_loadScaled_20 (tgt := 31) (by decide) (fun c20 => ?_) (fun c20 => ?_)
      · replace hF := (if_pos c20).symm.trans hF
        refine lv_bipush (v := 9) hx hb d_RM_loadScaled_31 (by decide) ?_
        replace hF := Option.some.inj hF
        obtain ⟨rfl, rfl⟩ := Prod.mk.inj hF
        exact ct_iret hx hb hr hlk hP hS d_RM_loadScaled_33
      · replace hF := (if_neg c20).symm.trans hF
        refine lv_iload hx hb d_RM_loadScaled_23 (lv_at hl 3 rfl) ?_
        refine lv_sipush (v := 300) hx hb d_RM_loadScaled_25 (by decide) ?_
        refine lv_icmp_le hx hb d_RM_loadScaled_28 (tgt := 34) (by decide) (fun c28 => ?_) (fun c28 => ?_)
        · replace hF := (if_pos c28).symm.trans hF
          refine lv_lload_n hx hb d_RM_loadScaled_34 rfl (lv_at hl 2 rfl) ?_
          refine lv_lconst (v := 0) hx hb d_RM_loadScaled_35 (by decide) ?_
          refine W.lcmp hx hb d_RM_loadScaled_36 ?_
          refine lv_if_ne hx hb d_RM_loadScaled_37 (tgt := 48) (by decide) (fun c37 => ?_) (fun c37 => ?_)
          · replace hF := (if_neg c37).symm.trans hF
            refine lv_aload_n hx hb d_RM_loadScaled_48 rfl (lv_at hl 0 rfl) ?_
            obtain ⟨t49, e49, hF⟩ := ob_one hF
            refine ct_callv (va_runV (As := []) (rest := []) ⟨hx, hb, hml, hown, hts⟩ (c_RM_clear l (D := D) a ci hi st _ e49 _) (kc_RM_80 hts ⟨by decide, by decide⟩) ⟨ct_blind, rm_rc hK hP, ct_ok hP hK hN⟩ rfl rfl hl.1 rfl (lv_room (Nat.le_of_ble_eq_true rfl)) d_RM_loadScaled_49 ⟨Nat.zero_le _, Nat.zero_le _⟩) hS (fun H locs hP hS => ?_)
            refine lv_lload_n hx hb d_RM_loadScaled_52 rfl (lv_at hl 2 rfl) ?_
            refine lv_lconst (v := 0) hx hb d_RM_loadScaled_53 (by decide) ?_
            refine W.lcmp hx hb d_RM_loadScaled_54 ?_
            refine ct_cut1 (fun (j64s0 : Int64) ls H locs => lv_has ls 9 [(0, .ref (a 0)), (1, .int p0), (2, .long p1), (4, .int p2), (5, .int p3)] ∧ RM_loadScaled_64 p0 p1 p2 p3 j64s0 t49 = some (r0, t0) ∧ va_P D vwCl (rm_g a ci t49) H ∧ va_S (ct_F (rm_X a) s.heap.size) s.heap H locs) 64 (fun j64s0 => [.long j64s0]) ?_ ?_
            · intro j64s0 ls H locs hq
              obtain ⟨hl, hF, hP, hS⟩ := hq
              unfold RM_loadScaled_64 at hF
              refine lv_lstore (lv' := [(6, .long j64s0), (0, .ref (a 0)), (1, .int p0), (2, .long p1), (4, .int p2), (5, .int p3)]) hx hb d_RM_loadScaled_64 hl (by decide) rfl (fun ls hl => ?_)
              refine lv_iconst (v := 0) hx hb d_RM_loadScaled_66 (by decide) ?_
              refine lv_istore (lv' := [(8, .int (0 : Int32)), (6, .long j64s0), (0, .ref (a 0)), (1, .int p0), (2, .long p1), (4, .int p2), (5, .int p3)]) hx hb d_RM_loadScaled_67 hl (by decide) rfl (fun ls hl => ?_)
              refine ct_loop2 (fun n (w69L8 : Int32) (w69t : rm_S) ls H locs => lv_has ls 9 [(8, .int w69L8), (6, .long j64s0), (0, .ref (a 0)), (1, .int p0), (2, .long p1), (4, .int p2), (5, .int p3)] ∧ RM_loadScaled_69 n p0 p1 p2 p3 j64s0 w69L8 w69t = some (r0, t0) ∧ va_P D vwCl (rm_g a ci w69t) H ∧ va_S (ct_F (rm_X a) s.heap.size) s.heap H locs) 69 ?_ ?_ (2000) (0 : Int32) t49 ⟨lv_sub hl [0, 1, 2, 3, 4, 5, 6] rfl, hF, hP, hS⟩
              · intro w69L8 w69t ls H locs hq
                obtain ⟨hl, hF, hP, hS⟩ := hq
                rw [RM_loadScaled_69] at hF
                cases hF
              · intro n69 ih69 w69L8 w69t ls H locs hq
                obtain ⟨hl, hF, hP, hS⟩ := hq
                rw [RM_loadScaled_69] at hF
                refine lv_iload hx hb d_RM_loadScaled_69 (lv_at hl 0 rfl) ?_
                refine lv_bipush (v := 64) hx hb d_RM_loadScaled_71 (by decide) ?_
                refine lv_icmp_ge hx hb d_RM_loadScaled_73 (tgt := 104) (by decide) (fun c73 => ?_) (fun c73 => ?_)
                · replace hF := (if_pos c73).symm.trans hF
                  refine lv_aload_n hx hb d_RM_loadScaled_104 rfl (lv_at hl 2 rfl) ?_
                  refine lv_iload_n hx hb d_RM_loadScaled_105 rfl (lv_at hl 3 rfl) ?_
                  refine lv_lload_n hx hb d_RM_loadScaled_106 rfl (lv_at hl 4 rfl) ?_
                  refine lv_lconst (v := 0) hx hb d_RM_loadScaled_107 (by decide) ?_
                  refine W.lcmp hx hb d_RM_loadScaled_108 ?_
                  refine ct_cut1 (fun (j117s0 : Int32) ls H locs => lv_has ls 9 [(5, .int p3)] ∧ RM_loadScaled_117 p3 j117s0 p0 w69t = some (r0, t0) ∧ va_P D vwCl (rm_g a ci w69t) H ∧ va_S (ct_F (rm_X a) s.heap.size) s.heap H locs) 117 (fun j117s0 => [.int j117s0, .int p0, .ref (a 0)]) ?_ ?_
                  · intro j117s0 ls H locs hq
                    obtain ⟨hl, hF, hP, hS⟩ := hq
                    unfold RM_loadScaled_117 at hF
                    refine lv_iload hx hb d_RM_loadScaled_117 (lv_at hl 0 rfl) ?_
                    obtain ⟨r119, t119, e119, hF⟩ := ob_two hF
                    refine ct_calli (va_runV (As := [.int p0, .int j117s0, .int p3]) (rest := []) ⟨hx, hb, hml, hown, hts⟩ (c_RM_round l (D := D) a ci hi w69t p0 j117s0 p3 _ _ e119 _) (kc_RM_83 hts ⟨by decide, by decide⟩) ⟨ct_blind, rm_rc hK hP, ct_ok hP hK hN⟩ rfl rfl hl.1 rfl (lv_room (Nat.le_of_ble_eq_true rfl)) d_RM_loadScaled_119 ⟨Nat.zero_le _, Nat.zero_le _⟩) hS (fun H locs hP hS => ?_)
                    replace hF := Option.some.inj hF
                    obtain ⟨rfl, rfl⟩ := Prod.mk.inj hF
                    exact ct_iret hx hb hr hlk hP hS d_RM_loadScaled_122
                  · intro kj117
                    refine lv_if_ge hx hb d_RM_loadScaled_109 (tgt := 116) (by decide) (fun c109 => ?_) (fun c109 => ?_)
                    · replace hF := (if_pos c109).symm.trans hF
                      refine lv_iconst (v := 1) hx hb d_RM_loadScaled_116 (by decide) ?_
                      exact kj117 (1 : Int32) _ _ _ ⟨lv_sub hl [6] rfl, hF, hP, hS⟩
                    · replace hF := (if_neg c109).symm.trans hF
                      refine lv_iconst (v := -1) hx hb d_RM_loadScaled_112 (by decide) ?_
                      refine lv_goto hx hb d_RM_loadScaled_113 (tgt := 117) (by decide) ?_
                      exact kj117 (-1 : Int32) _ _ _ ⟨lv_sub hl [6] rfl, hF, hP, hS⟩
                · replace hF := (if_neg c73).symm.trans hF
                  refine lv_aload_n hx hb d_RM_loadScaled_76 rfl (lv_at hl 2 rfl) ?_
                  refine gf_RM_25 hx hb htb hown hK hP d_RM_loadScaled_77 ?_
                  refine lv_sipush (v := 600) hx hb d_RM_loadScaled_80 (by decide) ?_
                  refine lv_iload hx hb d_RM_loadScaled_83 (lv_at hl 5 rfl) ?_
                  refine lv_iadd hx hb d_RM_loadScaled_85 ?_
                  refine lv_iload hx hb d_RM_loadScaled_86 (lv_at hl 0 rfl) ?_
                  refine lv_iadd hx hb d_RM_loadScaled_88 ?_
                  refine lv_lload hx hb d_RM_loadScaled_89 (lv_at hl 1 rfl) ?_
                  refine lv_iload hx hb d_RM_loadScaled_91 (lv_at hl 0 rfl) ?_
                  refine lv_lushr hx hb d_RM_loadScaled_93 rfl ?_
                  refine lv_lconst (v := 1) hx hb d_RM_loadScaled_94 (by decide) ?_
                  refine lv_land hx hb d_RM_loadScaled_95 ?_
                  refine lv_l2i hx hb d_RM_loadScaled_96 rfl ?_
                  obtain ⟨b97, hF⟩ := ob_if hF
                  refine rm_ast hx hb hK hP hS hi (k := 6) (by decide) (by decide) (ob_vi b97) d_RM_loadScaled_97 (fun H locs hP hS => ?_)
                  obtain ⟨t97, e97, hP⟩ := nm_st hP
                  replace hF := (nm_eq e97).symm.trans hF
                  obtain ⟨x98, e98⟩ := nm_ex (w69L8 + (1 : Int32))
                  replace hF := (nm_eq e98).symm.trans hF
                  refine lv_iinc (v := x98) (lv' := [(8, .int x98), (6, .long j64s0), (0, .ref (a 0)), (1, .int p0), (2, .long p1), (4, .int p2), (5, .int p3)]) hx hb d_RM_loadScaled_98 hl (k := 0) rfl e98 (by decide) rfl (fun ls hl => ?_)
                  refine lv_goto hx hb d_RM_loadScaled_101 (tgt := 69) (by decide) ?_
                  exact ih69 x98 t97 _ _ _ ⟨lv_sub hl [0, 1, 2, 3, 4, 5, 6] rfl, hF, hP, hS⟩
            · intro kj64
              refine lv_if_ge hx hb d_RM_loadScaled_55 (tgt := 63) (by decide) (fun c55 => ?_) (fun c55 => ?_)
              · replace hF := (if_pos c55).symm.trans hF
                refine lv_lload_n hx hb d_RM_loadScaled_63 rfl (lv_at hl 2 rfl) ?_
                exact kj64 p1 _ _ _ ⟨lv_sub hl [0, 1, 2, 3, 4] rfl, hF, hP, hS⟩
              · replace hF := (if_neg c55).symm.trans hF
                refine lv_lload_n hx hb d_RM_loadScaled_58 rfl (lv_at hl 2 rfl) ?_
                refine lv_lneg hx hb d_RM_loadScaled_59 ?_
                refine lv_goto hx hb d_RM_loadScaled_60 (tgt := 64) (by decide) ?_
                exact kj64 (-p1) _ _ _ ⟨lv_sub hl [0, 1, 2, 3, 4] rfl, hF, hP, hS⟩
          · replace hF := (if_pos c37).symm.trans hF
            refine lv_aload_n hx hb d_RM_loadScaled_40 rfl (lv_at hl 0 rfl) ?_
            refine lv_iload_n hx hb d_RM_loadScaled_41 rfl (lv_at hl 1 rfl) ?_
            refine lv_iconst (v := 2) hx hb d_RM_loadScaled_42 (by decide) ?_
            refine lv_iconst (v := 1) hx hb d_RM_loadScaled_43 (by decide) ?_
            obtain ⟨r44, t44, e44, hF⟩ := ob_two hF
            refine ct_calli (va_runV (As := [.int p0, .int (2 : Int32), .int (1 : Int32)]) (rest := []) ⟨hx, hb, hml, hown, hts⟩ (c_RM_keep l (D := D) a ci hi st p0 (2 : Int32) (1 : Int32) _ _ e44 _) (kc_RM_59 hts ⟨by decide, by decide⟩) ⟨ct_blind, rm_rc hK hP, ct_ok hP hK hN⟩ rfl rfl hl.1 rfl (lv_room (Nat.le_of_ble_eq_true rfl)) d_RM_loadScaled_44 ⟨Nat.zero_le _, Nat.zero_le _⟩) hS (fun H locs hP hS => ?_)
            replace hF := Option.some.inj hF
            obtain ⟨rfl, rfl⟩ := Prod.mk.inj hF
            exact ct_iret hx hb hr hlk hP hS d_RM_loadScaled_47
        · replace hF := (if_neg c28).symm.trans hF
          refine lv_bipush (v := 9) hx hb d_RM_loadScaled_31 (by decide) ?_
          replace hF := Option.some.inj hF
          obtain ⟨rfl, rfl⟩ := Prod.mk.inj hF
          exact ct_iret hx hb hr hlk hP hS d_RM_loadScaled_33
theorem d_RM_loadInt_0 : decode prog_6_method_18_code 0 = .ok (.aload_n 0, 1) := by decide +kernel
theorem d_RM_loadInt_1 : decode prog_6_method_18_code 1 = .ok (.iload_n 1, 1) := by decide +kernel
theorem d_RM_loadInt_2 : decode prog_6_method_18_code 2 = .ok (.iload_n 2, 1) := by decide +kernel
theorem d_RM_loadInt_3 : decode prog_6_method_18_code 3 = .ok (.i2l, 1) := by decide +kernel
theorem d_RM_loadInt_4 : decode prog_6_method_18_code 4 = .ok (.iconst 0, 1) := by decide +kernel
theorem d_RM_loadInt_5 : decode prog_6_method_18_code 5 = .ok (.iload_n 3, 1) := by decide +kernel
theorem d_RM_loadInt_6 : decode prog_6_method_18_code 6 = .ok (.invokevirtual 73, 3) := by decide +kernel
theorem d_RM_loadInt_9 : decode prog_6_method_18_code 9 = .ok (.ireturn, 1) := by decide +kernel
def RM_loadInt (st : rm_S) (p0 : Int32) (p1 : Int32) (p2 : Int32) : Option (Int32 × rm_S) := ob2 (RM_loadScaled st p0 p1.toInt64 (0 : Int32) p2) (fun r6 t6 => some (r6, t6))
set_option maxHeartbeats 4000000 in
set_option maxRecDepth 100000 in
theorem c_RM_loadInt (l : Launch) {D : va_G} (a : Nat → Nat) (ci : ClassId) (hi : rm_inj a) (st : rm_S) (p0 : Int32) (p1 : Int32) (p2 : Int32) (r0 : Int32) (t0 : rm_S) (hF : RM_loadInt st p0 p1 p2 = some (r0, t0)) : ct_i l ⟨"RoundedNumbersModel", "loadInt", "(III)I"⟩ (.code ⟨"RoundedNumbersModel", "loadInt", "(III)I"⟩ prog_6_method_18_code 4 (some .int) :: ct_T) { frames := 4, cells := 0, slots := 0, locals := 109 } D vwCl (rm_T ci) (rm_g a ci) (rm_X a) [.ref (a 0), .int p0, .int p1, .int p2] st r0 t0 := by
  refine ct_i.mk (cc := prog_6_method_18_code) (maxL := 4) (by decide) rfl (Nat.le_of_ble_eq_true rfl) ?_
  intro p e s m below meth c hx hb hr hml hown hts hlk hK hN hP hS ls hl
  have hown : s.vm.findClass "RoundedNumbersModel" = some m.cls := hown
  have hl : lv_has ls 4 [(0, .ref (a 0)), (1, .int p0), (2, .int p1), (3, .int p2)] := hl
  have htb := fun w h => hts w (List.mem_cons_of_mem _ h)
  unfold RM_loadInt at hF
  refine lv_aload_n hx hb d_RM_loadInt_0 rfl (lv_at hl 0 rfl) ?_
  refine lv_iload_n hx hb d_RM_loadInt_1 rfl (lv_at hl 1 rfl) ?_
  refine lv_iload_n hx hb d_RM_loadInt_2 rfl (lv_at hl 2 rfl) ?_
  refine lv_i2l hx hb d_RM_loadInt_3 rfl ?_
  refine lv_iconst (v := 0) hx hb d_RM_loadInt_4 (by decide) ?_
  refine lv_iload_n hx hb d_RM_loadInt_5 rfl (lv_at hl 3 rfl) ?_
  obtain ⟨r6, t6, e6, hF⟩ := ob_two hF
  refine ct_calli (va_runV (As := [.int p0, .long p1.toInt64, .int (0 : Int32), .int p2]) (rest := []) ⟨hx, hb, hml, hown, hts⟩ (c_RM_loadScaled l (D := D) a ci hi st p0 p1.toInt64 (0 : Int32) p2 _ _ e6 _) (kc_RM_73 hts ⟨by decide, by decide⟩) ⟨ct_blind, rm_rc hK hP, ct_ok hP hK hN⟩ rfl rfl hl.1 rfl (lv_room (Nat.le_of_ble_eq_true rfl)) d_RM_loadInt_6 ⟨Nat.zero_le _, Nat.zero_le _⟩) hS (fun H locs hP hS => ?_)
  replace hF := Option.some.inj hF
  obtain ⟨rfl, rfl⟩ := Prod.mk.inj hF
  exact ct_iret hx hb hr hlk hP hS d_RM_loadInt_9
theorem d_RM_move_0 : decode prog_6_method_20_code 0 = .ok (.aload_n 0, 1) := by decide +kernel
theorem d_RM_move_1 : decode prog_6_method_20_code 1 = .ok (.getfield 13, 3) := by decide +kernel
theorem d_RM_move_4 : decode prog_6_method_20_code 4 = .ok (.iload_n 2, 1) := by decide +kernel
theorem d_RM_move_5 : decode prog_6_method_20_code 5 = .ok (.iaload, 1) := by decide +kernel
theorem d_RM_move_6 : decode prog_6_method_20_code 6 = .ok (.iconst 3, 1) := by decide +kernel
theorem d_RM_move_7 : decode prog_6_method_20_code 7 = .ok (.if_icmp .eq 16, 3) := by decide +kernel
theorem d_RM_move_10 : decode prog_6_method_20_code 10 = .ok (.aload_n 0, 1) := by decide +kernel
theorem d_RM_move_11 : decode prog_6_method_20_code 11 = .ok (.iload_n 1, 1) := by decide +kernel
theorem d_RM_move_12 : decode prog_6_method_20_code 12 = .ok (.aload_n 0, 1) := by decide +kernel
theorem d_RM_move_13 : decode prog_6_method_20_code 13 = .ok (.getfield 13, 3) := by decide +kernel
theorem d_RM_move_16 : decode prog_6_method_20_code 16 = .ok (.iload_n 2, 1) := by decide +kernel
theorem d_RM_move_17 : decode prog_6_method_20_code 17 = .ok (.iaload, 1) := by decide +kernel
theorem d_RM_move_18 : decode prog_6_method_20_code 18 = .ok (.iload_n 3, 1) := by decide +kernel
theorem d_RM_move_19 : decode prog_6_method_20_code 19 = .ok (.invokevirtual 59, 3) := by decide +kernel
theorem d_RM_move_22 : decode prog_6_method_20_code 22 = .ok (.ireturn, 1) := by decide +kernel
theorem d_RM_move_23 : decode prog_6_method_20_code 23 = .ok (.aload_n 0, 1) := by decide +kernel
theorem d_RM_move_24 : decode prog_6_method_20_code 24 = .ok (.invokevirtual 80, 3) := by decide +kernel
theorem d_RM_move_27 : decode prog_6_method_20_code 27 = .ok (.aload_n 0, 1) := by decide +kernel
theorem d_RM_move_28 : decode prog_6_method_20_code 28 = .ok (.iload_n 2, 1) := by decide +kernel
theorem d_RM_move_29 : decode prog_6_method_20_code 29 = .ok (.invokevirtual 86, 3) := by decide +kernel
theorem d_RM_move_32 : decode prog_6_method_20_code 32 = .ok (.aload_n 0, 1) := by decide +kernel
theorem d_RM_move_33 : decode prog_6_method_20_code 33 = .ok (.iload_n 1, 1) := by decide +kernel
theorem d_RM_move_34 : decode prog_6_method_20_code 34 = .ok (.iload_n 3, 1) := by decide +kernel
theorem d_RM_move_35 : decode prog_6_method_20_code 35 = .ok (.iload 4, 2) := by decide +kernel
theorem d_RM_move_37 : decode prog_6_method_20_code 37 = .ok (.invokevirtual 83, 3) := by decide +kernel
theorem d_RM_move_40 : decode prog_6_method_20_code 40 = .ok (.ireturn, 1) := by decide +kernel
def RM_move (st : rm_S) (p0 : Int32) (p1 : Int32) (p2 : Int32) (p3 : Int32) : Option (Int32 × rm_S) := (if ob_in p1 8 = true then (if (st 2 p1.toNatClampNeg) = (3 : Int32) then ob1 (RM_clear st) (fun t24 => ob1 (RM_put t24 p1) (fun t29 => ob2 (RM_round t29 p0 p2 p3) (fun r37 t37 => some (r37, t37)))) else (if ob_in p1 8 = true then ob2 (RM_keep st p0 (st 2 p1.toNatClampNeg) p2) (fun r19 t19 => some (r19, t19)) else none)) else none)
set_option maxHeartbeats 4000000 in
set_option maxRecDepth 100000 in
theorem c_RM_move (l : Launch) {D : va_G} (a : Nat → Nat) (ci : ClassId) (hi : rm_inj a) (st : rm_S) (p0 : Int32) (p1 : Int32) (p2 : Int32) (p3 : Int32) (r0 : Int32) (t0 : rm_S) (hF : RM_move st p0 p1 p2 p3 = some (r0, t0)) : ct_i l ⟨"RoundedNumbersModel", "move", "(IIII)I"⟩ (.code ⟨"RoundedNumbersModel", "move", "(IIII)I"⟩ prog_6_method_20_code 5 (some .int) :: ct_T) { frames := 3, cells := 0, slots := 0, locals := 81 } D vwCl (rm_T ci) (rm_g a ci) (rm_X a) [.ref (a 0), .int p0, .int p1, .int p2, .int p3] st r0 t0 := by
  refine ct_i.mk (cc := prog_6_method_20_code) (maxL := 5) (by decide) rfl (Nat.le_of_ble_eq_true rfl) ?_
  intro p e s m below meth c hx hb hr hml hown hts hlk hK hN hP hS ls hl
  have hown : s.vm.findClass "RoundedNumbersModel" = some m.cls := hown
  have hl : lv_has ls 5 [(0, .ref (a 0)), (1, .int p0), (2, .int p1), (3, .int p2), (4, .int p3)] := hl
  have htb := fun w h => hts w (List.mem_cons_of_mem _ h)
  unfold RM_move at hF
  refine lv_aload_n hx hb d_RM_move_0 rfl (lv_at hl 0 rfl) ?_
  refine gf_RM_13 hx hb htb hown hK hP d_RM_move_1 ?_
  refine lv_iload_n hx hb d_RM_move_4 rfl (lv_at hl 2 rfl) ?_
  obtain ⟨b5, hF⟩ := ob_if hF
  refine rm_ald hx hb hK hP (k := 2) (by decide) (by decide) (ob_vi b5) d_RM_move_5 ?_
  refine lv_iconst (v := 3) hx hb d_RM_move_6 (by decide) ?_
  refine lv_icmp_eq hx hb d_RM_move_7 (tgt := 23) (by decide) (fun c7 => ?_) (fun c7 => ?_)
  · replace hF := (if_pos c7).symm.trans hF
    refine lv_aload_n hx hb d_RM_move_23 rfl (lv_at hl 0 rfl) ?_
    obtain ⟨t24, e24, hF⟩ := ob_one hF
    refine ct_callv (va_runV (As := []) (rest := []) ⟨hx, hb, hml, hown, hts⟩ (c_RM_clear l (D := D) a ci hi st _ e24 _) (kc_RM_80 hts ⟨by decide, by decide⟩) ⟨ct_blind, rm_rc hK hP, ct_ok hP hK hN⟩ rfl rfl hl.1 rfl (lv_room (Nat.le_of_ble_eq_true rfl)) d_RM_move_24 ⟨Nat.zero_le _, Nat.zero_le _⟩) hS (fun H locs hP hS => ?_)
    refine lv_aload_n hx hb d_RM_move_27 rfl (lv_at hl 0 rfl) ?_
    refine lv_iload_n hx hb d_RM_move_28 rfl (lv_at hl 2 rfl) ?_
    obtain ⟨t29, e29, hF⟩ := ob_one hF
    refine ct_callv (va_runV (As := [.int p1]) (rest := []) ⟨hx, hb, hml, hown, hts⟩ (c_RM_put l (D := D) a ci hi t24 p1 _ e29 _) (kc_RM_86 hts ⟨by decide, by decide⟩) ⟨ct_blind, rm_rc hK hP, ct_ok hP hK hN⟩ rfl rfl hl.1 rfl (lv_room (Nat.le_of_ble_eq_true rfl)) d_RM_move_29 ⟨Nat.zero_le _, Nat.zero_le _⟩) hS (fun H locs hP hS => ?_)
    refine lv_aload_n hx hb d_RM_move_32 rfl (lv_at hl 0 rfl) ?_
    refine lv_iload_n hx hb d_RM_move_33 rfl (lv_at hl 1 rfl) ?_
    refine lv_iload_n hx hb d_RM_move_34 rfl (lv_at hl 3 rfl) ?_
    refine lv_iload hx hb d_RM_move_35 (lv_at hl 4 rfl) ?_
    obtain ⟨r37, t37, e37, hF⟩ := ob_two hF
    refine ct_calli (va_runV (As := [.int p0, .int p2, .int p3]) (rest := []) ⟨hx, hb, hml, hown, hts⟩ (c_RM_round l (D := D) a ci hi t29 p0 p2 p3 _ _ e37 _) (kc_RM_83 hts ⟨by decide, by decide⟩) ⟨ct_blind, rm_rc hK hP, ct_ok hP hK hN⟩ rfl rfl hl.1 rfl (lv_room (Nat.le_of_ble_eq_true rfl)) d_RM_move_37 ⟨Nat.zero_le _, Nat.zero_le _⟩) hS (fun H locs hP hS => ?_)
    replace hF := Option.some.inj hF
    obtain ⟨rfl, rfl⟩ := Prod.mk.inj hF
    exact ct_iret hx hb hr hlk hP hS d_RM_move_40
  · replace hF := (if_neg c7).symm.trans hF
    refine lv_aload_n hx hb d_RM_move_10 rfl (lv_at hl 0 rfl) ?_
    refine lv_iload_n hx hb d_RM_move_11 rfl (lv_at hl 1 rfl) ?_
    refine lv_aload_n hx hb d_RM_move_12 rfl (lv_at hl 0 rfl) ?_
    refine gf_RM_13 hx hb htb hown hK hP d_RM_move_13 ?_
    refine lv_iload_n hx hb d_RM_move_16 rfl (lv_at hl 2 rfl) ?_
    obtain ⟨b17, hF⟩ := ob_if hF
    refine rm_ald hx hb hK hP (k := 2) (by decide) (by decide) (ob_vi b17) d_RM_move_17 ?_
    refine lv_iload_n hx hb d_RM_move_18 rfl (lv_at hl 3 rfl) ?_
    obtain ⟨r19, t19, e19, hF⟩ := ob_two hF
    refine ct_calli (va_runV (As := [.int p0, .int (st 2 p1.toNatClampNeg), .int p2]) (rest := []) ⟨hx, hb, hml, hown, hts⟩ (c_RM_keep l (D := D) a ci hi st p0 (st 2 p1.toNatClampNeg) p2 _ _ e19 _) (kc_RM_59 hts ⟨by decide, by decide⟩) ⟨ct_blind, rm_rc hK hP, ct_ok hP hK hN⟩ rfl rfl hl.1 rfl (lv_room (Nat.le_of_ble_eq_true rfl)) d_RM_move_19 ⟨Nat.zero_le _, Nat.zero_le _⟩) hS (fun H locs hP hS => ?_)
    replace hF := Option.some.inj hF
    obtain ⟨rfl, rfl⟩ := Prod.mk.inj hF
    exact ct_iret hx hb hr hlk hP hS d_RM_move_22
theorem d_RM_copy_0 : decode prog_6_method_21_code 0 = .ok (.iload_n 1, 1) := by decide +kernel
theorem d_RM_copy_1 : decode prog_6_method_21_code 1 = .ok (.invokestatic 40, 3) := by decide +kernel
theorem d_RM_copy_4 : decode prog_6_method_21_code 4 = .ok (.ifCond .eq 33, 3) := by decide +kernel
theorem d_RM_copy_7 : decode prog_6_method_21_code 7 = .ok (.iload_n 2, 1) := by decide +kernel
theorem d_RM_copy_8 : decode prog_6_method_21_code 8 = .ok (.invokestatic 40, 3) := by decide +kernel
theorem d_RM_copy_11 : decode prog_6_method_21_code 11 = .ok (.ifCond .eq 26, 3) := by decide +kernel
theorem d_RM_copy_14 : decode prog_6_method_21_code 14 = .ok (.iload_n 3, 1) := by decide +kernel
theorem d_RM_copy_15 : decode prog_6_method_21_code 15 = .ok (.invokestatic 77, 3) := by decide +kernel
theorem d_RM_copy_18 : decode prog_6_method_21_code 18 = .ok (.ifCond .eq 19, 3) := by decide +kernel
theorem d_RM_copy_21 : decode prog_6_method_21_code 21 = .ok (.aload_n 0, 1) := by decide +kernel
theorem d_RM_copy_22 : decode prog_6_method_21_code 22 = .ok (.iload_n 1, 1) := by decide +kernel
theorem d_RM_copy_23 : decode prog_6_method_21_code 23 = .ok (.iload_n 2, 1) := by decide +kernel
theorem d_RM_copy_24 : decode prog_6_method_21_code 24 = .ok (.aload_n 0, 1) := by decide +kernel
theorem d_RM_copy_25 : decode prog_6_method_21_code 25 = .ok (.getfield 16, 3) := by decide +kernel
theorem d_RM_copy_28 : decode prog_6_method_21_code 28 = .ok (.iload_n 2, 1) := by decide +kernel
theorem d_RM_copy_29 : decode prog_6_method_21_code 29 = .ok (.iaload, 1) := by decide +kernel
theorem d_RM_copy_30 : decode prog_6_method_21_code 30 = .ok (.iload_n 3, 1) := by decide +kernel
theorem d_RM_copy_31 : decode prog_6_method_21_code 31 = .ok (.invokevirtual 90, 3) := by decide +kernel
theorem d_RM_copy_34 : decode prog_6_method_21_code 34 = .ok (.goto 5, 3) := by decide +kernel
theorem d_RM_copy_37 : decode prog_6_method_21_code 37 = .ok (.bipush 9, 2) := by decide +kernel
theorem d_RM_copy_39 : decode prog_6_method_21_code 39 = .ok (.ireturn, 1) := by decide +kernel
def RM_copy (st : rm_S) (p0 : Int32) (p1 : Int32) (p2 : Int32) : Option (Int32 × rm_S) := nm (RM_isRegister p0) (fun r1 => (if r1 = 0 then some ((9 : Int32), st) else nm (RM_isRegister p1) (fun r8 => (if r8 = 0 then some ((9 : Int32), st) else nm (RM_isMode p2) (fun r15 => (if r15 = 0 then some ((9 : Int32), st) else (if ob_in p1 8 = true then ob2 (RM_move st p0 p1 (st 3 p1.toNatClampNeg) p2) (fun r31 t31 => some (r31, t31)) else none)))))))
set_option maxHeartbeats 4000000 in
set_option maxRecDepth 100000 in
theorem c_RM_copy (l : Launch) {D : va_G} (a : Nat → Nat) (ci : ClassId) (hi : rm_inj a) (st : rm_S) (p0 : Int32) (p1 : Int32) (p2 : Int32) (r0 : Int32) (t0 : rm_S) (hF : RM_copy st p0 p1 p2 = some (r0, t0)) : ct_i l ⟨"RoundedNumbersModel", "copy", "(III)I"⟩ (.code ⟨"RoundedNumbersModel", "copy", "(III)I"⟩ prog_6_method_21_code 4 (some .int) :: ct_T) { frames := 4, cells := 0, slots := 0, locals := 105 } D vwCl (rm_T ci) (rm_g a ci) (rm_X a) [.ref (a 0), .int p0, .int p1, .int p2] st r0 t0 := by
  refine ct_i.mk (cc := prog_6_method_21_code) (maxL := 4) (by decide) rfl (Nat.le_of_ble_eq_true rfl) ?_
  intro p e s m below meth c hx hb hr hml hown hts hlk hK hN hP hS ls hl
  have hown : s.vm.findClass "RoundedNumbersModel" = some m.cls := hown
  have hl : lv_has ls 4 [(0, .ref (a 0)), (1, .int p0), (2, .int p1), (3, .int p2)] := hl
  have htb := fun w h => hts w (List.mem_cons_of_mem _ h)
  unfold RM_copy at hF
  refine lv_iload_n hx hb d_RM_copy_0 rfl (lv_at hl 1 rfl) ?_
  obtain ⟨r1, e1⟩ := nm_ex (RM_isRegister p0)
  replace hF := (nm_eq e1).symm.trans hF
  refine ct_calli (va_runS (As := [.int p0]) (rest := []) ⟨hx, hb, hml, hown, hts⟩ (c_RM_isRegister l (D := D) a ci hi st p0 _ e1 _) (kc_RM_40 hts ⟨by decide, by decide⟩) ⟨ct_blind, ct_ok hP hK hN⟩ rfl rfl hl.1 rfl (lv_room (Nat.le_of_ble_eq_true rfl)) d_RM_copy_1 ⟨Nat.zero_le _, Nat.zero_le _⟩) hS (fun H locs hP hS => ?_)
  refine lv_if_eq hx hb d_RM_copy_4 (tgt := 37) (by decide) (fun c4 => ?_) (fun c4 => ?_)
  · replace hF := (if_pos c4).symm.trans hF
    refine lv_bipush (v := 9) hx hb d_RM_copy_37 (by decide) ?_
    replace hF := Option.some.inj hF
    obtain ⟨rfl, rfl⟩ := Prod.mk.inj hF
    exact ct_iret hx hb hr hlk hP hS d_RM_copy_39
  · replace hF := (if_neg c4).symm.trans hF
    refine lv_iload_n hx hb d_RM_copy_7 rfl (lv_at hl 2 rfl) ?_
    obtain ⟨r8, e8⟩ := nm_ex (RM_isRegister p1)
    replace hF := (nm_eq e8).symm.trans hF
    refine ct_calli (va_runS (As := [.int p1]) (rest := []) ⟨hx, hb, hml, hown, hts⟩ (c_RM_isRegister l (D := D) a ci hi st p1 _ e8 _) (kc_RM_40 hts ⟨by decide, by decide⟩) ⟨ct_blind, ct_ok hP hK hN⟩ rfl rfl hl.1 rfl (lv_room (Nat.le_of_ble_eq_true rfl)) d_RM_copy_8 ⟨Nat.zero_le _, Nat.zero_le _⟩) hS (fun H locs hP hS => ?_)
    refine lv_if_eq hx hb d_RM_copy_11 (tgt := 37) (by decide) (fun c11 => ?_) (fun c11 => ?_)
    · replace hF := (if_pos c11).symm.trans hF
      refine lv_bipush (v := 9) hx hb d_RM_copy_37 (by decide) ?_
      replace hF := Option.some.inj hF
      obtain ⟨rfl, rfl⟩ := Prod.mk.inj hF
      exact ct_iret hx hb hr hlk hP hS d_RM_copy_39
    · replace hF := (if_neg c11).symm.trans hF
      refine lv_iload_n hx hb d_RM_copy_14 rfl (lv_at hl 3 rfl) ?_
      obtain ⟨r15, e15⟩ := nm_ex (RM_isMode p2)
      replace hF := (nm_eq e15).symm.trans hF
      refine ct_calli (va_runS (As := [.int p2]) (rest := []) ⟨hx, hb, hml, hown, hts⟩ (c_RM_isMode l (D := D) a ci hi st p2 _ e15 _) (kc_RM_77 hts ⟨by decide, by decide⟩) ⟨ct_blind, ct_ok hP hK hN⟩ rfl rfl hl.1 rfl (lv_room (Nat.le_of_ble_eq_true rfl)) d_RM_copy_15 ⟨Nat.zero_le _, Nat.zero_le _⟩) hS (fun H locs hP hS => ?_)
      refine lv_if_eq hx hb d_RM_copy_18 (tgt := 37) (by decide) (fun c18 => ?_) (fun c18 => ?_)
      · replace hF := (if_pos c18).symm.trans hF
        refine lv_bipush (v := 9) hx hb d_RM_copy_37 (by decide) ?_
        replace hF := Option.some.inj hF
        obtain ⟨rfl, rfl⟩ := Prod.mk.inj hF
        exact ct_iret hx hb hr hlk hP hS d_RM_copy_39
      · replace hF := (if_neg c18).symm.trans hF
        refine lv_aload_n hx hb d_RM_copy_21 rfl (lv_at hl 0 rfl) ?_
        refine lv_iload_n hx hb d_RM_copy_22 rfl (lv_at hl 1 rfl) ?_
        refine lv_iload_n hx hb d_RM_copy_23 rfl (lv_at hl 2 rfl) ?_
        refine lv_aload_n hx hb d_RM_copy_24 rfl (lv_at hl 0 rfl) ?_
        refine gf_RM_16 hx hb htb hown hK hP d_RM_copy_25 ?_
        refine lv_iload_n hx hb d_RM_copy_28 rfl (lv_at hl 2 rfl) ?_
        obtain ⟨b29, hF⟩ := ob_if hF
        refine rm_ald hx hb hK hP (k := 3) (by decide) (by decide) (ob_vi b29) d_RM_copy_29 ?_
        refine lv_iload_n hx hb d_RM_copy_30 rfl (lv_at hl 3 rfl) ?_
        obtain ⟨r31, t31, e31, hF⟩ := ob_two hF
        refine ct_calli (va_runV (As := [.int p0, .int p1, .int (st 3 p1.toNatClampNeg), .int p2]) (rest := []) ⟨hx, hb, hml, hown, hts⟩ (c_RM_move l (D := D) a ci hi st p0 p1 (st 3 p1.toNatClampNeg) p2 _ _ e31 _) (kc_RM_90 hts ⟨by decide, by decide⟩) ⟨ct_blind, rm_rc hK hP, ct_ok hP hK hN⟩ rfl rfl hl.1 rfl (lv_room (Nat.le_of_ble_eq_true rfl)) d_RM_copy_31 ⟨Nat.zero_le _, Nat.zero_le _⟩) hS (fun H locs hP hS => ?_)
        refine lv_goto hx hb d_RM_copy_34 (tgt := 39) (by decide) ?_
        replace hF := Option.some.inj hF
        obtain ⟨rfl, rfl⟩ := Prod.mk.inj hF
        exact ct_iret hx hb hr hlk hP hS d_RM_copy_39
theorem d_RM_negate_0 : decode prog_6_method_22_code 0 = .ok (.iload_n 1, 1) := by decide +kernel
theorem d_RM_negate_1 : decode prog_6_method_22_code 1 = .ok (.invokestatic 40, 3) := by decide +kernel
theorem d_RM_negate_4 : decode prog_6_method_22_code 4 = .ok (.ifCond .eq 34, 3) := by decide +kernel
theorem d_RM_negate_7 : decode prog_6_method_22_code 7 = .ok (.iload_n 2, 1) := by decide +kernel
theorem d_RM_negate_8 : decode prog_6_method_22_code 8 = .ok (.invokestatic 40, 3) := by decide +kernel
theorem d_RM_negate_11 : decode prog_6_method_22_code 11 = .ok (.ifCond .eq 27, 3) := by decide +kernel
theorem d_RM_negate_14 : decode prog_6_method_22_code 14 = .ok (.iload_n 3, 1) := by decide +kernel
theorem d_RM_negate_15 : decode prog_6_method_22_code 15 = .ok (.invokestatic 77, 3) := by decide +kernel
theorem d_RM_negate_18 : decode prog_6_method_22_code 18 = .ok (.ifCond .eq 20, 3) := by decide +kernel
theorem d_RM_negate_21 : decode prog_6_method_22_code 21 = .ok (.aload_n 0, 1) := by decide +kernel
theorem d_RM_negate_22 : decode prog_6_method_22_code 22 = .ok (.iload_n 1, 1) := by decide +kernel
theorem d_RM_negate_23 : decode prog_6_method_22_code 23 = .ok (.iload_n 2, 1) := by decide +kernel
theorem d_RM_negate_24 : decode prog_6_method_22_code 24 = .ok (.aload_n 0, 1) := by decide +kernel
theorem d_RM_negate_25 : decode prog_6_method_22_code 25 = .ok (.getfield 16, 3) := by decide +kernel
theorem d_RM_negate_28 : decode prog_6_method_22_code 28 = .ok (.iload_n 2, 1) := by decide +kernel
theorem d_RM_negate_29 : decode prog_6_method_22_code 29 = .ok (.iaload, 1) := by decide +kernel
theorem d_RM_negate_30 : decode prog_6_method_22_code 30 = .ok (.ineg, 1) := by decide +kernel
theorem d_RM_negate_31 : decode prog_6_method_22_code 31 = .ok (.iload_n 3, 1) := by decide +kernel
theorem d_RM_negate_32 : decode prog_6_method_22_code 32 = .ok (.invokevirtual 90, 3) := by decide +kernel
theorem d_RM_negate_35 : decode prog_6_method_22_code 35 = .ok (.goto 5, 3) := by decide +kernel
theorem d_RM_negate_38 : decode prog_6_method_22_code 38 = .ok (.bipush 9, 2) := by decide +kernel
theorem d_RM_negate_40 : decode prog_6_method_22_code 40 = .ok (.ireturn, 1) := by decide +kernel
def RM_negate (st : rm_S) (p0 : Int32) (p1 : Int32) (p2 : Int32) : Option (Int32 × rm_S) := nm (RM_isRegister p0) (fun r1 => (if r1 = 0 then some ((9 : Int32), st) else nm (RM_isRegister p1) (fun r8 => (if r8 = 0 then some ((9 : Int32), st) else nm (RM_isMode p2) (fun r15 => (if r15 = 0 then some ((9 : Int32), st) else (if ob_in p1 8 = true then ob2 (RM_move st p0 p1 (-(st 3 p1.toNatClampNeg)) p2) (fun r32 t32 => some (r32, t32)) else none)))))))
set_option maxHeartbeats 4000000 in
set_option maxRecDepth 100000 in
theorem c_RM_negate (l : Launch) {D : va_G} (a : Nat → Nat) (ci : ClassId) (hi : rm_inj a) (st : rm_S) (p0 : Int32) (p1 : Int32) (p2 : Int32) (r0 : Int32) (t0 : rm_S) (hF : RM_negate st p0 p1 p2 = some (r0, t0)) : ct_i l ⟨"RoundedNumbersModel", "negate", "(III)I"⟩ (.code ⟨"RoundedNumbersModel", "negate", "(III)I"⟩ prog_6_method_22_code 4 (some .int) :: ct_T) { frames := 4, cells := 0, slots := 0, locals := 105 } D vwCl (rm_T ci) (rm_g a ci) (rm_X a) [.ref (a 0), .int p0, .int p1, .int p2] st r0 t0 := by
  refine ct_i.mk (cc := prog_6_method_22_code) (maxL := 4) (by decide) rfl (Nat.le_of_ble_eq_true rfl) ?_
  intro p e s m below meth c hx hb hr hml hown hts hlk hK hN hP hS ls hl
  have hown : s.vm.findClass "RoundedNumbersModel" = some m.cls := hown
  have hl : lv_has ls 4 [(0, .ref (a 0)), (1, .int p0), (2, .int p1), (3, .int p2)] := hl
  have htb := fun w h => hts w (List.mem_cons_of_mem _ h)
  unfold RM_negate at hF
  refine lv_iload_n hx hb d_RM_negate_0 rfl (lv_at hl 1 rfl) ?_
  obtain ⟨r1, e1⟩ := nm_ex (RM_isRegister p0)
  replace hF := (nm_eq e1).symm.trans hF
  refine ct_calli (va_runS (As := [.int p0]) (rest := []) ⟨hx, hb, hml, hown, hts⟩ (c_RM_isRegister l (D := D) a ci hi st p0 _ e1 _) (kc_RM_40 hts ⟨by decide, by decide⟩) ⟨ct_blind, ct_ok hP hK hN⟩ rfl rfl hl.1 rfl (lv_room (Nat.le_of_ble_eq_true rfl)) d_RM_negate_1 ⟨Nat.zero_le _, Nat.zero_le _⟩) hS (fun H locs hP hS => ?_)
  refine lv_if_eq hx hb d_RM_negate_4 (tgt := 38) (by decide) (fun c4 => ?_) (fun c4 => ?_)
  · replace hF := (if_pos c4).symm.trans hF
    refine lv_bipush (v := 9) hx hb d_RM_negate_38 (by decide) ?_
    replace hF := Option.some.inj hF
    obtain ⟨rfl, rfl⟩ := Prod.mk.inj hF
    exact ct_iret hx hb hr hlk hP hS d_RM_negate_40
  · replace hF := (if_neg c4).symm.trans hF
    refine lv_iload_n hx hb d_RM_negate_7 rfl (lv_at hl 2 rfl) ?_
    obtain ⟨r8, e8⟩ := nm_ex (RM_isRegister p1)
    replace hF := (nm_eq e8).symm.trans hF
    refine ct_calli (va_runS (As := [.int p1]) (rest := []) ⟨hx, hb, hml, hown, hts⟩ (c_RM_isRegister l (D := D) a ci hi st p1 _ e8 _) (kc_RM_40 hts ⟨by decide, by decide⟩) ⟨ct_blind, ct_ok hP hK hN⟩ rfl rfl hl.1 rfl (lv_room (Nat.le_of_ble_eq_true rfl)) d_RM_negate_8 ⟨Nat.zero_le _, Nat.zero_le _⟩) hS (fun H locs hP hS => ?_)
    refine lv_if_eq hx hb d_RM_negate_11 (tgt := 38) (by decide) (fun c11 => ?_) (fun c11 => ?_)
    · replace hF := (if_pos c11).symm.trans hF
      refine lv_bipush (v := 9) hx hb d_RM_negate_38 (by decide) ?_
      replace hF := Option.some.inj hF
      obtain ⟨rfl, rfl⟩ := Prod.mk.inj hF
      exact ct_iret hx hb hr hlk hP hS d_RM_negate_40
    · replace hF := (if_neg c11).symm.trans hF
      refine lv_iload_n hx hb d_RM_negate_14 rfl (lv_at hl 3 rfl) ?_
      obtain ⟨r15, e15⟩ := nm_ex (RM_isMode p2)
      replace hF := (nm_eq e15).symm.trans hF
      refine ct_calli (va_runS (As := [.int p2]) (rest := []) ⟨hx, hb, hml, hown, hts⟩ (c_RM_isMode l (D := D) a ci hi st p2 _ e15 _) (kc_RM_77 hts ⟨by decide, by decide⟩) ⟨ct_blind, ct_ok hP hK hN⟩ rfl rfl hl.1 rfl (lv_room (Nat.le_of_ble_eq_true rfl)) d_RM_negate_15 ⟨Nat.zero_le _, Nat.zero_le _⟩) hS (fun H locs hP hS => ?_)
      refine lv_if_eq hx hb d_RM_negate_18 (tgt := 38) (by decide) (fun c18 => ?_) (fun c18 => ?_)
      · replace hF := (if_pos c18).symm.trans hF
        refine lv_bipush (v := 9) hx hb d_RM_negate_38 (by decide) ?_
        replace hF := Option.some.inj hF
        obtain ⟨rfl, rfl⟩ := Prod.mk.inj hF
        exact ct_iret hx hb hr hlk hP hS d_RM_negate_40
      · replace hF := (if_neg c18).symm.trans hF
        refine lv_aload_n hx hb d_RM_negate_21 rfl (lv_at hl 0 rfl) ?_
        refine lv_iload_n hx hb d_RM_negate_22 rfl (lv_at hl 1 rfl) ?_
        refine lv_iload_n hx hb d_RM_negate_23 rfl (lv_at hl 2 rfl) ?_
        refine lv_aload_n hx hb d_RM_negate_24 rfl (lv_at hl 0 rfl) ?_
        refine gf_RM_16 hx hb htb hown hK hP d_RM_negate_25 ?_
        refine lv_iload_n hx hb d_RM_negate_28 rfl (lv_at hl 2 rfl) ?_
        obtain ⟨b29, hF⟩ := ob_if hF
        refine rm_ald hx hb hK hP (k := 3) (by decide) (by decide) (ob_vi b29) d_RM_negate_29 ?_
        refine lv_ineg hx hb d_RM_negate_30 ?_
        refine lv_iload_n hx hb d_RM_negate_31 rfl (lv_at hl 3 rfl) ?_
        obtain ⟨r32, t32, e32, hF⟩ := ob_two hF
        refine ct_calli (va_runV (As := [.int p0, .int p1, .int (-(st 3 p1.toNatClampNeg)), .int p2]) (rest := []) ⟨hx, hb, hml, hown, hts⟩ (c_RM_move l (D := D) a ci hi st p0 p1 (-(st 3 p1.toNatClampNeg)) p2 _ _ e32 _) (kc_RM_90 hts ⟨by decide, by decide⟩) ⟨ct_blind, rm_rc hK hP, ct_ok hP hK hN⟩ rfl rfl hl.1 rfl (lv_room (Nat.le_of_ble_eq_true rfl)) d_RM_negate_32 ⟨Nat.zero_le _, Nat.zero_le _⟩) hS (fun H locs hP hS => ?_)
        refine lv_goto hx hb d_RM_negate_35 (tgt := 40) (by decide) ?_
        replace hF := Option.some.inj hF
        obtain ⟨rfl, rfl⟩ := Prod.mk.inj hF
        exact ct_iret hx hb hr hlk hP hS d_RM_negate_40
theorem d_RM_nothing_0 : decode prog_6_method_23_code 0 = .ok (.aload_n 0, 1) := by decide +kernel
theorem d_RM_nothing_1 : decode prog_6_method_23_code 1 = .ok (.iload_n 1, 1) := by decide +kernel
theorem d_RM_nothing_2 : decode prog_6_method_23_code 2 = .ok (.iconst 2, 1) := by decide +kernel
theorem d_RM_nothing_3 : decode prog_6_method_23_code 3 = .ok (.iload_n 2, 1) := by decide +kernel
theorem d_RM_nothing_4 : decode prog_6_method_23_code 4 = .ok (.iconst 3, 1) := by decide +kernel
theorem d_RM_nothing_5 : decode prog_6_method_23_code 5 = .ok (.if_icmp .ne 7, 3) := by decide +kernel
theorem d_RM_nothing_8 : decode prog_6_method_23_code 8 = .ok (.iconst (-1), 1) := by decide +kernel
theorem d_RM_nothing_9 : decode prog_6_method_23_code 9 = .ok (.goto 4, 3) := by decide +kernel
theorem d_RM_nothing_12 : decode prog_6_method_23_code 12 = .ok (.iconst 1, 1) := by decide +kernel
theorem d_RM_nothing_13 : decode prog_6_method_23_code 13 = .ok (.invokevirtual 59, 3) := by decide +kernel
theorem d_RM_nothing_16 : decode prog_6_method_23_code 16 = .ok (.ireturn, 1) := by decide +kernel
def RM_nothing_13 (s0 : Int32) (s1 : Int32) (s2 : Int32) (st : rm_S) : Option (Int32 × rm_S) := ob2 (RM_keep st s2 s1 s0) (fun r13 t13 => some (r13, t13))
def RM_nothing (st : rm_S) (p0 : Int32) (p1 : Int32) : Option (Int32 × rm_S) := (if p1 = (3 : Int32) then RM_nothing_13 (-1 : Int32) (2 : Int32) p0 st else RM_nothing_13 (1 : Int32) (2 : Int32) p0 st)
set_option maxHeartbeats 4000000 in
set_option maxRecDepth 100000 in
theorem c_RM_nothing (l : Launch) {D : va_G} (a : Nat → Nat) (ci : ClassId) (hi : rm_inj a) (st : rm_S) (p0 : Int32) (p1 : Int32) (r0 : Int32) (t0 : rm_S) (hF : RM_nothing st p0 p1 = some (r0, t0)) : ct_i l ⟨"RoundedNumbersModel", "nothing", "(II)I"⟩ (.code ⟨"RoundedNumbersModel", "nothing", "(II)I"⟩ prog_6_method_23_code 3 (some .int) :: ct_T) { frames := 1, cells := 0, slots := 0, locals := 23 } D vwCl (rm_T ci) (rm_g a ci) (rm_X a) [.ref (a 0), .int p0, .int p1] st r0 t0 := by
  refine ct_i.mk (cc := prog_6_method_23_code) (maxL := 3) (by decide) rfl (Nat.le_of_ble_eq_true rfl) ?_
  intro p e s m below meth c hx hb hr hml hown hts hlk hK hN hP hS ls hl
  have hown : s.vm.findClass "RoundedNumbersModel" = some m.cls := hown
  have hl : lv_has ls 3 [(0, .ref (a 0)), (1, .int p0), (2, .int p1)] := hl
  have htb := fun w h => hts w (List.mem_cons_of_mem _ h)
  unfold RM_nothing at hF
  refine lv_aload_n hx hb d_RM_nothing_0 rfl (lv_at hl 0 rfl) ?_
  refine lv_iload_n hx hb d_RM_nothing_1 rfl (lv_at hl 1 rfl) ?_
  refine lv_iconst (v := 2) hx hb d_RM_nothing_2 (by decide) ?_
  refine lv_iload_n hx hb d_RM_nothing_3 rfl (lv_at hl 2 rfl) ?_
  refine lv_iconst (v := 3) hx hb d_RM_nothing_4 (by decide) ?_
  refine ct_cut1 (fun (j13s0 : Int32) ls H locs => lv_has ls 3 [] ∧ RM_nothing_13 j13s0 (2 : Int32) p0 st = some (r0, t0) ∧ va_P D vwCl (rm_g a ci st) H ∧ va_S (ct_F (rm_X a) s.heap.size) s.heap H locs) 13 (fun j13s0 => [.int j13s0, .int (2 : Int32), .int p0, .ref (a 0)]) ?_ ?_
  · intro j13s0 ls H locs hq
    obtain ⟨hl, hF, hP, hS⟩ := hq
    unfold RM_nothing_13 at hF
    obtain ⟨r13, t13, e13, hF⟩ := ob_two hF
    refine ct_calli (va_runV (As := [.int p0, .int (2 : Int32), .int j13s0]) (rest := []) ⟨hx, hb, hml, hown, hts⟩ (c_RM_keep l (D := D) a ci hi st p0 (2 : Int32) j13s0 _ _ e13 _) (kc_RM_59 hts ⟨by decide, by decide⟩) ⟨ct_blind, rm_rc hK hP, ct_ok hP hK hN⟩ rfl rfl hl.1 rfl (lv_room (Nat.le_of_ble_eq_true rfl)) d_RM_nothing_13 ⟨Nat.zero_le _, Nat.zero_le _⟩) hS (fun H locs hP hS => ?_)
    replace hF := Option.some.inj hF
    obtain ⟨rfl, rfl⟩ := Prod.mk.inj hF
    exact ct_iret hx hb hr hlk hP hS d_RM_nothing_16
  · intro kj13
    refine lv_icmp_ne hx hb d_RM_nothing_5 (tgt := 12) (by decide) (fun c5 => ?_) (fun c5 => ?_)
    · replace hF := (if_neg c5).symm.trans hF
      refine lv_iconst (v := 1) hx hb d_RM_nothing_12 (by decide) ?_
      exact kj13 (1 : Int32) _ _ _ ⟨lv_sub hl [] rfl, hF, hP, hS⟩
    · replace hF := (if_pos c5).symm.trans hF
      refine lv_iconst (v := -1) hx hb d_RM_nothing_8 (by decide) ?_
      refine lv_goto hx hb d_RM_nothing_9 (tgt := 13) (by decide) ?_
      exact kj13 (-1 : Int32) _ _ _ ⟨lv_sub hl [] rfl, hF, hP, hS⟩
