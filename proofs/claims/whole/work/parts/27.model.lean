theorem d_RM_div_0 : decode prog_6_method_36_code 0 = .ok (.iload_n 1, 1) := by decide +kernel
theorem d_RM_div_1 : decode prog_6_method_36_code 1 = .ok (.invokestatic 40, 3) := by decide +kernel
theorem d_RM_div_4 : decode prog_6_method_36_code 4 = .ok (.ifCond .eq 25, 3) := by decide +kernel
theorem d_RM_div_7 : decode prog_6_method_36_code 7 = .ok (.iload_n 2, 1) := by decide +kernel
theorem d_RM_div_8 : decode prog_6_method_36_code 8 = .ok (.invokestatic 40, 3) := by decide +kernel
theorem d_RM_div_11 : decode prog_6_method_36_code 11 = .ok (.ifCond .eq 18, 3) := by decide +kernel
theorem d_RM_div_14 : decode prog_6_method_36_code 14 = .ok (.iload_n 3, 1) := by decide +kernel
theorem d_RM_div_15 : decode prog_6_method_36_code 15 = .ok (.invokestatic 40, 3) := by decide +kernel
theorem d_RM_div_18 : decode prog_6_method_36_code 18 = .ok (.ifCond .eq 11, 3) := by decide +kernel
theorem d_RM_div_21 : decode prog_6_method_36_code 21 = .ok (.iload 4, 2) := by decide +kernel
theorem d_RM_div_23 : decode prog_6_method_36_code 23 = .ok (.invokestatic 77, 3) := by decide +kernel
theorem d_RM_div_26 : decode prog_6_method_36_code 26 = .ok (.ifCond .ne 6, 3) := by decide +kernel
theorem d_RM_div_29 : decode prog_6_method_36_code 29 = .ok (.bipush 9, 2) := by decide +kernel
theorem d_RM_div_31 : decode prog_6_method_36_code 31 = .ok (.ireturn, 1) := by decide +kernel
theorem d_RM_div_32 : decode prog_6_method_36_code 32 = .ok (.aload_n 0, 1) := by decide +kernel
theorem d_RM_div_33 : decode prog_6_method_36_code 33 = .ok (.getfield 13, 3) := by decide +kernel
theorem d_RM_div_36 : decode prog_6_method_36_code 36 = .ok (.iload_n 2, 1) := by decide +kernel
theorem d_RM_div_37 : decode prog_6_method_36_code 37 = .ok (.iaload, 1) := by decide +kernel
theorem d_RM_div_38 : decode prog_6_method_36_code 38 = .ok (.istore 5, 2) := by decide +kernel
theorem d_RM_div_40 : decode prog_6_method_36_code 40 = .ok (.aload_n 0, 1) := by decide +kernel
theorem d_RM_div_41 : decode prog_6_method_36_code 41 = .ok (.getfield 13, 3) := by decide +kernel
theorem d_RM_div_44 : decode prog_6_method_36_code 44 = .ok (.iload_n 3, 1) := by decide +kernel
theorem d_RM_div_45 : decode prog_6_method_36_code 45 = .ok (.iaload, 1) := by decide +kernel
theorem d_RM_div_46 : decode prog_6_method_36_code 46 = .ok (.istore 6, 2) := by decide +kernel
theorem d_RM_div_48 : decode prog_6_method_36_code 48 = .ok (.aload_n 0, 1) := by decide +kernel
theorem d_RM_div_49 : decode prog_6_method_36_code 49 = .ok (.getfield 16, 3) := by decide +kernel
theorem d_RM_div_52 : decode prog_6_method_36_code 52 = .ok (.iload_n 2, 1) := by decide +kernel
theorem d_RM_div_53 : decode prog_6_method_36_code 53 = .ok (.iaload, 1) := by decide +kernel
theorem d_RM_div_54 : decode prog_6_method_36_code 54 = .ok (.aload_n 0, 1) := by decide +kernel
theorem d_RM_div_55 : decode prog_6_method_36_code 55 = .ok (.getfield 16, 3) := by decide +kernel
theorem d_RM_div_58 : decode prog_6_method_36_code 58 = .ok (.iload_n 3, 1) := by decide +kernel
theorem d_RM_div_59 : decode prog_6_method_36_code 59 = .ok (.iaload, 1) := by decide +kernel
theorem d_RM_div_60 : decode prog_6_method_36_code 60 = .ok (.imul, 1) := by decide +kernel
theorem d_RM_div_61 : decode prog_6_method_36_code 61 = .ok (.istore 7, 2) := by decide +kernel
theorem d_RM_div_63 : decode prog_6_method_36_code 63 = .ok (.iload 5, 2) := by decide +kernel
theorem d_RM_div_65 : decode prog_6_method_36_code 65 = .ok (.ifCond .eq 21, 3) := by decide +kernel
theorem d_RM_div_68 : decode prog_6_method_36_code 68 = .ok (.iload 6, 2) := by decide +kernel
theorem d_RM_div_70 : decode prog_6_method_36_code 70 = .ok (.ifCond .eq 16, 3) := by decide +kernel
theorem d_RM_div_73 : decode prog_6_method_36_code 73 = .ok (.iload 5, 2) := by decide +kernel
theorem d_RM_div_75 : decode prog_6_method_36_code 75 = .ok (.iload 6, 2) := by decide +kernel
theorem d_RM_div_77 : decode prog_6_method_36_code 77 = .ok (.if_icmp .ne 17, 3) := by decide +kernel
theorem d_RM_div_80 : decode prog_6_method_36_code 80 = .ok (.iload 5, 2) := by decide +kernel
theorem d_RM_div_82 : decode prog_6_method_36_code 82 = .ok (.iconst 3, 1) := by decide +kernel
theorem d_RM_div_83 : decode prog_6_method_36_code 83 = .ok (.if_icmp .eq 11, 3) := by decide +kernel
theorem d_RM_div_86 : decode prog_6_method_36_code 86 = .ok (.aload_n 0, 1) := by decide +kernel
theorem d_RM_div_87 : decode prog_6_method_36_code 87 = .ok (.iload_n 1, 1) := by decide +kernel
theorem d_RM_div_88 : decode prog_6_method_36_code 88 = .ok (.iconst 0, 1) := by decide +kernel
theorem d_RM_div_89 : decode prog_6_method_36_code 89 = .ok (.iconst 0, 1) := by decide +kernel
theorem d_RM_div_90 : decode prog_6_method_36_code 90 = .ok (.invokevirtual 59, 3) := by decide +kernel
theorem d_RM_div_93 : decode prog_6_method_36_code 93 = .ok (.ireturn, 1) := by decide +kernel
theorem d_RM_div_94 : decode prog_6_method_36_code 94 = .ok (.iload 5, 2) := by decide +kernel
theorem d_RM_div_96 : decode prog_6_method_36_code 96 = .ok (.iconst 1, 1) := by decide +kernel
theorem d_RM_div_97 : decode prog_6_method_36_code 97 = .ok (.if_icmp .eq 9, 3) := by decide +kernel
theorem d_RM_div_100 : decode prog_6_method_36_code 100 = .ok (.iload 6, 2) := by decide +kernel
theorem d_RM_div_102 : decode prog_6_method_36_code 102 = .ok (.iconst 2, 1) := by decide +kernel
theorem d_RM_div_103 : decode prog_6_method_36_code 103 = .ok (.if_icmp .ne 12, 3) := by decide +kernel
theorem d_RM_div_106 : decode prog_6_method_36_code 106 = .ok (.aload_n 0, 1) := by decide +kernel
theorem d_RM_div_107 : decode prog_6_method_36_code 107 = .ok (.iload_n 1, 1) := by decide +kernel
theorem d_RM_div_108 : decode prog_6_method_36_code 108 = .ok (.iconst 1, 1) := by decide +kernel
theorem d_RM_div_109 : decode prog_6_method_36_code 109 = .ok (.iload 7, 2) := by decide +kernel
theorem d_RM_div_111 : decode prog_6_method_36_code 111 = .ok (.invokevirtual 59, 3) := by decide +kernel
theorem d_RM_div_114 : decode prog_6_method_36_code 114 = .ok (.ireturn, 1) := by decide +kernel
theorem d_RM_div_115 : decode prog_6_method_36_code 115 = .ok (.iload 5, 2) := by decide +kernel
theorem d_RM_div_117 : decode prog_6_method_36_code 117 = .ok (.iconst 2, 1) := by decide +kernel
theorem d_RM_div_118 : decode prog_6_method_36_code 118 = .ok (.if_icmp .eq 9, 3) := by decide +kernel
theorem d_RM_div_121 : decode prog_6_method_36_code 121 = .ok (.iload 6, 2) := by decide +kernel
theorem d_RM_div_123 : decode prog_6_method_36_code 123 = .ok (.iconst 1, 1) := by decide +kernel
theorem d_RM_div_124 : decode prog_6_method_36_code 124 = .ok (.if_icmp .ne 12, 3) := by decide +kernel
theorem d_RM_div_127 : decode prog_6_method_36_code 127 = .ok (.aload_n 0, 1) := by decide +kernel
theorem d_RM_div_128 : decode prog_6_method_36_code 128 = .ok (.iload_n 1, 1) := by decide +kernel
theorem d_RM_div_129 : decode prog_6_method_36_code 129 = .ok (.iconst 2, 1) := by decide +kernel
theorem d_RM_div_130 : decode prog_6_method_36_code 130 = .ok (.iload 7, 2) := by decide +kernel
theorem d_RM_div_132 : decode prog_6_method_36_code 132 = .ok (.invokevirtual 59, 3) := by decide +kernel
theorem d_RM_div_135 : decode prog_6_method_36_code 135 = .ok (.ireturn, 1) := by decide +kernel
theorem d_RM_div_136 : decode prog_6_method_36_code 136 = .ok (.aload_n 0, 1) := by decide +kernel
theorem d_RM_div_137 : decode prog_6_method_36_code 137 = .ok (.invokevirtual 80, 3) := by decide +kernel
theorem d_RM_div_140 : decode prog_6_method_36_code 140 = .ok (.aload_n 0, 1) := by decide +kernel
theorem d_RM_div_141 : decode prog_6_method_36_code 141 = .ok (.iload_n 2, 1) := by decide +kernel
theorem d_RM_div_142 : decode prog_6_method_36_code 142 = .ok (.iload_n 3, 1) := by decide +kernel
theorem d_RM_div_143 : decode prog_6_method_36_code 143 = .ok (.invokevirtual 127, 3) := by decide +kernel
theorem d_RM_div_146 : decode prog_6_method_36_code 146 = .ok (.aload_n 0, 1) := by decide +kernel
theorem d_RM_div_147 : decode prog_6_method_36_code 147 = .ok (.iload_n 1, 1) := by decide +kernel
theorem d_RM_div_148 : decode prog_6_method_36_code 148 = .ok (.iload 7, 2) := by decide +kernel
theorem d_RM_div_150 : decode prog_6_method_36_code 150 = .ok (.iload 4, 2) := by decide +kernel
theorem d_RM_div_152 : decode prog_6_method_36_code 152 = .ok (.invokevirtual 83, 3) := by decide +kernel
theorem d_RM_div_155 : decode prog_6_method_36_code 155 = .ok (.ireturn, 1) := by decide +kernel
def RM_div_86 (L1 : Int32) (st : rm_S) : Option (Int32 × rm_S) := ob2 (RM_keep st L1 (0 : Int32) (0 : Int32)) (fun r90 t90 => some (r90, t90))
def RM_div_106 (L1 : Int32) (L7 : Int32) (st : rm_S) : Option (Int32 × rm_S) := ob2 (RM_keep st L1 (1 : Int32) L7) (fun r111 t111 => some (r111, t111))
def RM_div_127 (L1 : Int32) (L7 : Int32) (st : rm_S) : Option (Int32 × rm_S) := ob2 (RM_keep st L1 (2 : Int32) L7) (fun r132 t132 => some (r132, t132))
def RM_div_94 (L1 : Int32) (L2 : Int32) (L3 : Int32) (L4 : Int32) (L5 : Int32) (L6 : Int32) (L7 : Int32) (st : rm_S) : Option (Int32 × rm_S) := (if L5 = (1 : Int32) then RM_div_106 L1 L7 st else (if L6 = (2 : Int32) then RM_div_106 L1 L7 st else (if L5 = (2 : Int32) then RM_div_127 L1 L7 st else (if L6 = (1 : Int32) then RM_div_127 L1 L7 st else ob1 (RM_clear st) (fun t137 => ob1 (RM_divide t137 L2 L3) (fun t143 => ob2 (RM_round t143 L1 L7 L4) (fun r152 t152 => some (r152, t152))))))))
def RM_div (st : rm_S) (p0 : Int32) (p1 : Int32) (p2 : Int32) (p3 : Int32) : Option (Int32 × rm_S) := nm (RM_isRegister p0) (fun r1 => (if r1 = 0 then some ((9 : Int32), st) else nm (RM_isRegister p1) (fun r8 => (if r8 = 0 then some ((9 : Int32), st) else nm (RM_isRegister p2) (fun r15 => (if r15 = 0 then some ((9 : Int32), st) else nm (RM_isMode p3) (fun r23 => (if r23 = 0 then some ((9 : Int32), st) else (if ob_in p1 8 = true then nm (st 2 p1.toNatClampNeg) (fun x38 => (if ob_in p2 8 = true then nm (st 2 p2.toNatClampNeg) (fun x46 => (if ob_in p1 8 = true then (if ob_in p2 8 = true then nm ((st 3 p1.toNatClampNeg) * (st 3 p2.toNatClampNeg)) (fun x61 => (if x38 = 0 then RM_div_86 p0 st else (if x46 = 0 then RM_div_86 p0 st else (if x38 = x46 then (if x38 = (3 : Int32) then RM_div_94 p0 p1 p2 p3 x38 x46 x61 st else RM_div_86 p0 st) else RM_div_94 p0 p1 p2 p3 x38 x46 x61 st)))) else none) else none)) else none)) else none)))))))))
set_option maxHeartbeats 4000000 in
set_option maxRecDepth 100000 in
theorem c_RM_div (l : Launch) {D : va_G} (a : Nat → Nat) (ci : ClassId) (hi : rm_inj a) (st : rm_S) (p0 : Int32) (p1 : Int32) (p2 : Int32) (p3 : Int32) (r0 : Int32) (t0 : rm_S) (hF : RM_div st p0 p1 p2 p3 = some (r0, t0)) : ct_i l ⟨"RoundedNumbersModel", "div", "(IIII)I"⟩ (.code ⟨"RoundedNumbersModel", "div", "(IIII)I"⟩ prog_6_method_36_code 8 (some .int) :: ct_T) { frames := 3, cells := 0, slots := 0, locals := 81 } D vwCl (rm_T ci) (rm_g a ci) (rm_X a) [.ref (a 0), .int p0, .int p1, .int p2, .int p3] st r0 t0 := by
  refine ct_i.mk (cc := prog_6_method_36_code) (maxL := 8) (by decide) rfl (Nat.le_of_ble_eq_true rfl) ?_
  intro p e s m below meth c hx hb hr hml hown hts hlk hK hN hP hS ls hl
  have hown : s.vm.findClass "RoundedNumbersModel" = some m.cls := hown
  have hl : lv_has ls 8 [(0, .ref (a 0)), (1, .int p0), (2, .int p1), (3, .int p2), (4, .int p3)] := hl
  have htb := fun w h => hts w (List.mem_cons_of_mem _ h)
  unfold RM_div at hF
  refine lv_iload_n hx hb d_RM_div_0 rfl (lv_at hl 1 rfl) ?_
  obtain ⟨r1, e1⟩ := nm_ex (RM_isRegister p0)
  replace hF := (nm_eq e1).symm.trans hF
  refine ct_calli (va_runS (As := [.int p0]) (rest := []) ⟨hx, hb, hml, hown, hts⟩ (c_RM_isRegister l (D := D) a ci hi st p0 _ e1 _) (kc_RM_40 hts ⟨by decide, by decide⟩) ⟨ct_blind, ct_ok hP hK hN⟩ rfl rfl hl.1 rfl (lv_room (Nat.le_of_ble_eq_true rfl)) d_RM_div_1 ⟨Nat.zero_le _, Nat.zero_le _⟩) hS (fun H locs hP hS => ?_)
  refine lv_if_eq hx hb d_RM_div_4 (tgt := 29) (by decide) (fun c4 => ?_) (fun c4 => ?_)
  · replace hF := (if_pos c4).symm.trans hF
    refine lv_bipush (v := 9) hx hb d_RM_div_29 (by decide) ?_
    replace hF := Option.some.inj hF
    obtain ⟨rfl, rfl⟩ := Prod.mk.inj hF
    exact ct_iret hx hb hr hlk hP hS d_RM_div_31
  · replace hF := (if_neg c4).symm.trans hF
    refine lv_iload_n hx hb d_RM_div_7 rfl (lv_at hl 2 rfl) ?_
    obtain ⟨r8, e8⟩ := nm_ex (RM_isRegister p1)
    replace hF := (nm_eq e8).symm.trans hF
    refine ct_calli (va_runS (As := [.int p1]) (rest := []) ⟨hx, hb, hml, hown, hts⟩ (c_RM_isRegister l (D := D) a ci hi st p1 _ e8 _) (kc_RM_40 hts ⟨by decide, by decide⟩) ⟨ct_blind, ct_ok hP hK hN⟩ rfl rfl hl.1 rfl (lv_room (Nat.le_of_ble_eq_true rfl)) d_RM_div_8 ⟨Nat.zero_le _, Nat.zero_le _⟩) hS (fun H locs hP hS => ?_)
    refine lv_if_eq hx hb d_RM_div_11 (tgt := 29) (by decide) (fun c11 => ?_) (fun c11 => ?_)
    · replace hF := (if_pos c11).symm.trans hF
      refine lv_bipush (v := 9) hx hb d_RM_div_29 (by decide) ?_
      replace hF := Option.some.inj hF
      obtain ⟨rfl, rfl⟩ := Prod.mk.inj hF
      exact ct_iret hx hb hr hlk hP hS d_RM_div_31
    · replace hF := (if_neg c11).symm.trans hF
      refine lv_iload_n hx hb d_RM_div_14 rfl (lv_at hl 3 rfl) ?_
      obtain ⟨r15, e15⟩ := nm_ex (RM_isRegister p2)
      replace hF := (nm_eq e15).symm.trans hF
      refine ct_calli (va_runS (As := [.int p2]) (rest := []) ⟨hx, hb, hml, hown, hts⟩ (c_RM_isRegister l (D := D) a ci hi st p2 _ e15 _) (kc_RM_40 hts ⟨by decide, by decide⟩) ⟨ct_blind, ct_ok hP hK hN⟩ rfl rfl hl.1 rfl (lv_room (Nat.le_of_ble_eq_true rfl)) d_RM_div_15 ⟨Nat.zero_le _, Nat.zero_le _⟩) hS (fun H locs hP hS => ?_)
      refine lv_if_eq hx hb d_RM_div_18 (tgt := 29) (by decide) (fun c18 => ?_) (fun c18 => ?_)
      · replace hF := (if_pos c18).symm.trans hF
        refine lv_bipush (v := 9) hx hb d_RM_div_29 (by decide) ?_
        replace hF := Option.some.inj hF
        obtain ⟨rfl, rfl⟩ := Prod.mk.inj hF
        exact ct_iret hx hb hr hlk hP hS d_RM_div_31
      · replace hF := (if_neg c18).symm.trans hF
        refine lv_iload hx hb d_RM_div_21 (lv_at hl 4 rfl) ?_
        obtain ⟨r23, e23⟩ := nm_ex (RM_isMode p3)
        replace hF := (nm_eq e23).symm.trans hF
        refine ct_calli (va_runS (As := [.int p3]) (rest := []) ⟨hx, hb, hml, hown, hts⟩ (c_RM_isMode l (D := D) a ci hi st p3 _ e23 _) (kc_RM_77 hts ⟨by decide, by decide⟩) ⟨ct_blind, ct_ok hP hK hN⟩ rfl rfl hl.1 rfl (lv_room (Nat.le_of_ble_eq_true rfl)) d_RM_div_23 ⟨Nat.zero_le _, Nat.zero_le _⟩) hS (fun H locs hP hS => ?_)
        refine lv_if_ne hx hb d_RM_div_26 (tgt := 32) (by decide) (fun c26 => ?_) (fun c26 => ?_)
        · replace hF := (if_neg c26).symm.trans hF
          refine lv_aload_n hx hb d_RM_div_32 rfl (lv_at hl 0 rfl) ?_
          refine gf_RM_13 hx hb htb hown hK hP d_RM_div_33 ?_
          refine lv_iload_n hx hb d_RM_div_36 rfl (lv_at hl 2 rfl) ?_
          obtain ⟨b37, hF⟩ := ob_if hF
          refine rm_ald hx hb hK hP (k := 2) (by decide) (by decide) (ob_vi b37) d_RM_div_37 ?_
          refine lv_topi (fun x38 e38 => ?_)
          replace hF := (nm_eq e38.symm).symm.trans hF
          refine lv_istore (lv' := [(5, .int x38), (0, .ref (a 0)), (1, .int p0), (2, .int p1), (3, .int p2), (4, .int p3)]) hx hb d_RM_div_38 hl (by decide) rfl (fun ls hl => ?_)
          refine lv_aload_n hx hb d_RM_div_40 rfl (lv_at hl 1 rfl) ?_
          refine gf_RM_13 hx hb htb hown hK hP d_RM_div_41 ?_
          refine lv_iload_n hx hb d_RM_div_44 rfl (lv_at hl 4 rfl) ?_
          obtain ⟨b45, hF⟩ := ob_if hF
          refine rm_ald hx hb hK hP (k := 2) (by decide) (by decide) (ob_vi b45) d_RM_div_45 ?_
          refine lv_topi (fun x46 e46 => ?_)
          replace hF := (nm_eq e46.symm).symm.trans hF
          refine lv_istore (lv' := [(6, .int x46), (5, .int x38), (0, .ref (a 0)), (1, .int p0), (2, .int p1), (3, .int p2), (4, .int p3)]) hx hb d_RM_div_46 hl (by decide) rfl (fun ls hl => ?_)
          refine lv_aload_n hx hb d_RM_div_48 rfl (lv_at hl 2 rfl) ?_
          refine gf_RM_16 hx hb htb hown hK hP d_RM_div_49 ?_
          refine lv_iload_n hx hb d_RM_div_52 rfl (lv_at hl 4 rfl) ?_
          obtain ⟨b53, hF⟩ := ob_if hF
          refine rm_ald hx hb hK hP (k := 3) (by decide) (by decide) (ob_vi b53) d_RM_div_53 ?_
          refine lv_aload_n hx hb d_RM_div_54 rfl (lv_at hl 2 rfl) ?_
          refine gf_RM_16 hx hb htb hown hK hP d_RM_div_55 ?_
          refine lv_iload_n hx hb d_RM_div_58 rfl (lv_at hl 5 rfl) ?_
          obtain ⟨b59, hF⟩ := ob_if hF
          refine rm_ald hx hb hK hP (k := 3) (by decide) (by decide) (ob_vi b59) d_RM_div_59 ?_
          refine lv_imul hx hb d_RM_div_60 ?_
          refine lv_topi (fun x61 e61 => ?_)
          replace hF := (nm_eq e61.symm).symm.trans hF
          refine lv_istore (lv' := [(7, .int x61), (6, .int x46), (5, .int x38), (0, .ref (a 0)), (1, .int p0), (2, .int p1), (3, .int p2), (4, .int p3)]) hx hb d_RM_div_61 hl (by decide) rfl (fun ls hl => ?_)
          refine lv_iload hx hb d_RM_div_63 (lv_at hl 2 rfl) ?_
          refine ct_cut0 (fun  ls H locs => lv_has ls 8 [(0, .ref (a 0)), (1, .int p0)] ∧ RM_div_86 p0 st = some (r0, t0) ∧ va_P D vwCl (rm_g a ci st) H ∧ va_S (ct_F (rm_X a) s.heap.size) s.heap H locs) 86 [] ?_ ?_
          · intro ls H locs hq
            obtain ⟨hl, hF, hP, hS⟩ := hq
            unfold RM_div_86 at hF
            refine lv_aload_n hx hb d_RM_div_86 rfl (lv_at hl 0 rfl) ?_
            refine lv_iload_n hx hb d_RM_div_87 rfl (lv_at hl 1 rfl) ?_
            refine lv_iconst (v := 0) hx hb d_RM_div_88 (by decide) ?_
            refine lv_iconst (v := 0) hx hb d_RM_div_89 (by decide) ?_
            obtain ⟨r90, t90, e90, hF⟩ := ob_two hF
            refine ct_calli (va_runV (As := [.int p0, .int (0 : Int32), .int (0 : Int32)]) (rest := []) ⟨hx, hb, hml, hown, hts⟩ (c_RM_keep l (D := D) a ci hi st p0 (0 : Int32) (0 : Int32) _ _ e90 _) (kc_RM_59 hts ⟨by decide, by decide⟩) ⟨ct_blind, rm_rc hK hP, ct_ok hP hK hN⟩ rfl rfl hl.1 rfl (lv_room (Nat.le_of_ble_eq_true rfl)) d_RM_div_90 ⟨Nat.zero_le _, Nat.zero_le _⟩) hS (fun H locs hP hS => ?_)
            replace hF := Option.some.inj hF
            obtain ⟨rfl, rfl⟩ := Prod.mk.inj hF
            exact ct_iret hx hb hr hlk hP hS d_RM_div_93
          · intro kj86
            refine lv_if_eq hx hb d_RM_div_65 (tgt := 86) (by decide) (fun c65 => ?_) (fun c65 => ?_)
            · replace hF := (if_pos c65).symm.trans hF
              exact kj86 _ _ _ ⟨lv_sub hl [3, 4] rfl, hF, hP, hS⟩
            · replace hF := (if_neg c65).symm.trans hF
              refine lv_iload hx hb d_RM_div_68 (lv_at hl 1 rfl) ?_
              refine lv_if_eq hx hb d_RM_div_70 (tgt := 86) (by decide) (fun c70 => ?_) (fun c70 => ?_)
              · replace hF := (if_pos c70).symm.trans hF
                exact kj86 _ _ _ ⟨lv_sub hl [3, 4] rfl, hF, hP, hS⟩
              · replace hF := (if_neg c70).symm.trans hF
                refine lv_iload hx hb d_RM_div_73 (lv_at hl 2 rfl) ?_
                refine lv_iload hx hb d_RM_div_75 (lv_at hl 1 rfl) ?_
                refine ct_cut0 (fun  ls H locs => lv_has ls 8 [(7, .int x61), (6, .int x46), (5, .int x38), (0, .ref (a 0)), (1, .int p0), (2, .int p1), (3, .int p2), (4, .int p3)] ∧ RM_div_94 p0 p1 p2 p3 x38 x46 x61 st = some (r0, t0) ∧ va_P D vwCl (rm_g a ci st) H ∧ va_S (ct_F (rm_X a) s.heap.size) s.heap H locs) 94 [] ?_ ?_
                · intro ls H locs hq
                  obtain ⟨hl, hF, hP, hS⟩ := hq
                  unfold RM_div_94 at hF
                  refine lv_iload hx hb d_RM_div_94 (lv_at hl 2 rfl) ?_
                  refine lv_iconst (v := 1) hx hb d_RM_div_96 (by decide) ?_
                  refine ct_cut0 (fun  ls H locs => lv_has ls 8 [(7, .int x61), (0, .ref (a 0)), (1, .int p0)] ∧ RM_div_106 p0 x61 st = some (r0, t0) ∧ va_P D vwCl (rm_g a ci st) H ∧ va_S (ct_F (rm_X a) s.heap.size) s.heap H locs) 106 [] ?_ ?_
                  · intro ls H locs hq
                    obtain ⟨hl, hF, hP, hS⟩ := hq
                    unfold RM_div_106 at hF
                    refine lv_aload_n hx hb d_RM_div_106 rfl (lv_at hl 1 rfl) ?_
                    refine lv_iload_n hx hb d_RM_div_107 rfl (lv_at hl 2 rfl) ?_
                    refine lv_iconst (v := 1) hx hb d_RM_div_108 (by decide) ?_
                    refine lv_iload hx hb d_RM_div_109 (lv_at hl 0 rfl) ?_
                    obtain ⟨r111, t111, e111, hF⟩ := ob_two hF
                    refine ct_calli (va_runV (As := [.int p0, .int (1 : Int32), .int x61]) (rest := []) ⟨hx, hb, hml, hown, hts⟩ (c_RM_keep l (D := D) a ci hi st p0 (1 : Int32) x61 _ _ e111 _) (kc_RM_59 hts ⟨by decide, by decide⟩) ⟨ct_blind, rm_rc hK hP, ct_ok hP hK hN⟩ rfl rfl hl.1 rfl (lv_room (Nat.le_of_ble_eq_true rfl)) d_RM_div_111 ⟨Nat.zero_le _, Nat.zero_le _⟩) hS (fun H locs hP hS => ?_)
                    replace hF := Option.some.inj hF
                    obtain ⟨rfl, rfl⟩ := Prod.mk.inj hF
                    exact ct_iret hx hb hr hlk hP hS d_RM_div_114
                  · intro kj106
                    refine lv_icmp_eq hx hb d_RM_div_97 (tgt := 106) (by decide) (fun c97 => ?_) (fun c97 => ?_)
                    · replace hF := (if_pos c97).symm.trans hF
                      exact kj106 _ _ _ ⟨lv_sub hl [0, 3, 4] rfl, hF, hP, hS⟩
                    · replace hF := (if_neg c97).symm.trans hF
                      refine lv_iload hx hb d_RM_div_100 (lv_at hl 1 rfl) ?_
                      refine lv_iconst (v := 2) hx hb d_RM_div_102 (by decide) ?_
                      refine lv_icmp_ne hx hb d_RM_div_103 (tgt := 115) (by decide) (fun c103 => ?_) (fun c103 => ?_)
                      · replace hF := (if_neg c103).symm.trans hF
                        refine lv_iload hx hb d_RM_div_115 (lv_at hl 2 rfl) ?_
                        refine lv_iconst (v := 2) hx hb d_RM_div_117 (by decide) ?_
                        refine ct_cut0 (fun  ls H locs => lv_has ls 8 [(7, .int x61), (0, .ref (a 0)), (1, .int p0)] ∧ RM_div_127 p0 x61 st = some (r0, t0) ∧ va_P D vwCl (rm_g a ci st) H ∧ va_S (ct_F (rm_X a) s.heap.size) s.heap H locs) 127 [] ?_ ?_
                        · intro ls H locs hq
                          obtain ⟨hl, hF, hP, hS⟩ := hq
                          unfold RM_div_127 at hF
                          refine lv_aload_n hx hb d_RM_div_127 rfl (lv_at hl 1 rfl) ?_
                          refine lv_iload_n hx hb d_RM_div_128 rfl (lv_at hl 2 rfl) ?_
                          refine lv_iconst (v := 2) hx hb d_RM_div_129 (by decide) ?_
                          refine lv_iload hx hb d_RM_div_130 (lv_at hl 0 rfl) ?_
                          obtain ⟨r132, t132, e132, hF⟩ := ob_two hF
                          refine ct_calli (va_runV (As := [.int p0, .int (2 : Int32), .int x61]) (rest := []) ⟨hx, hb, hml, hown, hts⟩ (c_RM_keep l (D := D) a ci hi st p0 (2 : Int32) x61 _ _ e132 _) (kc_RM_59 hts ⟨by decide, by decide⟩) ⟨ct_blind, rm_rc hK hP, ct_ok hP hK hN⟩ rfl rfl hl.1 rfl (lv_room (Nat.le_of_ble_eq_true rfl)) d_RM_div_132 ⟨Nat.zero_le _, Nat.zero_le _⟩) hS (fun H locs hP hS => ?_)
                          replace hF := Option.some.inj hF
                          obtain ⟨rfl, rfl⟩ := Prod.mk.inj hF
                          exact ct_iret hx hb hr hlk hP hS d_RM_div_135
                        · intro kj127
                          refine lv_icmp_eq hx hb d_RM_div_118 (tgt := 127) (by decide) (fun c118 => ?_) (fun c118 => ?_)
                          · replace hF := (if_pos c118).symm.trans hF
                            exact kj127 _ _ _ ⟨lv_sub hl [0, 3, 4] rfl, hF, hP, hS⟩
                          · replace hF := (if_neg c118).symm.trans hF
                            refine lv_iload hx hb d_RM_div_121 (lv_at hl 1 rfl) ?_
                            refine lv_iconst (v := 1) hx hb d_RM_div_123 (by decide) ?_
                            refine lv_icmp_ne hx hb d_RM_div_124 (tgt := 136) (by decide) (fun c124 => ?_) (fun c124 => ?_)
                            · replace hF := (if_neg c124).symm.trans hF
                              refine lv_aload_n hx hb d_RM_div_136 rfl (lv_at hl 3 rfl) ?_
                              obtain ⟨t137, e137, hF⟩ := ob_one hF
                              refine ct_callv (va_runV (As := []) (rest := []) ⟨hx, hb, hml, hown, hts⟩ (c_RM_clear l (D := D) a ci hi st _ e137 _) (kc_RM_80 hts ⟨by decide, by decide⟩) ⟨ct_blind, rm_rc hK hP, ct_ok hP hK hN⟩ rfl rfl hl.1 rfl (lv_room (Nat.le_of_ble_eq_true rfl)) d_RM_div_137 ⟨Nat.zero_le _, Nat.zero_le _⟩) hS (fun H locs hP hS => ?_)
                              refine lv_aload_n hx hb d_RM_div_140 rfl (lv_at hl 3 rfl) ?_
                              refine lv_iload_n hx hb d_RM_div_141 rfl (lv_at hl 5 rfl) ?_
                              refine lv_iload_n hx hb d_RM_div_142 rfl (lv_at hl 6 rfl) ?_
                              obtain ⟨t143, e143, hF⟩ := ob_one hF
                              refine ct_callv (va_runV (As := [.int p1, .int p2]) (rest := []) ⟨hx, hb, hml, hown, hts⟩ (c_RM_divide l (D := D) a ci hi t137 p1 p2 _ e143 _) (kc_RM_127 hts ⟨by decide, by decide⟩) ⟨ct_blind, rm_rc hK hP, ct_ok hP hK hN⟩ rfl rfl hl.1 rfl (lv_room (Nat.le_of_ble_eq_true rfl)) d_RM_div_143 ⟨Nat.zero_le _, Nat.zero_le _⟩) hS (fun H locs hP hS => ?_)
                              refine lv_aload_n hx hb d_RM_div_146 rfl (lv_at hl 3 rfl) ?_
                              refine lv_iload_n hx hb d_RM_div_147 rfl (lv_at hl 4 rfl) ?_
                              refine lv_iload hx hb d_RM_div_148 (lv_at hl 0 rfl) ?_
                              refine lv_iload hx hb d_RM_div_150 (lv_at hl 7 rfl) ?_
                              obtain ⟨r152, t152, e152, hF⟩ := ob_two hF
                              refine ct_calli (va_runV (As := [.int p0, .int x61, .int p3]) (rest := []) ⟨hx, hb, hml, hown, hts⟩ (c_RM_round l (D := D) a ci hi t143 p0 x61 p3 _ _ e152 _) (kc_RM_83 hts ⟨by decide, by decide⟩) ⟨ct_blind, rm_rc hK hP, ct_ok hP hK hN⟩ rfl rfl hl.1 rfl (lv_room (Nat.le_of_ble_eq_true rfl)) d_RM_div_152 ⟨Nat.zero_le _, Nat.zero_le _⟩) hS (fun H locs hP hS => ?_)
                              replace hF := Option.some.inj hF
                              obtain ⟨rfl, rfl⟩ := Prod.mk.inj hF
                              exact ct_iret hx hb hr hlk hP hS d_RM_div_155
                            · replace hF := (if_pos c124).symm.trans hF
                              exact kj127 _ _ _ ⟨lv_sub hl [0, 3, 4] rfl, hF, hP, hS⟩
                      · replace hF := (if_pos c103).symm.trans hF
                        exact kj106 _ _ _ ⟨lv_sub hl [0, 3, 4] rfl, hF, hP, hS⟩
                · intro kj94
                  refine lv_icmp_ne hx hb d_RM_div_77 (tgt := 94) (by decide) (fun c77 => ?_) (fun c77 => ?_)
                  · replace hF := (if_neg c77).symm.trans hF
                    exact kj94 _ _ _ ⟨lv_sub hl [0, 1, 2, 3, 4, 5, 6, 7] rfl, hF, hP, hS⟩
                  · replace hF := (if_pos c77).symm.trans hF
                    refine lv_iload hx hb d_RM_div_80 (lv_at hl 2 rfl) ?_
                    refine lv_iconst (v := 3) hx hb d_RM_div_82 (by decide) ?_
                    refine lv_icmp_eq hx hb d_RM_div_83 (tgt := 94) (by decide) (fun c83 => ?_) (fun c83 => ?_)
                    · replace hF := (if_pos c83).symm.trans hF
                      exact kj94 _ _ _ ⟨lv_sub hl [0, 1, 2, 3, 4, 5, 6, 7] rfl, hF, hP, hS⟩
                    · replace hF := (if_neg c83).symm.trans hF
                      exact kj86 _ _ _ ⟨lv_sub hl [3, 4] rfl, hF, hP, hS⟩
        · replace hF := (if_pos c26).symm.trans hF
          refine lv_bipush (v := 9) hx hb d_RM_div_29 (by decide) ?_
          replace hF := Option.some.inj hF
          obtain ⟨rfl, rfl⟩ := Prod.mk.inj hF
          exact ct_iret hx hb hr hlk hP hS d_RM_div_31
theorem d_RM_tryRoot_0 : decode prog_6_method_37_code 0 = .ok (.iconst 0, 1) := by decide +kernel
theorem d_RM_tryRoot_1 : decode prog_6_method_37_code 1 = .ok (.istore_n 1, 1) := by decide +kernel
theorem d_RM_tryRoot_2 : decode prog_6_method_37_code 2 = .ok (.iload_n 1, 1) := by decide +kernel
theorem d_RM_tryRoot_3 : decode prog_6_method_37_code 3 = .ok (.bipush 104, 2) := by decide +kernel
theorem d_RM_tryRoot_5 : decode prog_6_method_37_code 5 = .ok (.if_icmp .ge 40, 3) := by decide +kernel
theorem d_RM_tryRoot_8 : decode prog_6_method_37_code 8 = .ok (.aload_n 0, 1) := by decide +kernel
theorem d_RM_tryRoot_9 : decode prog_6_method_37_code 9 = .ok (.getfield 34, 3) := by decide +kernel
theorem d_RM_tryRoot_12 : decode prog_6_method_37_code 12 = .ok (.iload_n 1, 1) := by decide +kernel
theorem d_RM_tryRoot_13 : decode prog_6_method_37_code 13 = .ok (.iload_n 1, 1) := by decide +kernel
theorem d_RM_tryRoot_14 : decode prog_6_method_37_code 14 = .ok (.iconst 1, 1) := by decide +kernel
theorem d_RM_tryRoot_15 : decode prog_6_method_37_code 15 = .ok (.if_icmp .le 14, 3) := by decide +kernel
theorem d_RM_tryRoot_18 : decode prog_6_method_37_code 18 = .ok (.aload_n 0, 1) := by decide +kernel
theorem d_RM_tryRoot_19 : decode prog_6_method_37_code 19 = .ok (.getfield 37, 3) := by decide +kernel
theorem d_RM_tryRoot_22 : decode prog_6_method_37_code 22 = .ok (.iload_n 1, 1) := by decide +kernel
theorem d_RM_tryRoot_23 : decode prog_6_method_37_code 23 = .ok (.iconst 2, 1) := by decide +kernel
theorem d_RM_tryRoot_24 : decode prog_6_method_37_code 24 = .ok (.isub, 1) := by decide +kernel
theorem d_RM_tryRoot_25 : decode prog_6_method_37_code 25 = .ok (.iaload, 1) := by decide +kernel
theorem d_RM_tryRoot_26 : decode prog_6_method_37_code 26 = .ok (.goto 12, 3) := by decide +kernel
theorem d_RM_tryRoot_29 : decode prog_6_method_37_code 29 = .ok (.iload_n 1, 1) := by decide +kernel
theorem d_RM_tryRoot_30 : decode prog_6_method_37_code 30 = .ok (.ifCond .ne 7, 3) := by decide +kernel
theorem d_RM_tryRoot_33 : decode prog_6_method_37_code 33 = .ok (.iconst 1, 1) := by decide +kernel
theorem d_RM_tryRoot_34 : decode prog_6_method_37_code 34 = .ok (.goto 4, 3) := by decide +kernel
theorem d_RM_tryRoot_37 : decode prog_6_method_37_code 37 = .ok (.iconst 0, 1) := by decide +kernel
theorem d_RM_tryRoot_38 : decode prog_6_method_37_code 38 = .ok (.iastore, 1) := by decide +kernel
theorem d_RM_tryRoot_39 : decode prog_6_method_37_code 39 = .ok (.iinc 1 1, 3) := by decide +kernel
theorem d_RM_tryRoot_42 : decode prog_6_method_37_code 42 = .ok (.goto (-40), 3) := by decide +kernel
theorem d_RM_tryRoot_45 : decode prog_6_method_37_code 45 = .ok (.return_, 1) := by decide +kernel
def RM_tryRoot_38 (k2 : Int32 → rm_S → Option (rm_S)) (L1 : Int32) (s0 : Int32) (s1 : Int32) (st : rm_S) : Option (rm_S) := (if ob_in s1 104 = true then nm (rm_up st 9 s1.toNatClampNeg s0) (fun t38 => nm (L1 + (1 : Int32)) (fun x39 => k2 x39 t38)) else none)
def RM_tryRoot_2 : Nat → Int32 → rm_S → Option (rm_S)
  | 0, _, _ => none
  | n + 1, L1, st => (if (104 : Int32) ≤ L1 then some st else (if L1 ≤ (1 : Int32) then (if L1 = 0 then RM_tryRoot_38 (RM_tryRoot_2 n) L1 (1 : Int32) L1 st else RM_tryRoot_38 (RM_tryRoot_2 n) L1 (0 : Int32) L1 st) else (if ob_in (L1 - (2 : Int32)) 104 = true then RM_tryRoot_38 (RM_tryRoot_2 n) L1 (st 10 (L1 - (2 : Int32)).toNatClampNeg) L1 st else none)))
def RM_tryRoot (st : rm_S) : Option (rm_S) := RM_tryRoot_2 (2000) (0 : Int32) st
set_option maxHeartbeats 4000000 in
set_option maxRecDepth 100000 in
theorem c_RM_tryRoot (l : Launch) {D : va_G} (a : Nat → Nat) (ci : ClassId) (hi : rm_inj a) (st : rm_S) (t0 : rm_S) (hF : RM_tryRoot st = some t0) : ct_v l ⟨"RoundedNumbersModel", "tryRoot", "()V"⟩ (.code ⟨"RoundedNumbersModel", "tryRoot", "()V"⟩ prog_6_method_37_code 2 none :: ct_T) { frames := 0, cells := 0, slots := 0, locals := 0 } D vwCl (rm_T ci) (rm_g a ci) (rm_X a) [.ref (a 0)] st t0 := by
  refine ct_v.mk (cc := prog_6_method_37_code) (maxL := 2) (by decide) rfl (Nat.le_of_ble_eq_true rfl) ?_
  intro p e s m below meth c hx hb hr hml hown hts hlk hK hN hP hS ls hl
  have hown : s.vm.findClass "RoundedNumbersModel" = some m.cls := hown
  have hl : lv_has ls 2 [(0, .ref (a 0))] := hl
  have htb := fun w h => hts w (List.mem_cons_of_mem _ h)
  unfold RM_tryRoot at hF
  refine lv_iconst (v := 0) hx hb d_RM_tryRoot_0 (by decide) ?_
  refine lv_istore_n (lv' := [(1, .int (0 : Int32)), (0, .ref (a 0))]) hx hb d_RM_tryRoot_1 rfl hl (by decide) rfl (fun ls hl => ?_)
  refine ct_loop2 (fun n (w2L1 : Int32) (w2t : rm_S) ls H locs => lv_has ls 2 [(1, .int w2L1), (0, .ref (a 0))] ∧ RM_tryRoot_2 n w2L1 w2t = some t0 ∧ va_P D vwCl (rm_g a ci w2t) H ∧ va_S (ct_F (rm_X a) s.heap.size) s.heap H locs) 2 ?_ ?_ (2000) (0 : Int32) st ⟨lv_sub hl [0, 1] rfl, hF, hP, hS⟩
  · intro w2L1 w2t ls H locs hq
    obtain ⟨hl, hF, hP, hS⟩ := hq
    rw [RM_tryRoot_2] at hF
    cases hF
  · intro n2 ih2 w2L1 w2t ls H locs hq
    obtain ⟨hl, hF, hP, hS⟩ := hq
    rw [RM_tryRoot_2] at hF
    refine lv_iload_n hx hb d_RM_tryRoot_2 rfl (lv_at hl 0 rfl) ?_
    refine lv_bipush (v := 104) hx hb d_RM_tryRoot_3 (by decide) ?_
    refine lv_icmp_ge hx hb d_RM_tryRoot_5 (tgt := 45) (by decide) (fun c5 => ?_) (fun c5 => ?_)
    · replace hF := (if_pos c5).symm.trans hF
      replace hF := Option.some.inj hF
      subst hF
      exact ct_vret hx hb hr hlk hP hS d_RM_tryRoot_45
    · replace hF := (if_neg c5).symm.trans hF
      refine lv_aload_n hx hb d_RM_tryRoot_8 rfl (lv_at hl 1 rfl) ?_
      refine gf_RM_34 hx hb htb hown hK hP d_RM_tryRoot_9 ?_
      refine lv_iload_n hx hb d_RM_tryRoot_12 rfl (lv_at hl 0 rfl) ?_
      refine lv_iload_n hx hb d_RM_tryRoot_13 rfl (lv_at hl 0 rfl) ?_
      refine lv_iconst (v := 1) hx hb d_RM_tryRoot_14 (by decide) ?_
      refine ct_cut1 (fun (j38s0 : Int32) ls H locs => lv_has ls 2 [(1, .int w2L1), (0, .ref (a 0))] ∧ RM_tryRoot_38 (RM_tryRoot_2 n2) w2L1 j38s0 w2L1 w2t = some t0 ∧ va_P D vwCl (rm_g a ci w2t) H ∧ va_S (ct_F (rm_X a) s.heap.size) s.heap H locs) 38 (fun j38s0 => [.int j38s0, .int w2L1, .ref (a 9)]) ?_ ?_
      · intro j38s0 ls H locs hq
        obtain ⟨hl, hF, hP, hS⟩ := hq
        unfold RM_tryRoot_38 at hF
        obtain ⟨b38, hF⟩ := ob_if hF
        refine rm_ast hx hb hK hP hS hi (k := 9) (by decide) (by decide) (ob_vi b38) d_RM_tryRoot_38 (fun H locs hP hS => ?_)
        obtain ⟨t38, e38, hP⟩ := nm_st hP
        replace hF := (nm_eq e38).symm.trans hF
        obtain ⟨x39, e39⟩ := nm_ex (w2L1 + (1 : Int32))
        replace hF := (nm_eq e39).symm.trans hF
        refine lv_iinc (v := x39) (lv' := [(1, .int x39), (0, .ref (a 0))]) hx hb d_RM_tryRoot_39 hl (k := 0) rfl e39 (by decide) rfl (fun ls hl => ?_)
        refine lv_goto hx hb d_RM_tryRoot_42 (tgt := 2) (by decide) ?_
        exact ih2 x39 t38 _ _ _ ⟨lv_sub hl [0, 1] rfl, hF, hP, hS⟩
      · intro kj38
        refine lv_icmp_le hx hb d_RM_tryRoot_15 (tgt := 29) (by decide) (fun c15 => ?_) (fun c15 => ?_)
        · replace hF := (if_pos c15).symm.trans hF
          refine lv_iload_n hx hb d_RM_tryRoot_29 rfl (lv_at hl 0 rfl) ?_
          refine lv_if_ne hx hb d_RM_tryRoot_30 (tgt := 37) (by decide) (fun c30 => ?_) (fun c30 => ?_)
          · replace hF := (if_neg c30).symm.trans hF
            refine lv_iconst (v := 0) hx hb d_RM_tryRoot_37 (by decide) ?_
            exact kj38 (0 : Int32) _ _ _ ⟨lv_sub hl [0, 1] rfl, hF, hP, hS⟩
          · replace hF := (if_pos c30).symm.trans hF
            refine lv_iconst (v := 1) hx hb d_RM_tryRoot_33 (by decide) ?_
            refine lv_goto hx hb d_RM_tryRoot_34 (tgt := 38) (by decide) ?_
            exact kj38 (1 : Int32) _ _ _ ⟨lv_sub hl [0, 1] rfl, hF, hP, hS⟩
        · replace hF := (if_neg c15).symm.trans hF
          refine lv_aload_n hx hb d_RM_tryRoot_18 rfl (lv_at hl 1 rfl) ?_
          refine gf_RM_37 hx hb htb hown hK hP d_RM_tryRoot_19 ?_
          refine lv_iload_n hx hb d_RM_tryRoot_22 rfl (lv_at hl 0 rfl) ?_
          refine lv_iconst (v := 2) hx hb d_RM_tryRoot_23 (by decide) ?_
          refine lv_isub hx hb d_RM_tryRoot_24 ?_
          obtain ⟨b25, hF⟩ := ob_if hF
          refine rm_ald hx hb hK hP (k := 10) (by decide) (by decide) (ob_vi b25) d_RM_tryRoot_25 ?_
          refine lv_goto hx hb d_RM_tryRoot_26 (tgt := 38) (by decide) ?_
          exact kj38 (w2t 10 (w2L1 - (2 : Int32)).toNatClampNeg) _ _ _ ⟨lv_sub hl [0, 1] rfl, hF, hP, hS⟩
theorem d_RM_growRoot_0 : decode prog_6_method_38_code 0 = .ok (.bipush 103, 2) := by decide +kernel
theorem d_RM_growRoot_2 : decode prog_6_method_38_code 2 = .ok (.istore_n 2, 1) := by decide +kernel
theorem d_RM_growRoot_3 : decode prog_6_method_38_code 3 = .ok (.iload_n 2, 1) := by decide +kernel
theorem d_RM_growRoot_4 : decode prog_6_method_38_code 4 = .ok (.ifCond .le 23, 3) := by decide +kernel
theorem d_RM_growRoot_7 : decode prog_6_method_38_code 7 = .ok (.aload_n 0, 1) := by decide +kernel
theorem d_RM_growRoot_8 : decode prog_6_method_38_code 8 = .ok (.getfield 37, 3) := by decide +kernel
theorem d_RM_growRoot_11 : decode prog_6_method_38_code 11 = .ok (.iload_n 2, 1) := by decide +kernel
theorem d_RM_growRoot_12 : decode prog_6_method_38_code 12 = .ok (.aload_n 0, 1) := by decide +kernel
theorem d_RM_growRoot_13 : decode prog_6_method_38_code 13 = .ok (.getfield 37, 3) := by decide +kernel
theorem d_RM_growRoot_16 : decode prog_6_method_38_code 16 = .ok (.iload_n 2, 1) := by decide +kernel
theorem d_RM_growRoot_17 : decode prog_6_method_38_code 17 = .ok (.iconst 1, 1) := by decide +kernel
theorem d_RM_growRoot_18 : decode prog_6_method_38_code 18 = .ok (.isub, 1) := by decide +kernel
theorem d_RM_growRoot_19 : decode prog_6_method_38_code 19 = .ok (.iaload, 1) := by decide +kernel
theorem d_RM_growRoot_20 : decode prog_6_method_38_code 20 = .ok (.iastore, 1) := by decide +kernel
theorem d_RM_growRoot_21 : decode prog_6_method_38_code 21 = .ok (.iinc 2 (-1), 3) := by decide +kernel
theorem d_RM_growRoot_24 : decode prog_6_method_38_code 24 = .ok (.goto (-21), 3) := by decide +kernel
theorem d_RM_growRoot_27 : decode prog_6_method_38_code 27 = .ok (.aload_n 0, 1) := by decide +kernel
theorem d_RM_growRoot_28 : decode prog_6_method_38_code 28 = .ok (.getfield 37, 3) := by decide +kernel
theorem d_RM_growRoot_31 : decode prog_6_method_38_code 31 = .ok (.iconst 0, 1) := by decide +kernel
theorem d_RM_growRoot_32 : decode prog_6_method_38_code 32 = .ok (.iload_n 1, 1) := by decide +kernel
theorem d_RM_growRoot_33 : decode prog_6_method_38_code 33 = .ok (.iastore, 1) := by decide +kernel
theorem d_RM_growRoot_34 : decode prog_6_method_38_code 34 = .ok (.return_, 1) := by decide +kernel
def RM_growRoot_3 : Nat → Int32 → Int32 → rm_S → Option (rm_S)
  | 0, _, _, _ => none
  | n + 1, L1, L2, st => (if L2 ≤ 0 then (if ob_in (0 : Int32) 104 = true then nm (rm_up st 10 (0 : Int32).toNatClampNeg L1) (fun t33 => some t33) else none) else (if ob_in (L2 - (1 : Int32)) 104 = true then (if ob_in L2 104 = true then nm (rm_up st 10 L2.toNatClampNeg (st 10 (L2 - (1 : Int32)).toNatClampNeg)) (fun t20 => nm (L2 + (-1 : Int32)) (fun x21 => (RM_growRoot_3 n) L1 x21 t20)) else none) else none))
def RM_growRoot (st : rm_S) (p0 : Int32) : Option (rm_S) := RM_growRoot_3 (2000) p0 (103 : Int32) st
set_option maxHeartbeats 4000000 in
set_option maxRecDepth 100000 in
theorem c_RM_growRoot (l : Launch) {D : va_G} (a : Nat → Nat) (ci : ClassId) (hi : rm_inj a) (st : rm_S) (p0 : Int32) (t0 : rm_S) (hF : RM_growRoot st p0 = some t0) : ct_v l ⟨"RoundedNumbersModel", "growRoot", "(I)V"⟩ (.code ⟨"RoundedNumbersModel", "growRoot", "(I)V"⟩ prog_6_method_38_code 3 none :: ct_T) { frames := 0, cells := 0, slots := 0, locals := 0 } D vwCl (rm_T ci) (rm_g a ci) (rm_X a) [.ref (a 0), .int p0] st t0 := by
  refine ct_v.mk (cc := prog_6_method_38_code) (maxL := 3) (by decide) rfl (Nat.le_of_ble_eq_true rfl) ?_
  intro p e s m below meth c hx hb hr hml hown hts hlk hK hN hP hS ls hl
  have hown : s.vm.findClass "RoundedNumbersModel" = some m.cls := hown
  have hl : lv_has ls 3 [(0, .ref (a 0)), (1, .int p0)] := hl
  have htb := fun w h => hts w (List.mem_cons_of_mem _ h)
  unfold RM_growRoot at hF
  refine lv_bipush (v := 103) hx hb d_RM_growRoot_0 (by decide) ?_
  refine lv_istore_n (lv' := [(2, .int (103 : Int32)), (0, .ref (a 0)), (1, .int p0)]) hx hb d_RM_growRoot_2 rfl hl (by decide) rfl (fun ls hl => ?_)
  refine ct_loop2 (fun n (w3L2 : Int32) (w3t : rm_S) ls H locs => lv_has ls 3 [(2, .int w3L2), (0, .ref (a 0)), (1, .int p0)] ∧ RM_growRoot_3 n p0 w3L2 w3t = some t0 ∧ va_P D vwCl (rm_g a ci w3t) H ∧ va_S (ct_F (rm_X a) s.heap.size) s.heap H locs) 3 ?_ ?_ (2000) (103 : Int32) st ⟨lv_sub hl [0, 1, 2] rfl, hF, hP, hS⟩
  · intro w3L2 w3t ls H locs hq
    obtain ⟨hl, hF, hP, hS⟩ := hq
    rw [RM_growRoot_3] at hF
    cases hF
  · intro n3 ih3 w3L2 w3t ls H locs hq
    obtain ⟨hl, hF, hP, hS⟩ := hq
    rw [RM_growRoot_3] at hF
    refine lv_iload_n hx hb d_RM_growRoot_3 rfl (lv_at hl 0 rfl) ?_
    refine lv_if_le hx hb d_RM_growRoot_4 (tgt := 27) (by decide) (fun c4 => ?_) (fun c4 => ?_)
    · replace hF := (if_pos c4).symm.trans hF
      refine lv_aload_n hx hb d_RM_growRoot_27 rfl (lv_at hl 1 rfl) ?_
      refine gf_RM_37 hx hb htb hown hK hP d_RM_growRoot_28 ?_
      refine lv_iconst (v := 0) hx hb d_RM_growRoot_31 (by decide) ?_
      refine lv_iload_n hx hb d_RM_growRoot_32 rfl (lv_at hl 2 rfl) ?_
      obtain ⟨b33, hF⟩ := ob_if hF
      refine rm_ast hx hb hK hP hS hi (k := 10) (by decide) (by decide) (ob_vi b33) d_RM_growRoot_33 (fun H locs hP hS => ?_)
      obtain ⟨t33, e33, hP⟩ := nm_st hP
      replace hF := (nm_eq e33).symm.trans hF
      replace hF := Option.some.inj hF
      subst hF
      exact ct_vret hx hb hr hlk hP hS d_RM_growRoot_34
    · replace hF := (if_neg c4).symm.trans hF
      refine lv_aload_n hx hb d_RM_growRoot_7 rfl (lv_at hl 1 rfl) ?_
      refine gf_RM_37 hx hb htb hown hK hP d_RM_growRoot_8 ?_
      refine lv_iload_n hx hb d_RM_growRoot_11 rfl (lv_at hl 0 rfl) ?_
      refine lv_aload_n hx hb d_RM_growRoot_12 rfl (lv_at hl 1 rfl) ?_
      refine gf_RM_37 hx hb htb hown hK hP d_RM_growRoot_13 ?_
      refine lv_iload_n hx hb d_RM_growRoot_16 rfl (lv_at hl 0 rfl) ?_
      refine lv_iconst (v := 1) hx hb d_RM_growRoot_17 (by decide) ?_
      refine lv_isub hx hb d_RM_growRoot_18 ?_
      obtain ⟨b19, hF⟩ := ob_if hF
      refine rm_ald hx hb hK hP (k := 10) (by decide) (by decide) (ob_vi b19) d_RM_growRoot_19 ?_
      obtain ⟨b20, hF⟩ := ob_if hF
      refine rm_ast hx hb hK hP hS hi (k := 10) (by decide) (by decide) (ob_vi b20) d_RM_growRoot_20 (fun H locs hP hS => ?_)
      obtain ⟨t20, e20, hP⟩ := nm_st hP
      replace hF := (nm_eq e20).symm.trans hF
      obtain ⟨x21, e21⟩ := nm_ex (w3L2 + (-1 : Int32))
      replace hF := (nm_eq e21).symm.trans hF
      refine lv_iinc (v := x21) (lv' := [(2, .int x21), (0, .ref (a 0)), (1, .int p0)]) hx hb d_RM_growRoot_21 hl (k := 0) rfl e21 (by decide) rfl (fun ls hl => ?_)
      refine lv_goto hx hb d_RM_growRoot_24 (tgt := 3) (by decide) ?_
      exact ih3 x21 t20 _ _ _ ⟨lv_sub hl [0, 1, 2] rfl, hF, hP, hS⟩
theorem d_RM_takeRoot_0 : decode prog_6_method_39_code 0 = .ok (.aload_n 0, 1) := by decide +kernel
theorem d_RM_takeRoot_1 : decode prog_6_method_39_code 1 = .ok (.getfield 19, 3) := by decide +kernel
theorem d_RM_takeRoot_4 : decode prog_6_method_39_code 4 = .ok (.iload_n 1, 1) := by decide +kernel
theorem d_RM_takeRoot_5 : decode prog_6_method_39_code 5 = .ok (.iaload, 1) := by decide +kernel
theorem d_RM_takeRoot_6 : decode prog_6_method_39_code 6 = .ok (.bipush 93, 2) := by decide +kernel
theorem d_RM_takeRoot_8 : decode prog_6_method_39_code 8 = .ok (.isub, 1) := by decide +kernel
theorem d_RM_takeRoot_9 : decode prog_6_method_39_code 9 = .ok (.iconst 2, 1) := by decide +kernel
theorem d_RM_takeRoot_10 : decode prog_6_method_39_code 10 = .ok (.irem, 1) := by decide +kernel
theorem d_RM_takeRoot_11 : decode prog_6_method_39_code 11 = .ok (.ifCond .ne 7, 3) := by decide +kernel
theorem d_RM_takeRoot_14 : decode prog_6_method_39_code 14 = .ok (.iconst 1, 1) := by decide +kernel
theorem d_RM_takeRoot_15 : decode prog_6_method_39_code 15 = .ok (.goto 4, 3) := by decide +kernel
theorem d_RM_takeRoot_18 : decode prog_6_method_39_code 18 = .ok (.iconst 0, 1) := by decide +kernel
theorem d_RM_takeRoot_19 : decode prog_6_method_39_code 19 = .ok (.istore_n 2, 1) := by decide +kernel
theorem d_RM_takeRoot_20 : decode prog_6_method_39_code 20 = .ok (.aload_n 0, 1) := by decide +kernel
theorem d_RM_takeRoot_21 : decode prog_6_method_39_code 21 = .ok (.getfield 19, 3) := by decide +kernel
theorem d_RM_takeRoot_24 : decode prog_6_method_39_code 24 = .ok (.iload_n 1, 1) := by decide +kernel
theorem d_RM_takeRoot_25 : decode prog_6_method_39_code 25 = .ok (.iaload, 1) := by decide +kernel
theorem d_RM_takeRoot_26 : decode prog_6_method_39_code 26 = .ok (.bipush 94, 2) := by decide +kernel
theorem d_RM_takeRoot_28 : decode prog_6_method_39_code 28 = .ok (.isub, 1) := by decide +kernel
theorem d_RM_takeRoot_29 : decode prog_6_method_39_code 29 = .ok (.iload_n 2, 1) := by decide +kernel
theorem d_RM_takeRoot_30 : decode prog_6_method_39_code 30 = .ok (.iadd, 1) := by decide +kernel
theorem d_RM_takeRoot_31 : decode prog_6_method_39_code 31 = .ok (.iconst 2, 1) := by decide +kernel
theorem d_RM_takeRoot_32 : decode prog_6_method_39_code 32 = .ok (.idiv, 1) := by decide +kernel
theorem d_RM_takeRoot_33 : decode prog_6_method_39_code 33 = .ok (.istore_n 3, 1) := by decide +kernel
theorem d_RM_takeRoot_34 : decode prog_6_method_39_code 34 = .ok (.iconst 0, 1) := by decide +kernel
theorem d_RM_takeRoot_35 : decode prog_6_method_39_code 35 = .ok (.istore 4, 2) := by decide +kernel
theorem d_RM_takeRoot_37 : decode prog_6_method_39_code 37 = .ok (.iload 4, 2) := by decide +kernel
theorem d_RM_takeRoot_39 : decode prog_6_method_39_code 39 = .ok (.bipush 104, 2) := by decide +kernel
theorem d_RM_takeRoot_41 : decode prog_6_method_39_code 41 = .ok (.if_icmp .ge 25, 3) := by decide +kernel
theorem d_RM_takeRoot_44 : decode prog_6_method_39_code 44 = .ok (.aload_n 0, 1) := by decide +kernel
theorem d_RM_takeRoot_45 : decode prog_6_method_39_code 45 = .ok (.getfield 31, 3) := by decide +kernel
theorem d_RM_takeRoot_48 : decode prog_6_method_39_code 48 = .ok (.iload 4, 2) := by decide +kernel
theorem d_RM_takeRoot_50 : decode prog_6_method_39_code 50 = .ok (.iconst 0, 1) := by decide +kernel
theorem d_RM_takeRoot_51 : decode prog_6_method_39_code 51 = .ok (.iastore, 1) := by decide +kernel
theorem d_RM_takeRoot_52 : decode prog_6_method_39_code 52 = .ok (.aload_n 0, 1) := by decide +kernel
theorem d_RM_takeRoot_53 : decode prog_6_method_39_code 53 = .ok (.getfield 37, 3) := by decide +kernel
theorem d_RM_takeRoot_56 : decode prog_6_method_39_code 56 = .ok (.iload 4, 2) := by decide +kernel
theorem d_RM_takeRoot_58 : decode prog_6_method_39_code 58 = .ok (.iconst 0, 1) := by decide +kernel
theorem d_RM_takeRoot_59 : decode prog_6_method_39_code 59 = .ok (.iastore, 1) := by decide +kernel
theorem d_RM_takeRoot_60 : decode prog_6_method_39_code 60 = .ok (.iinc 4 1, 3) := by decide +kernel
theorem d_RM_takeRoot_63 : decode prog_6_method_39_code 63 = .ok (.goto (-26), 3) := by decide +kernel
theorem d_RM_takeRoot_66 : decode prog_6_method_39_code 66 = .ok (.iconst 0, 1) := by decide +kernel
theorem d_RM_takeRoot_67 : decode prog_6_method_39_code 67 = .ok (.istore 4, 2) := by decide +kernel
theorem d_RM_takeRoot_69 : decode prog_6_method_39_code 69 = .ok (.iload 4, 2) := by decide +kernel
theorem d_RM_takeRoot_71 : decode prog_6_method_39_code 71 = .ok (.bipush 98, 2) := by decide +kernel
theorem d_RM_takeRoot_73 : decode prog_6_method_39_code 73 = .ok (.if_icmp .ge 96, 3) := by decide +kernel
theorem d_RM_takeRoot_76 : decode prog_6_method_39_code 76 = .ok (.aload_n 0, 1) := by decide +kernel
theorem d_RM_takeRoot_77 : decode prog_6_method_39_code 77 = .ok (.iload_n 1, 1) := by decide +kernel
theorem d_RM_takeRoot_78 : decode prog_6_method_39_code 78 = .ok (.iconst 2, 1) := by decide +kernel
theorem d_RM_takeRoot_79 : decode prog_6_method_39_code 79 = .ok (.iload 4, 2) := by decide +kernel
theorem d_RM_takeRoot_81 : decode prog_6_method_39_code 81 = .ok (.imul, 1) := by decide +kernel
theorem d_RM_takeRoot_82 : decode prog_6_method_39_code 82 = .ok (.iload_n 2, 1) := by decide +kernel
theorem d_RM_takeRoot_83 : decode prog_6_method_39_code 83 = .ok (.isub, 1) := by decide +kernel
theorem d_RM_takeRoot_84 : decode prog_6_method_39_code 84 = .ok (.invokevirtual 111, 3) := by decide +kernel
theorem d_RM_takeRoot_87 : decode prog_6_method_39_code 87 = .ok (.istore 5, 2) := by decide +kernel
theorem d_RM_takeRoot_89 : decode prog_6_method_39_code 89 = .ok (.aload_n 0, 1) := by decide +kernel
theorem d_RM_takeRoot_90 : decode prog_6_method_39_code 90 = .ok (.iload_n 1, 1) := by decide +kernel
theorem d_RM_takeRoot_91 : decode prog_6_method_39_code 91 = .ok (.iconst 2, 1) := by decide +kernel
theorem d_RM_takeRoot_92 : decode prog_6_method_39_code 92 = .ok (.iload 4, 2) := by decide +kernel
theorem d_RM_takeRoot_94 : decode prog_6_method_39_code 94 = .ok (.imul, 1) := by decide +kernel
theorem d_RM_takeRoot_95 : decode prog_6_method_39_code 95 = .ok (.iconst 1, 1) := by decide +kernel
theorem d_RM_takeRoot_96 : decode prog_6_method_39_code 96 = .ok (.iadd, 1) := by decide +kernel
theorem d_RM_takeRoot_97 : decode prog_6_method_39_code 97 = .ok (.iload_n 2, 1) := by decide +kernel
theorem d_RM_takeRoot_98 : decode prog_6_method_39_code 98 = .ok (.isub, 1) := by decide +kernel
theorem d_RM_takeRoot_99 : decode prog_6_method_39_code 99 = .ok (.invokevirtual 111, 3) := by decide +kernel
theorem d_RM_takeRoot_102 : decode prog_6_method_39_code 102 = .ok (.istore 6, 2) := by decide +kernel
theorem d_RM_takeRoot_104 : decode prog_6_method_39_code 104 = .ok (.aload_n 0, 1) := by decide +kernel
theorem d_RM_takeRoot_105 : decode prog_6_method_39_code 105 = .ok (.iload 5, 2) := by decide +kernel
theorem d_RM_takeRoot_107 : decode prog_6_method_39_code 107 = .ok (.invokevirtual 121, 3) := by decide +kernel
theorem d_RM_takeRoot_110 : decode prog_6_method_39_code 110 = .ok (.aload_n 0, 1) := by decide +kernel
theorem d_RM_takeRoot_111 : decode prog_6_method_39_code 111 = .ok (.iload 6, 2) := by decide +kernel
theorem d_RM_takeRoot_113 : decode prog_6_method_39_code 113 = .ok (.invokevirtual 121, 3) := by decide +kernel
theorem d_RM_takeRoot_116 : decode prog_6_method_39_code 116 = .ok (.aload_n 0, 1) := by decide +kernel
theorem d_RM_takeRoot_117 : decode prog_6_method_39_code 117 = .ok (.invokevirtual 130, 3) := by decide +kernel
theorem d_RM_takeRoot_120 : decode prog_6_method_39_code 120 = .ok (.aload_n 0, 1) := by decide +kernel
theorem d_RM_takeRoot_121 : decode prog_6_method_39_code 121 = .ok (.invokevirtual 114, 3) := by decide +kernel
theorem d_RM_takeRoot_124 : decode prog_6_method_39_code 124 = .ok (.istore 7, 2) := by decide +kernel
theorem d_RM_takeRoot_126 : decode prog_6_method_39_code 126 = .ok (.iload 7, 2) := by decide +kernel
theorem d_RM_takeRoot_128 : decode prog_6_method_39_code 128 = .ok (.ifCond .eq 21, 3) := by decide +kernel
theorem d_RM_takeRoot_131 : decode prog_6_method_39_code 131 = .ok (.aload_n 0, 1) := by decide +kernel
theorem d_RM_takeRoot_132 : decode prog_6_method_39_code 132 = .ok (.invokevirtual 118, 3) := by decide +kernel
theorem d_RM_takeRoot_135 : decode prog_6_method_39_code 135 = .ok (.aload_n 0, 1) := by decide +kernel
theorem d_RM_takeRoot_136 : decode prog_6_method_39_code 136 = .ok (.getfield 25, 3) := by decide +kernel
theorem d_RM_takeRoot_139 : decode prog_6_method_39_code 139 = .ok (.sipush 646, 3) := by decide +kernel
theorem d_RM_takeRoot_142 : decode prog_6_method_39_code 142 = .ok (.iload 4, 2) := by decide +kernel
theorem d_RM_takeRoot_144 : decode prog_6_method_39_code 144 = .ok (.isub, 1) := by decide +kernel
theorem d_RM_takeRoot_145 : decode prog_6_method_39_code 145 = .ok (.iload_n 3, 1) := by decide +kernel
theorem d_RM_takeRoot_146 : decode prog_6_method_39_code 146 = .ok (.iadd, 1) := by decide +kernel
theorem d_RM_takeRoot_147 : decode prog_6_method_39_code 147 = .ok (.iconst 1, 1) := by decide +kernel
theorem d_RM_takeRoot_148 : decode prog_6_method_39_code 148 = .ok (.iastore, 1) := by decide +kernel
theorem d_RM_takeRoot_149 : decode prog_6_method_39_code 149 = .ok (.aload_n 0, 1) := by decide +kernel
theorem d_RM_takeRoot_150 : decode prog_6_method_39_code 150 = .ok (.iload 7, 2) := by decide +kernel
theorem d_RM_takeRoot_152 : decode prog_6_method_39_code 152 = .ok (.ifCond .eq 7, 3) := by decide +kernel
theorem d_RM_takeRoot_155 : decode prog_6_method_39_code 155 = .ok (.iconst 1, 1) := by decide +kernel
theorem d_RM_takeRoot_156 : decode prog_6_method_39_code 156 = .ok (.goto 4, 3) := by decide +kernel
theorem d_RM_takeRoot_159 : decode prog_6_method_39_code 159 = .ok (.iconst 0, 1) := by decide +kernel
theorem d_RM_takeRoot_160 : decode prog_6_method_39_code 160 = .ok (.invokevirtual 133, 3) := by decide +kernel
theorem d_RM_takeRoot_163 : decode prog_6_method_39_code 163 = .ok (.iinc 4 1, 3) := by decide +kernel
theorem d_RM_takeRoot_166 : decode prog_6_method_39_code 166 = .ok (.goto (-97), 3) := by decide +kernel
theorem d_RM_takeRoot_169 : decode prog_6_method_39_code 169 = .ok (.aload_n 0, 1) := by decide +kernel
theorem d_RM_takeRoot_170 : decode prog_6_method_39_code 170 = .ok (.getfield 25, 3) := by decide +kernel
theorem d_RM_takeRoot_173 : decode prog_6_method_39_code 173 = .ok (.sipush 548, 3) := by decide +kernel
theorem d_RM_takeRoot_176 : decode prog_6_method_39_code 176 = .ok (.iload_n 3, 1) := by decide +kernel
theorem d_RM_takeRoot_177 : decode prog_6_method_39_code 177 = .ok (.iadd, 1) := by decide +kernel
theorem d_RM_takeRoot_178 : decode prog_6_method_39_code 178 = .ok (.aload_n 0, 1) := by decide +kernel
theorem d_RM_takeRoot_179 : decode prog_6_method_39_code 179 = .ok (.invokevirtual 124, 3) := by decide +kernel
theorem d_RM_takeRoot_182 : decode prog_6_method_39_code 182 = .ok (.ifCond .eq 7, 3) := by decide +kernel
theorem d_RM_takeRoot_185 : decode prog_6_method_39_code 185 = .ok (.iconst 1, 1) := by decide +kernel
theorem d_RM_takeRoot_186 : decode prog_6_method_39_code 186 = .ok (.goto 4, 3) := by decide +kernel
theorem d_RM_takeRoot_189 : decode prog_6_method_39_code 189 = .ok (.iconst 0, 1) := by decide +kernel
theorem d_RM_takeRoot_190 : decode prog_6_method_39_code 190 = .ok (.iastore, 1) := by decide +kernel
theorem d_RM_takeRoot_191 : decode prog_6_method_39_code 191 = .ok (.return_, 1) := by decide +kernel
def RM_takeRoot_190 (s0 : Int32) (s1 : Int32) (st : rm_S) : Option (rm_S) := (if ob_in s1 1024 = true then nm (rm_up st 6 s1.toNatClampNeg s0) (fun t190 => some t190) else none)
def RM_takeRoot_160 (k69 : Int32 → Int32 → Int32 → Int32 → rm_S → Option (rm_S)) (L1 : Int32) (L2 : Int32) (L3 : Int32) (L4 : Int32) (s0 : Int32) (st : rm_S) : Option (rm_S) := ob1 (RM_growRoot st s0) (fun t160 => nm (L4 + (1 : Int32)) (fun x163 => k69 L1 L2 L3 x163 t160))
def RM_takeRoot_149 (k69 : Int32 → Int32 → Int32 → Int32 → rm_S → Option (rm_S)) (L1 : Int32) (L2 : Int32) (L3 : Int32) (L4 : Int32) (L7 : Int32) (st : rm_S) : Option (rm_S) := (if L7 = 0 then RM_takeRoot_160 k69 L1 L2 L3 L4 (0 : Int32) st else RM_takeRoot_160 k69 L1 L2 L3 L4 (1 : Int32) st)
def RM_takeRoot_69 : Nat → Int32 → Int32 → Int32 → Int32 → rm_S → Option (rm_S)
  | 0, _, _, _, _, _ => none
  | n + 1, L1, L2, L3, L4, st => (if (98 : Int32) ≤ L4 then ob1 (RM_isLeft st) (fun r179 => (if r179 = 0 then RM_takeRoot_190 (0 : Int32) ((548 : Int32) + L3) st else RM_takeRoot_190 (1 : Int32) ((548 : Int32) + L3) st)) else ob1 (RM_bitOf st L1 (((2 : Int32) * L4) - L2)) (fun r84 => ob1 (RM_bitOf st L1 ((((2 : Int32) * L4) + (1 : Int32)) - L2)) (fun r99 => ob1 (RM_doubleRest st r84) (fun t107 => ob1 (RM_doubleRest t107 r99) (fun t113 => ob1 (RM_tryRoot t113) (fun t117 => ob1 (RM_reaches t117) (fun r121 => (if r121 = 0 then RM_takeRoot_149 (RM_takeRoot_69 n) L1 L2 L3 L4 r121 t117 else ob1 (RM_takePart t117) (fun t132 => (if ob_in (((646 : Int32) - L4) + L3) 1024 = true then nm (rm_up t132 6 (((646 : Int32) - L4) + L3).toNatClampNeg (1 : Int32)) (fun t148 => RM_takeRoot_149 (RM_takeRoot_69 n) L1 L2 L3 L4 r121 t148) else none))))))))))
def RM_takeRoot_37 : Nat → Int32 → Int32 → Int32 → Int32 → rm_S → Option (rm_S)
  | 0, _, _, _, _, _ => none
  | n + 1, L1, L2, L3, L4, st => (if (104 : Int32) ≤ L4 then RM_takeRoot_69 (2000) L1 L2 L3 (0 : Int32) st else (if ob_in L4 104 = true then nm (rm_up st 8 L4.toNatClampNeg (0 : Int32)) (fun t51 => (if ob_in L4 104 = true then nm (rm_up t51 10 L4.toNatClampNeg (0 : Int32)) (fun t59 => nm (L4 + (1 : Int32)) (fun x60 => (RM_takeRoot_37 n) L1 L2 L3 x60 t59)) else none)) else none))
def RM_takeRoot_19 (L1 : Int32) (s0 : Int32) (st : rm_S) : Option (rm_S) := (if ob_in L1 8 = true then nm ((((st 4 L1.toNatClampNeg) - (94 : Int32)) + s0) / (2 : Int32)) (fun x33 => RM_takeRoot_37 (2000) L1 s0 x33 (0 : Int32) st) else none)
def RM_takeRoot (st : rm_S) (p0 : Int32) : Option (rm_S) := (if ob_in p0 8 = true then (if (((st 4 p0.toNatClampNeg) - (93 : Int32)) - ((st 4 p0.toNatClampNeg) - (93 : Int32)) / (2 : Int32) * (2 : Int32)) = 0 then RM_takeRoot_19 p0 (1 : Int32) st else RM_takeRoot_19 p0 (0 : Int32) st) else none)
set_option maxHeartbeats 4000000 in
set_option maxRecDepth 100000 in
theorem c_RM_takeRoot (l : Launch) {D : va_G} (a : Nat → Nat) (ci : ClassId) (hi : rm_inj a) (st : rm_S) (p0 : Int32) (t0 : rm_S) (hF : RM_takeRoot st p0 = some t0) : ct_v l ⟨"RoundedNumbersModel", "takeRoot", "(I)V"⟩ (.code ⟨"RoundedNumbersModel", "takeRoot", "(I)V"⟩ prog_6_method_39_code 8 none :: ct_T) { frames := 1, cells := 0, slots := 0, locals := 23 } D vwCl (rm_T ci) (rm_g a ci) (rm_X a) [.ref (a 0), .int p0] st t0 := by
  refine ct_v.mk (cc := prog_6_method_39_code) (maxL := 8) (by decide) rfl (Nat.le_of_ble_eq_true rfl) ?_
  intro p e s m below meth c hx hb hr hml hown hts hlk hK hN hP hS ls hl
  have hown : s.vm.findClass "RoundedNumbersModel" = some m.cls := hown
  have hl : lv_has ls 8 [(0, .ref (a 0)), (1, .int p0)] := hl
  have htb := fun w h => hts w (List.mem_cons_of_mem _ h)
  unfold RM_takeRoot at hF
  refine lv_aload_n hx hb d_RM_takeRoot_0 rfl (lv_at hl 0 rfl) ?_
  refine gf_RM_19 hx hb htb hown hK hP d_RM_takeRoot_1 ?_
  refine lv_iload_n hx hb d_RM_takeRoot_4 rfl (lv_at hl 1 rfl) ?_
  obtain ⟨b5, hF⟩ := ob_if hF
  refine rm_ald hx hb hK hP (k := 4) (by decide) (by decide) (ob_vi b5) d_RM_takeRoot_5 ?_
  refine lv_bipush (v := 93) hx hb d_RM_takeRoot_6 (by decide) ?_
  refine lv_isub hx hb d_RM_takeRoot_8 ?_
  refine lv_iconst (v := 2) hx hb d_RM_takeRoot_9 (by decide) ?_
  refine lv_irem hx hb d_RM_takeRoot_10 (by decide) ?_
  refine ct_cut1 (fun (j19s0 : Int32) ls H locs => lv_has ls 8 [(0, .ref (a 0)), (1, .int p0)] ∧ RM_takeRoot_19 p0 j19s0 st = some t0 ∧ va_P D vwCl (rm_g a ci st) H ∧ va_S (ct_F (rm_X a) s.heap.size) s.heap H locs) 19 (fun j19s0 => [.int j19s0]) ?_ ?_
  · intro j19s0 ls H locs hq
    obtain ⟨hl, hF, hP, hS⟩ := hq
    unfold RM_takeRoot_19 at hF
    refine lv_istore_n (lv' := [(2, .int j19s0), (0, .ref (a 0)), (1, .int p0)]) hx hb d_RM_takeRoot_19 rfl hl (by decide) rfl (fun ls hl => ?_)
    refine lv_aload_n hx hb d_RM_takeRoot_20 rfl (lv_at hl 1 rfl) ?_
    refine gf_RM_19 hx hb htb hown hK hP d_RM_takeRoot_21 ?_
    refine lv_iload_n hx hb d_RM_takeRoot_24 rfl (lv_at hl 2 rfl) ?_
    obtain ⟨b25, hF⟩ := ob_if hF
    refine rm_ald hx hb hK hP (k := 4) (by decide) (by decide) (ob_vi b25) d_RM_takeRoot_25 ?_
    refine lv_bipush (v := 94) hx hb d_RM_takeRoot_26 (by decide) ?_
    refine lv_isub hx hb d_RM_takeRoot_28 ?_
    refine lv_iload_n hx hb d_RM_takeRoot_29 rfl (lv_at hl 0 rfl) ?_
    refine lv_iadd hx hb d_RM_takeRoot_30 ?_
    refine lv_iconst (v := 2) hx hb d_RM_takeRoot_31 (by decide) ?_
    refine lv_idiv hx hb d_RM_takeRoot_32 (by decide) ?_
    refine lv_topi (fun x33 e33 => ?_)
    replace hF := (nm_eq e33.symm).symm.trans hF
    refine lv_istore_n (lv' := [(3, .int x33), (2, .int j19s0), (0, .ref (a 0)), (1, .int p0)]) hx hb d_RM_takeRoot_33 rfl hl (by decide) rfl (fun ls hl => ?_)
    refine lv_iconst (v := 0) hx hb d_RM_takeRoot_34 (by decide) ?_
    refine lv_istore (lv' := [(4, .int (0 : Int32)), (3, .int x33), (2, .int j19s0), (0, .ref (a 0)), (1, .int p0)]) hx hb d_RM_takeRoot_35 hl (by decide) rfl (fun ls hl => ?_)
    refine ct_loop2 (fun n (w37L4 : Int32) (w37t : rm_S) ls H locs => lv_has ls 8 [(4, .int w37L4), (3, .int x33), (2, .int j19s0), (0, .ref (a 0)), (1, .int p0)] ∧ RM_takeRoot_37 n p0 j19s0 x33 w37L4 w37t = some t0 ∧ va_P D vwCl (rm_g a ci w37t) H ∧ va_S (ct_F (rm_X a) s.heap.size) s.heap H locs) 37 ?_ ?_ (2000) (0 : Int32) st ⟨lv_sub hl [0, 1, 2, 3, 4] rfl, hF, hP, hS⟩
    · intro w37L4 w37t ls H locs hq
      obtain ⟨hl, hF, hP, hS⟩ := hq
      rw [RM_takeRoot_37] at hF
      cases hF
    · intro n37 ih37 w37L4 w37t ls H locs hq
      obtain ⟨hl, hF, hP, hS⟩ := hq
      rw [RM_takeRoot_37] at hF
      refine lv_iload hx hb d_RM_takeRoot_37 (lv_at hl 0 rfl) ?_
      refine lv_bipush (v := 104) hx hb d_RM_takeRoot_39 (by decide) ?_
      refine lv_icmp_ge hx hb d_RM_takeRoot_41 (tgt := 66) (by decide) (fun c41 => ?_) (fun c41 => ?_)
      · replace hF := (if_pos c41).symm.trans hF
        refine lv_iconst (v := 0) hx hb d_RM_takeRoot_66 (by decide) ?_
        refine lv_istore (lv' := [(4, .int (0 : Int32)), (3, .int x33), (2, .int j19s0), (0, .ref (a 0)), (1, .int p0)]) hx hb d_RM_takeRoot_67 hl (by decide) rfl (fun ls hl => ?_)
        refine ct_loop2 (fun n (w69L4 : Int32) (w69t : rm_S) ls H locs => lv_has ls 8 [(4, .int w69L4), (3, .int x33), (2, .int j19s0), (0, .ref (a 0)), (1, .int p0)] ∧ RM_takeRoot_69 n p0 j19s0 x33 w69L4 w69t = some t0 ∧ va_P D vwCl (rm_g a ci w69t) H ∧ va_S (ct_F (rm_X a) s.heap.size) s.heap H locs) 69 ?_ ?_ (2000) (0 : Int32) w37t ⟨lv_sub hl [0, 1, 2, 3, 4] rfl, hF, hP, hS⟩
        · intro w69L4 w69t ls H locs hq
          obtain ⟨hl, hF, hP, hS⟩ := hq
          rw [RM_takeRoot_69] at hF
          cases hF
        · intro n69 ih69 w69L4 w69t ls H locs hq
          obtain ⟨hl, hF, hP, hS⟩ := hq
          rw [RM_takeRoot_69] at hF
          refine lv_iload hx hb d_RM_takeRoot_69 (lv_at hl 0 rfl) ?_
          refine lv_bipush (v := 98) hx hb d_RM_takeRoot_71 (by decide) ?_
          refine lv_icmp_ge hx hb d_RM_takeRoot_73 (tgt := 169) (by decide) (fun c73 => ?_) (fun c73 => ?_)
          · replace hF := (if_pos c73).symm.trans hF
            refine lv_aload_n hx hb d_RM_takeRoot_169 rfl (lv_at hl 3 rfl) ?_
            refine gf_RM_25 hx hb htb hown hK hP d_RM_takeRoot_170 ?_
            refine lv_sipush (v := 548) hx hb d_RM_takeRoot_173 (by decide) ?_
            refine lv_iload_n hx hb d_RM_takeRoot_176 rfl (lv_at hl 1 rfl) ?_
            refine lv_iadd hx hb d_RM_takeRoot_177 ?_
            refine lv_aload_n hx hb d_RM_takeRoot_178 rfl (lv_at hl 3 rfl) ?_
            obtain ⟨r179, e179, hF⟩ := ob_one hF
            refine ct_calli (va_runV (As := []) (rest := [.int ((548 : Int32) + x33), .ref (a 6)]) ⟨hx, hb, hml, hown, hts⟩ (c_RM_isLeft l (D := D) a ci hi w69t _ e179 _) (kc_RM_124 hts ⟨by decide, by decide⟩) ⟨ct_blind, rm_rc hK hP, ct_ok hP hK hN⟩ rfl rfl hl.1 rfl (lv_room (Nat.le_of_ble_eq_true rfl)) d_RM_takeRoot_179 ⟨Nat.zero_le _, Nat.zero_le _⟩) hS (fun H locs hP hS => ?_)
            refine ct_cut1 (fun (j190s0 : Int32) ls H locs => lv_has ls 8 [] ∧ RM_takeRoot_190 j190s0 ((548 : Int32) + x33) w69t = some t0 ∧ va_P D vwCl (rm_g a ci w69t) H ∧ va_S (ct_F (rm_X a) s.heap.size) s.heap H locs) 190 (fun j190s0 => [.int j190s0, .int ((548 : Int32) + x33), .ref (a 6)]) ?_ ?_
            · intro j190s0 ls H locs hq
              obtain ⟨hl, hF, hP, hS⟩ := hq
              unfold RM_takeRoot_190 at hF
              obtain ⟨b190, hF⟩ := ob_if hF
              refine rm_ast hx hb hK hP hS hi (k := 6) (by decide) (by decide) (ob_vi b190) d_RM_takeRoot_190 (fun H locs hP hS => ?_)
              obtain ⟨t190, e190, hP⟩ := nm_st hP
              replace hF := (nm_eq e190).symm.trans hF
              replace hF := Option.some.inj hF
              subst hF
              exact ct_vret hx hb hr hlk hP hS d_RM_takeRoot_191
            · intro kj190
              refine lv_if_eq hx hb d_RM_takeRoot_182 (tgt := 189) (by decide) (fun c182 => ?_) (fun c182 => ?_)
              · replace hF := (if_pos c182).symm.trans hF
                refine lv_iconst (v := 0) hx hb d_RM_takeRoot_189 (by decide) ?_
                exact kj190 (0 : Int32) _ _ _ ⟨lv_sub hl [] rfl, hF, hP, hS⟩
              · replace hF := (if_neg c182).symm.trans hF
                refine lv_iconst (v := 1) hx hb d_RM_takeRoot_185 (by decide) ?_
                refine lv_goto hx hb d_RM_takeRoot_186 (tgt := 190) (by decide) ?_
                exact kj190 (1 : Int32) _ _ _ ⟨lv_sub hl [] rfl, hF, hP, hS⟩
          · replace hF := (if_neg c73).symm.trans hF
            refine lv_aload_n hx hb d_RM_takeRoot_76 rfl (lv_at hl 3 rfl) ?_
            refine lv_iload_n hx hb d_RM_takeRoot_77 rfl (lv_at hl 4 rfl) ?_
            refine lv_iconst (v := 2) hx hb d_RM_takeRoot_78 (by decide) ?_
            refine lv_iload hx hb d_RM_takeRoot_79 (lv_at hl 0 rfl) ?_
            refine lv_imul hx hb d_RM_takeRoot_81 ?_
            refine lv_iload_n hx hb d_RM_takeRoot_82 rfl (lv_at hl 2 rfl) ?_
            refine lv_isub hx hb d_RM_takeRoot_83 ?_
            obtain ⟨r84, e84, hF⟩ := ob_one hF
            refine ct_calli (va_runV (As := [.int p0, .int (((2 : Int32) * w69L4) - j19s0)]) (rest := []) ⟨hx, hb, hml, hown, hts⟩ (c_RM_bitOf l (D := D) a ci hi w69t p0 (((2 : Int32) * w69L4) - j19s0) _ e84 _) (kc_RM_111 hts ⟨by decide, by decide⟩) ⟨ct_blind, rm_rc hK hP, ct_ok hP hK hN⟩ rfl rfl hl.1 rfl (lv_room (Nat.le_of_ble_eq_true rfl)) d_RM_takeRoot_84 ⟨Nat.zero_le _, Nat.zero_le _⟩) hS (fun H locs hP hS => ?_)
            refine lv_istore (lv' := [(5, .int r84), (4, .int w69L4), (3, .int x33), (2, .int j19s0), (0, .ref (a 0)), (1, .int p0)]) hx hb d_RM_takeRoot_87 hl (by decide) rfl (fun ls hl => ?_)
            refine lv_aload_n hx hb d_RM_takeRoot_89 rfl (lv_at hl 4 rfl) ?_
            refine lv_iload_n hx hb d_RM_takeRoot_90 rfl (lv_at hl 5 rfl) ?_
            refine lv_iconst (v := 2) hx hb d_RM_takeRoot_91 (by decide) ?_
            refine lv_iload hx hb d_RM_takeRoot_92 (lv_at hl 1 rfl) ?_
            refine lv_imul hx hb d_RM_takeRoot_94 ?_
            refine lv_iconst (v := 1) hx hb d_RM_takeRoot_95 (by decide) ?_
            refine lv_iadd hx hb d_RM_takeRoot_96 ?_
            refine lv_iload_n hx hb d_RM_takeRoot_97 rfl (lv_at hl 3 rfl) ?_
            refine lv_isub hx hb d_RM_takeRoot_98 ?_
            obtain ⟨r99, e99, hF⟩ := ob_one hF
            refine ct_calli (va_runV (As := [.int p0, .int ((((2 : Int32) * w69L4) + (1 : Int32)) - j19s0)]) (rest := []) ⟨hx, hb, hml, hown, hts⟩ (c_RM_bitOf l (D := D) a ci hi w69t p0 ((((2 : Int32) * w69L4) + (1 : Int32)) - j19s0) _ e99 _) (kc_RM_111 hts ⟨by decide, by decide⟩) ⟨ct_blind, rm_rc hK hP, ct_ok hP hK hN⟩ rfl rfl hl.1 rfl (lv_room (Nat.le_of_ble_eq_true rfl)) d_RM_takeRoot_99 ⟨Nat.zero_le _, Nat.zero_le _⟩) hS (fun H locs hP hS => ?_)
            refine lv_istore (lv' := [(6, .int r99), (5, .int r84), (4, .int w69L4), (3, .int x33), (2, .int j19s0), (0, .ref (a 0)), (1, .int p0)]) hx hb d_RM_takeRoot_102 hl (by decide) rfl (fun ls hl => ?_)
            refine lv_aload_n hx hb d_RM_takeRoot_104 rfl (lv_at hl 5 rfl) ?_
            refine lv_iload hx hb d_RM_takeRoot_105 (lv_at hl 1 rfl) ?_
            obtain ⟨t107, e107, hF⟩ := ob_one hF
            refine ct_callv (va_runV (As := [.int r84]) (rest := []) ⟨hx, hb, hml, hown, hts⟩ (c_RM_doubleRest l (D := D) a ci hi w69t r84 _ e107 _) (kc_RM_121 hts ⟨by decide, by decide⟩) ⟨ct_blind, rm_rc hK hP, ct_ok hP hK hN⟩ rfl rfl hl.1 rfl (lv_room (Nat.le_of_ble_eq_true rfl)) d_RM_takeRoot_107 ⟨Nat.zero_le _, Nat.zero_le _⟩) hS (fun H locs hP hS => ?_)
            refine lv_aload_n hx hb d_RM_takeRoot_110 rfl (lv_at hl 5 rfl) ?_
            refine lv_iload hx hb d_RM_takeRoot_111 (lv_at hl 0 rfl) ?_
            obtain ⟨t113, e113, hF⟩ := ob_one hF
            refine ct_callv (va_runV (As := [.int r99]) (rest := []) ⟨hx, hb, hml, hown, hts⟩ (c_RM_doubleRest l (D := D) a ci hi t107 r99 _ e113 _) (kc_RM_121 hts ⟨by decide, by decide⟩) ⟨ct_blind, rm_rc hK hP, ct_ok hP hK hN⟩ rfl rfl hl.1 rfl (lv_room (Nat.le_of_ble_eq_true rfl)) d_RM_takeRoot_113 ⟨Nat.zero_le _, Nat.zero_le _⟩) hS (fun H locs hP hS => ?_)
            refine lv_aload_n hx hb d_RM_takeRoot_116 rfl (lv_at hl 5 rfl) ?_
            obtain ⟨t117, e117, hF⟩ := ob_one hF
            refine ct_callv (va_runV (As := []) (rest := []) ⟨hx, hb, hml, hown, hts⟩ (c_RM_tryRoot l (D := D) a ci hi t113 _ e117 _) (kc_RM_130 hts ⟨by decide, by decide⟩) ⟨ct_blind, rm_rc hK hP, ct_ok hP hK hN⟩ rfl rfl hl.1 rfl (lv_room (Nat.le_of_ble_eq_true rfl)) d_RM_takeRoot_117 ⟨Nat.zero_le _, Nat.zero_le _⟩) hS (fun H locs hP hS => ?_)
            refine lv_aload_n hx hb d_RM_takeRoot_120 rfl (lv_at hl 5 rfl) ?_
            obtain ⟨r121, e121, hF⟩ := ob_one hF
            refine ct_calli (va_runV (As := []) (rest := []) ⟨hx, hb, hml, hown, hts⟩ (c_RM_reaches l (D := D) a ci hi t117 _ e121 _) (kc_RM_114 hts ⟨by decide, by decide⟩) ⟨ct_blind, rm_rc hK hP, ct_ok hP hK hN⟩ rfl rfl hl.1 rfl (lv_room (Nat.le_of_ble_eq_true rfl)) d_RM_takeRoot_121 ⟨Nat.zero_le _, Nat.zero_le _⟩) hS (fun H locs hP hS => ?_)
            refine lv_istore (lv' := [(7, .int r121), (6, .int r99), (5, .int r84), (4, .int w69L4), (3, .int x33), (2, .int j19s0), (0, .ref (a 0)), (1, .int p0)]) hx hb d_RM_takeRoot_124 hl (by decide) rfl (fun ls hl => ?_)
            refine lv_iload hx hb d_RM_takeRoot_126 (lv_at hl 0 rfl) ?_
            refine ct_cut1 (fun (j149t : rm_S) ls H locs => lv_has ls 8 [(7, .int r121), (4, .int w69L4), (3, .int x33), (2, .int j19s0), (0, .ref (a 0)), (1, .int p0)] ∧ RM_takeRoot_149 (RM_takeRoot_69 n69) p0 j19s0 x33 w69L4 r121 j149t = some t0 ∧ va_P D vwCl (rm_g a ci j149t) H ∧ va_S (ct_F (rm_X a) s.heap.size) s.heap H locs) 149 (fun j149t => []) ?_ ?_
            · intro j149t ls H locs hq
              obtain ⟨hl, hF, hP, hS⟩ := hq
              unfold RM_takeRoot_149 at hF
              refine lv_aload_n hx hb d_RM_takeRoot_149 rfl (lv_at hl 4 rfl) ?_
              refine lv_iload hx hb d_RM_takeRoot_150 (lv_at hl 0 rfl) ?_
              refine ct_cut1 (fun (j160s0 : Int32) ls H locs => lv_has ls 8 [(4, .int w69L4), (3, .int x33), (2, .int j19s0), (0, .ref (a 0)), (1, .int p0)] ∧ RM_takeRoot_160 (RM_takeRoot_69 n69) p0 j19s0 x33 w69L4 j160s0 j149t = some t0 ∧ va_P D vwCl (rm_g a ci j149t) H ∧ va_S (ct_F (rm_X a) s.heap.size) s.heap H locs) 160 (fun j160s0 => [.int j160s0, .ref (a 0)]) ?_ ?_
              · intro j160s0 ls H locs hq
                obtain ⟨hl, hF, hP, hS⟩ := hq
                unfold RM_takeRoot_160 at hF
                obtain ⟨t160, e160, hF⟩ := ob_one hF
                refine ct_callv (va_runV (As := [.int j160s0]) (rest := []) ⟨hx, hb, hml, hown, hts⟩ (c_RM_growRoot l (D := D) a ci hi j149t j160s0 _ e160 _) (kc_RM_133 hts ⟨by decide, by decide⟩) ⟨ct_blind, rm_rc hK hP, ct_ok hP hK hN⟩ rfl rfl hl.1 rfl (lv_room (Nat.le_of_ble_eq_true rfl)) d_RM_takeRoot_160 ⟨Nat.zero_le _, Nat.zero_le _⟩) hS (fun H locs hP hS => ?_)
                obtain ⟨x163, e163⟩ := nm_ex (w69L4 + (1 : Int32))
                replace hF := (nm_eq e163).symm.trans hF
                refine lv_iinc (v := x163) (lv' := [(4, .int x163), (3, .int x33), (2, .int j19s0), (0, .ref (a 0)), (1, .int p0)]) hx hb d_RM_takeRoot_163 hl (k := 0) rfl e163 (by decide) rfl (fun ls hl => ?_)
                refine lv_goto hx hb d_RM_takeRoot_166 (tgt := 69) (by decide) ?_
                exact ih69 x163 t160 _ _ _ ⟨lv_sub hl [0, 1, 2, 3, 4] rfl, hF, hP, hS⟩
              · intro kj160
                refine lv_if_eq hx hb d_RM_takeRoot_152 (tgt := 159) (by decide) (fun c152 => ?_) (fun c152 => ?_)
                · replace hF := (if_pos c152).symm.trans hF
                  refine lv_iconst (v := 0) hx hb d_RM_takeRoot_159 (by decide) ?_
                  exact kj160 (0 : Int32) _ _ _ ⟨lv_sub hl [1, 2, 3, 4, 5] rfl, hF, hP, hS⟩
                · replace hF := (if_neg c152).symm.trans hF
                  refine lv_iconst (v := 1) hx hb d_RM_takeRoot_155 (by decide) ?_
                  refine lv_goto hx hb d_RM_takeRoot_156 (tgt := 160) (by decide) ?_
                  exact kj160 (1 : Int32) _ _ _ ⟨lv_sub hl [1, 2, 3, 4, 5] rfl, hF, hP, hS⟩
            · intro kj149
              refine lv_if_eq hx hb d_RM_takeRoot_128 (tgt := 149) (by decide) (fun c128 => ?_) (fun c128 => ?_)
              · replace hF := (if_pos c128).symm.trans hF
                exact kj149 t117 _ _ _ ⟨lv_sub hl [0, 3, 4, 5, 6, 7] rfl, hF, hP, hS⟩
              · replace hF := (if_neg c128).symm.trans hF
                refine lv_aload_n hx hb d_RM_takeRoot_131 rfl (lv_at hl 6 rfl) ?_
                obtain ⟨t132, e132, hF⟩ := ob_one hF
                refine ct_callv (va_runV (As := []) (rest := []) ⟨hx, hb, hml, hown, hts⟩ (c_RM_takePart l (D := D) a ci hi t117 _ e132 _) (kc_RM_118 hts ⟨by decide, by decide⟩) ⟨ct_blind, rm_rc hK hP, ct_ok hP hK hN⟩ rfl rfl hl.1 rfl (lv_room (Nat.le_of_ble_eq_true rfl)) d_RM_takeRoot_132 ⟨Nat.zero_le _, Nat.zero_le _⟩) hS (fun H locs hP hS => ?_)
                refine lv_aload_n hx hb d_RM_takeRoot_135 rfl (lv_at hl 6 rfl) ?_
                refine gf_RM_25 hx hb htb hown hK hP d_RM_takeRoot_136 ?_
                refine lv_sipush (v := 646) hx hb d_RM_takeRoot_139 (by decide) ?_
                refine lv_iload hx hb d_RM_takeRoot_142 (lv_at hl 3 rfl) ?_
                refine lv_isub hx hb d_RM_takeRoot_144 ?_
                refine lv_iload_n hx hb d_RM_takeRoot_145 rfl (lv_at hl 4 rfl) ?_
                refine lv_iadd hx hb d_RM_takeRoot_146 ?_
                refine lv_iconst (v := 1) hx hb d_RM_takeRoot_147 (by decide) ?_
                obtain ⟨b148, hF⟩ := ob_if hF
                refine rm_ast hx hb hK hP hS hi (k := 6) (by decide) (by decide) (ob_vi b148) d_RM_takeRoot_148 (fun H locs hP hS => ?_)
                obtain ⟨t148, e148, hP⟩ := nm_st hP
                replace hF := (nm_eq e148).symm.trans hF
                exact kj149 t148 _ _ _ ⟨lv_sub hl [0, 3, 4, 5, 6, 7] rfl, hF, hP, hS⟩
      · replace hF := (if_neg c41).symm.trans hF
        refine lv_aload_n hx hb d_RM_takeRoot_44 rfl (lv_at hl 3 rfl) ?_
        refine gf_RM_31 hx hb htb hown hK hP d_RM_takeRoot_45 ?_
        refine lv_iload hx hb d_RM_takeRoot_48 (lv_at hl 0 rfl) ?_
        refine lv_iconst (v := 0) hx hb d_RM_takeRoot_50 (by decide) ?_
        obtain ⟨b51, hF⟩ := ob_if hF
        refine rm_ast hx hb hK hP hS hi (k := 8) (by decide) (by decide) (ob_vi b51) d_RM_takeRoot_51 (fun H locs hP hS => ?_)
        obtain ⟨t51, e51, hP⟩ := nm_st hP
        replace hF := (nm_eq e51).symm.trans hF
        refine lv_aload_n hx hb d_RM_takeRoot_52 rfl (lv_at hl 3 rfl) ?_
        refine gf_RM_37 hx hb htb hown hK hP d_RM_takeRoot_53 ?_
        refine lv_iload hx hb d_RM_takeRoot_56 (lv_at hl 0 rfl) ?_
        refine lv_iconst (v := 0) hx hb d_RM_takeRoot_58 (by decide) ?_
        obtain ⟨b59, hF⟩ := ob_if hF
        refine rm_ast hx hb hK hP hS hi (k := 10) (by decide) (by decide) (ob_vi b59) d_RM_takeRoot_59 (fun H locs hP hS => ?_)
        obtain ⟨t59, e59, hP⟩ := nm_st hP
        replace hF := (nm_eq e59).symm.trans hF
        obtain ⟨x60, e60⟩ := nm_ex (w37L4 + (1 : Int32))
        replace hF := (nm_eq e60).symm.trans hF
        refine lv_iinc (v := x60) (lv' := [(4, .int x60), (3, .int x33), (2, .int j19s0), (0, .ref (a 0)), (1, .int p0)]) hx hb d_RM_takeRoot_60 hl (k := 0) rfl e60 (by decide) rfl (fun ls hl => ?_)
        refine lv_goto hx hb d_RM_takeRoot_63 (tgt := 37) (by decide) ?_
        exact ih37 x60 t59 _ _ _ ⟨lv_sub hl [0, 1, 2, 3, 4] rfl, hF, hP, hS⟩
  · intro kj19
    refine lv_if_ne hx hb d_RM_takeRoot_11 (tgt := 18) (by decide) (fun c11 => ?_) (fun c11 => ?_)
    · replace hF := (if_neg c11).symm.trans hF
      refine lv_iconst (v := 0) hx hb d_RM_takeRoot_18 (by decide) ?_
      exact kj19 (0 : Int32) _ _ _ ⟨lv_sub hl [0, 1] rfl, hF, hP, hS⟩
    · replace hF := (if_pos c11).symm.trans hF
      refine lv_iconst (v := 1) hx hb d_RM_takeRoot_14 (by decide) ?_
      refine lv_goto hx hb d_RM_takeRoot_15 (tgt := 19) (by decide) ?_
      exact kj19 (1 : Int32) _ _ _ ⟨lv_sub hl [0, 1] rfl, hF, hP, hS⟩
theorem d_RM_sqrt_0 : decode prog_6_method_40_code 0 = .ok (.iload_n 1, 1) := by decide +kernel
theorem d_RM_sqrt_1 : decode prog_6_method_40_code 1 = .ok (.invokestatic 40, 3) := by decide +kernel
theorem d_RM_sqrt_4 : decode prog_6_method_40_code 4 = .ok (.ifCond .eq 17, 3) := by decide +kernel
theorem d_RM_sqrt_7 : decode prog_6_method_40_code 7 = .ok (.iload_n 2, 1) := by decide +kernel
theorem d_RM_sqrt_8 : decode prog_6_method_40_code 8 = .ok (.invokestatic 40, 3) := by decide +kernel
theorem d_RM_sqrt_11 : decode prog_6_method_40_code 11 = .ok (.ifCond .eq 10, 3) := by decide +kernel
theorem d_RM_sqrt_14 : decode prog_6_method_40_code 14 = .ok (.iload_n 3, 1) := by decide +kernel
theorem d_RM_sqrt_15 : decode prog_6_method_40_code 15 = .ok (.invokestatic 77, 3) := by decide +kernel
theorem d_RM_sqrt_18 : decode prog_6_method_40_code 18 = .ok (.ifCond .ne 6, 3) := by decide +kernel
theorem d_RM_sqrt_21 : decode prog_6_method_40_code 21 = .ok (.bipush 9, 2) := by decide +kernel
theorem d_RM_sqrt_23 : decode prog_6_method_40_code 23 = .ok (.ireturn, 1) := by decide +kernel
theorem d_RM_sqrt_24 : decode prog_6_method_40_code 24 = .ok (.aload_n 0, 1) := by decide +kernel
theorem d_RM_sqrt_25 : decode prog_6_method_40_code 25 = .ok (.getfield 13, 3) := by decide +kernel
theorem d_RM_sqrt_28 : decode prog_6_method_40_code 28 = .ok (.iload_n 2, 1) := by decide +kernel
theorem d_RM_sqrt_29 : decode prog_6_method_40_code 29 = .ok (.iaload, 1) := by decide +kernel
theorem d_RM_sqrt_30 : decode prog_6_method_40_code 30 = .ok (.iconst 2, 1) := by decide +kernel
theorem d_RM_sqrt_31 : decode prog_6_method_40_code 31 = .ok (.if_icmp .ne 16, 3) := by decide +kernel
theorem d_RM_sqrt_34 : decode prog_6_method_40_code 34 = .ok (.aload_n 0, 1) := by decide +kernel
theorem d_RM_sqrt_35 : decode prog_6_method_40_code 35 = .ok (.iload_n 1, 1) := by decide +kernel
theorem d_RM_sqrt_36 : decode prog_6_method_40_code 36 = .ok (.iconst 2, 1) := by decide +kernel
theorem d_RM_sqrt_37 : decode prog_6_method_40_code 37 = .ok (.aload_n 0, 1) := by decide +kernel
theorem d_RM_sqrt_38 : decode prog_6_method_40_code 38 = .ok (.getfield 16, 3) := by decide +kernel
theorem d_RM_sqrt_41 : decode prog_6_method_40_code 41 = .ok (.iload_n 2, 1) := by decide +kernel
theorem d_RM_sqrt_42 : decode prog_6_method_40_code 42 = .ok (.iaload, 1) := by decide +kernel
theorem d_RM_sqrt_43 : decode prog_6_method_40_code 43 = .ok (.invokevirtual 59, 3) := by decide +kernel
theorem d_RM_sqrt_46 : decode prog_6_method_40_code 46 = .ok (.ireturn, 1) := by decide +kernel
theorem d_RM_sqrt_47 : decode prog_6_method_40_code 47 = .ok (.aload_n 0, 1) := by decide +kernel
theorem d_RM_sqrt_48 : decode prog_6_method_40_code 48 = .ok (.getfield 13, 3) := by decide +kernel
theorem d_RM_sqrt_51 : decode prog_6_method_40_code 51 = .ok (.iload_n 2, 1) := by decide +kernel
theorem d_RM_sqrt_52 : decode prog_6_method_40_code 52 = .ok (.iaload, 1) := by decide +kernel
theorem d_RM_sqrt_53 : decode prog_6_method_40_code 53 = .ok (.ifCond .eq 12, 3) := by decide +kernel
theorem d_RM_sqrt_56 : decode prog_6_method_40_code 56 = .ok (.aload_n 0, 1) := by decide +kernel
theorem d_RM_sqrt_57 : decode prog_6_method_40_code 57 = .ok (.getfield 16, 3) := by decide +kernel
theorem d_RM_sqrt_60 : decode prog_6_method_40_code 60 = .ok (.iload_n 2, 1) := by decide +kernel
theorem d_RM_sqrt_61 : decode prog_6_method_40_code 61 = .ok (.iaload, 1) := by decide +kernel
theorem d_RM_sqrt_62 : decode prog_6_method_40_code 62 = .ok (.ifCond .ge 11, 3) := by decide +kernel
theorem d_RM_sqrt_65 : decode prog_6_method_40_code 65 = .ok (.aload_n 0, 1) := by decide +kernel
theorem d_RM_sqrt_66 : decode prog_6_method_40_code 66 = .ok (.iload_n 1, 1) := by decide +kernel
theorem d_RM_sqrt_67 : decode prog_6_method_40_code 67 = .ok (.iconst 0, 1) := by decide +kernel
theorem d_RM_sqrt_68 : decode prog_6_method_40_code 68 = .ok (.iconst 0, 1) := by decide +kernel
theorem d_RM_sqrt_69 : decode prog_6_method_40_code 69 = .ok (.invokevirtual 59, 3) := by decide +kernel
theorem d_RM_sqrt_72 : decode prog_6_method_40_code 72 = .ok (.ireturn, 1) := by decide +kernel
theorem d_RM_sqrt_73 : decode prog_6_method_40_code 73 = .ok (.aload_n 0, 1) := by decide +kernel
theorem d_RM_sqrt_74 : decode prog_6_method_40_code 74 = .ok (.getfield 13, 3) := by decide +kernel
theorem d_RM_sqrt_77 : decode prog_6_method_40_code 77 = .ok (.iload_n 2, 1) := by decide +kernel
theorem d_RM_sqrt_78 : decode prog_6_method_40_code 78 = .ok (.iaload, 1) := by decide +kernel
theorem d_RM_sqrt_79 : decode prog_6_method_40_code 79 = .ok (.iconst 1, 1) := by decide +kernel
theorem d_RM_sqrt_80 : decode prog_6_method_40_code 80 = .ok (.if_icmp .ne 11, 3) := by decide +kernel
theorem d_RM_sqrt_83 : decode prog_6_method_40_code 83 = .ok (.aload_n 0, 1) := by decide +kernel
theorem d_RM_sqrt_84 : decode prog_6_method_40_code 84 = .ok (.iload_n 1, 1) := by decide +kernel
theorem d_RM_sqrt_85 : decode prog_6_method_40_code 85 = .ok (.iconst 1, 1) := by decide +kernel
theorem d_RM_sqrt_86 : decode prog_6_method_40_code 86 = .ok (.iconst 1, 1) := by decide +kernel
theorem d_RM_sqrt_87 : decode prog_6_method_40_code 87 = .ok (.invokevirtual 59, 3) := by decide +kernel
theorem d_RM_sqrt_90 : decode prog_6_method_40_code 90 = .ok (.ireturn, 1) := by decide +kernel
theorem d_RM_sqrt_91 : decode prog_6_method_40_code 91 = .ok (.aload_n 0, 1) := by decide +kernel
theorem d_RM_sqrt_92 : decode prog_6_method_40_code 92 = .ok (.invokevirtual 80, 3) := by decide +kernel
theorem d_RM_sqrt_95 : decode prog_6_method_40_code 95 = .ok (.aload_n 0, 1) := by decide +kernel
theorem d_RM_sqrt_96 : decode prog_6_method_40_code 96 = .ok (.iload_n 2, 1) := by decide +kernel
theorem d_RM_sqrt_97 : decode prog_6_method_40_code 97 = .ok (.invokevirtual 136, 3) := by decide +kernel
theorem d_RM_sqrt_100 : decode prog_6_method_40_code 100 = .ok (.aload_n 0, 1) := by decide +kernel
theorem d_RM_sqrt_101 : decode prog_6_method_40_code 101 = .ok (.iload_n 1, 1) := by decide +kernel
theorem d_RM_sqrt_102 : decode prog_6_method_40_code 102 = .ok (.iconst 1, 1) := by decide +kernel
theorem d_RM_sqrt_103 : decode prog_6_method_40_code 103 = .ok (.iload_n 3, 1) := by decide +kernel
theorem d_RM_sqrt_104 : decode prog_6_method_40_code 104 = .ok (.invokevirtual 83, 3) := by decide +kernel
theorem d_RM_sqrt_107 : decode prog_6_method_40_code 107 = .ok (.ireturn, 1) := by decide +kernel
def RM_sqrt_65 (L1 : Int32) (st : rm_S) : Option (Int32 × rm_S) := ob2 (RM_keep st L1 (0 : Int32) (0 : Int32)) (fun r69 t69 => some (r69, t69))
def RM_sqrt (st : rm_S) (p0 : Int32) (p1 : Int32) (p2 : Int32) : Option (Int32 × rm_S) := nm (RM_isRegister p0) (fun r1 => (if r1 = 0 then some ((9 : Int32), st) else nm (RM_isRegister p1) (fun r8 => (if r8 = 0 then some ((9 : Int32), st) else nm (RM_isMode p2) (fun r15 => (if r15 = 0 then some ((9 : Int32), st) else (if ob_in p1 8 = true then (if (st 2 p1.toNatClampNeg) = (2 : Int32) then (if ob_in p1 8 = true then ob2 (RM_keep st p0 (2 : Int32) (st 3 p1.toNatClampNeg)) (fun r43 t43 => some (r43, t43)) else none) else (if ob_in p1 8 = true then (if (st 2 p1.toNatClampNeg) = 0 then RM_sqrt_65 p0 st else (if ob_in p1 8 = true then (if 0 ≤ (st 3 p1.toNatClampNeg) then (if ob_in p1 8 = true then (if (st 2 p1.toNatClampNeg) = (1 : Int32) then ob2 (RM_keep st p0 (1 : Int32) (1 : Int32)) (fun r87 t87 => some (r87, t87)) else ob1 (RM_clear st) (fun t92 => ob1 (RM_takeRoot t92 p1) (fun t97 => ob2 (RM_round t97 p0 (1 : Int32) p2) (fun r104 t104 => some (r104, t104))))) else none) else RM_sqrt_65 p0 st) else none)) else none)) else none)))))))
set_option maxHeartbeats 4000000 in
set_option maxRecDepth 100000 in
theorem c_RM_sqrt (l : Launch) {D : va_G} (a : Nat → Nat) (ci : ClassId) (hi : rm_inj a) (st : rm_S) (p0 : Int32) (p1 : Int32) (p2 : Int32) (r0 : Int32) (t0 : rm_S) (hF : RM_sqrt st p0 p1 p2 = some (r0, t0)) : ct_i l ⟨"RoundedNumbersModel", "sqrt", "(III)I"⟩ (.code ⟨"RoundedNumbersModel", "sqrt", "(III)I"⟩ prog_6_method_40_code 4 (some .int) :: ct_T) { frames := 3, cells := 0, slots := 0, locals := 81 } D vwCl (rm_T ci) (rm_g a ci) (rm_X a) [.ref (a 0), .int p0, .int p1, .int p2] st r0 t0 := by
  refine ct_i.mk (cc := prog_6_method_40_code) (maxL := 4) (by decide) rfl (Nat.le_of_ble_eq_true rfl) ?_
  intro p e s m below meth c hx hb hr hml hown hts hlk hK hN hP hS ls hl
  have hown : s.vm.findClass "RoundedNumbersModel" = some m.cls := hown
  have hl : lv_has ls 4 [(0, .ref (a 0)), (1, .int p0), (2, .int p1), (3, .int p2)] := hl
  have htb := fun w h => hts w (List.mem_cons_of_mem _ h)
  unfold RM_sqrt at hF
  refine lv_iload_n hx hb d_RM_sqrt_0 rfl (lv_at hl 1 rfl) ?_
  obtain ⟨r1, e1⟩ := nm_ex (RM_isRegister p0)
  replace hF := (nm_eq e1).symm.trans hF
  refine ct_calli (va_runS (As := [.int p0]) (rest := []) ⟨hx, hb, hml, hown, hts⟩ (c_RM_isRegister l (D := D) a ci hi st p0 _ e1 _) (kc_RM_40 hts ⟨by decide, by decide⟩) ⟨ct_blind, ct_ok hP hK hN⟩ rfl rfl hl.1 rfl (lv_room (Nat.le_of_ble_eq_true rfl)) d_RM_sqrt_1 ⟨Nat.zero_le _, Nat.zero_le _⟩) hS (fun H locs hP hS => ?_)
  refine lv_if_eq hx hb d_RM_sqrt_4 (tgt := 21) (by decide) (fun c4 => ?_) (fun c4 => ?_)
  · replace hF := (if_pos c4).symm.trans hF
    refine lv_bipush (v := 9) hx hb d_RM_sqrt_21 (by decide) ?_
    replace hF := Option.some.inj hF
    obtain ⟨rfl, rfl⟩ := Prod.mk.inj hF
    exact ct_iret hx hb hr hlk hP hS d_RM_sqrt_23
  · replace hF := (if_neg c4).symm.trans hF
    refine lv_iload_n hx hb d_RM_sqrt_7 rfl (lv_at hl 2 rfl) ?_
    obtain ⟨r8, e8⟩ := nm_ex (RM_isRegister p1)
    replace hF := (nm_eq e8).symm.trans hF
    refine ct_calli (va_runS (As := [.int p1]) (rest := []) ⟨hx, hb, hml, hown, hts⟩ (c_RM_isRegister l (D := D) a ci hi st p1 _ e8 _) (kc_RM_40 hts ⟨by decide, by decide⟩) ⟨ct_blind, ct_ok hP hK hN⟩ rfl rfl hl.1 rfl (lv_room (Nat.le_of_ble_eq_true rfl)) d_RM_sqrt_8 ⟨Nat.zero_le _, Nat.zero_le _⟩) hS (fun H locs hP hS => ?_)
    refine lv_if_eq hx hb d_RM_sqrt_11 (tgt := 21) (by decide) (fun c11 => ?_) (fun c11 => ?_)
    · replace hF := (if_pos c11).symm.trans hF
      refine lv_bipush (v := 9) hx hb d_RM_sqrt_21 (by decide) ?_
      replace hF := Option.some.inj hF
      obtain ⟨rfl, rfl⟩ := Prod.mk.inj hF
      exact ct_iret hx hb hr hlk hP hS d_RM_sqrt_23
    · replace hF := (if_neg c11).symm.trans hF
      refine lv_iload_n hx hb d_RM_sqrt_14 rfl (lv_at hl 3 rfl) ?_
      obtain ⟨r15, e15⟩ := nm_ex (RM_isMode p2)
      replace hF := (nm_eq e15).symm.trans hF
      refine ct_calli (va_runS (As := [.int p2]) (rest := []) ⟨hx, hb, hml, hown, hts⟩ (c_RM_isMode l (D := D) a ci hi st p2 _ e15 _) (kc_RM_77 hts ⟨by decide, by decide⟩) ⟨ct_blind, ct_ok hP hK hN⟩ rfl rfl hl.1 rfl (lv_room (Nat.le_of_ble_eq_true rfl)) d_RM_sqrt_15 ⟨Nat.zero_le _, Nat.zero_le _⟩) hS (fun H locs hP hS => ?_)
      refine lv_if_ne hx hb d_RM_sqrt_18 (tgt := 24) (by decide) (fun c18 => ?_) (fun c18 => ?_)
      · replace hF := (if_neg c18).symm.trans hF
        refine lv_aload_n hx hb d_RM_sqrt_24 rfl (lv_at hl 0 rfl) ?_
        refine gf_RM_13 hx hb htb hown hK hP d_RM_sqrt_25 ?_
        refine lv_iload_n hx hb d_RM_sqrt_28 rfl (lv_at hl 2 rfl) ?_
        obtain ⟨b29, hF⟩ := ob_if hF
        refine rm_ald hx hb hK hP (k := 2) (by decide) (by decide) (ob_vi b29) d_RM_sqrt_29 ?_
        refine lv_iconst (v := 2) hx hb d_RM_sqrt_30 (by decide) ?_
        refine lv_icmp_ne hx hb d_RM_sqrt_31 (tgt := 47) (by decide) (fun c31 => ?_) (fun c31 => ?_)
        · replace hF := (if_neg c31).symm.trans hF
          refine lv_aload_n hx hb d_RM_sqrt_47 rfl (lv_at hl 0 rfl) ?_
          refine gf_RM_13 hx hb htb hown hK hP d_RM_sqrt_48 ?_
          refine lv_iload_n hx hb d_RM_sqrt_51 rfl (lv_at hl 2 rfl) ?_
          obtain ⟨b52, hF⟩ := ob_if hF
          refine rm_ald hx hb hK hP (k := 2) (by decide) (by decide) (ob_vi b52) d_RM_sqrt_52 ?_
          refine ct_cut0 (fun  ls H locs => lv_has ls 4 [(0, .ref (a 0)), (1, .int p0)] ∧ RM_sqrt_65 p0 st = some (r0, t0) ∧ va_P D vwCl (rm_g a ci st) H ∧ va_S (ct_F (rm_X a) s.heap.size) s.heap H locs) 65 [] ?_ ?_
          · intro ls H locs hq
            obtain ⟨hl, hF, hP, hS⟩ := hq
            unfold RM_sqrt_65 at hF
            refine lv_aload_n hx hb d_RM_sqrt_65 rfl (lv_at hl 0 rfl) ?_
            refine lv_iload_n hx hb d_RM_sqrt_66 rfl (lv_at hl 1 rfl) ?_
            refine lv_iconst (v := 0) hx hb d_RM_sqrt_67 (by decide) ?_
            refine lv_iconst (v := 0) hx hb d_RM_sqrt_68 (by decide) ?_
            obtain ⟨r69, t69, e69, hF⟩ := ob_two hF
            refine ct_calli (va_runV (As := [.int p0, .int (0 : Int32), .int (0 : Int32)]) (rest := []) ⟨hx, hb, hml, hown, hts⟩ (c_RM_keep l (D := D) a ci hi st p0 (0 : Int32) (0 : Int32) _ _ e69 _) (kc_RM_59 hts ⟨by decide, by decide⟩) ⟨ct_blind, rm_rc hK hP, ct_ok hP hK hN⟩ rfl rfl hl.1 rfl (lv_room (Nat.le_of_ble_eq_true rfl)) d_RM_sqrt_69 ⟨Nat.zero_le _, Nat.zero_le _⟩) hS (fun H locs hP hS => ?_)
            replace hF := Option.some.inj hF
            obtain ⟨rfl, rfl⟩ := Prod.mk.inj hF
            exact ct_iret hx hb hr hlk hP hS d_RM_sqrt_72
          · intro kj65
            refine lv_if_eq hx hb d_RM_sqrt_53 (tgt := 65) (by decide) (fun c53 => ?_) (fun c53 => ?_)
            · replace hF := (if_pos c53).symm.trans hF
              exact kj65 _ _ _ ⟨lv_sub hl [0, 1] rfl, hF, hP, hS⟩
            · replace hF := (if_neg c53).symm.trans hF
              refine lv_aload_n hx hb d_RM_sqrt_56 rfl (lv_at hl 0 rfl) ?_
              refine gf_RM_16 hx hb htb hown hK hP d_RM_sqrt_57 ?_
              refine lv_iload_n hx hb d_RM_sqrt_60 rfl (lv_at hl 2 rfl) ?_
              obtain ⟨b61, hF⟩ := ob_if hF
              refine rm_ald hx hb hK hP (k := 3) (by decide) (by decide) (ob_vi b61) d_RM_sqrt_61 ?_
              refine lv_if_ge hx hb d_RM_sqrt_62 (tgt := 73) (by decide) (fun c62 => ?_) (fun c62 => ?_)
              · replace hF := (if_pos c62).symm.trans hF
                refine lv_aload_n hx hb d_RM_sqrt_73 rfl (lv_at hl 0 rfl) ?_
                refine gf_RM_13 hx hb htb hown hK hP d_RM_sqrt_74 ?_
                refine lv_iload_n hx hb d_RM_sqrt_77 rfl (lv_at hl 2 rfl) ?_
                obtain ⟨b78, hF⟩ := ob_if hF
                refine rm_ald hx hb hK hP (k := 2) (by decide) (by decide) (ob_vi b78) d_RM_sqrt_78 ?_
                refine lv_iconst (v := 1) hx hb d_RM_sqrt_79 (by decide) ?_
                refine lv_icmp_ne hx hb d_RM_sqrt_80 (tgt := 91) (by decide) (fun c80 => ?_) (fun c80 => ?_)
                · replace hF := (if_neg c80).symm.trans hF
                  refine lv_aload_n hx hb d_RM_sqrt_91 rfl (lv_at hl 0 rfl) ?_
                  obtain ⟨t92, e92, hF⟩ := ob_one hF
                  refine ct_callv (va_runV (As := []) (rest := []) ⟨hx, hb, hml, hown, hts⟩ (c_RM_clear l (D := D) a ci hi st _ e92 _) (kc_RM_80 hts ⟨by decide, by decide⟩) ⟨ct_blind, rm_rc hK hP, ct_ok hP hK hN⟩ rfl rfl hl.1 rfl (lv_room (Nat.le_of_ble_eq_true rfl)) d_RM_sqrt_92 ⟨Nat.zero_le _, Nat.zero_le _⟩) hS (fun H locs hP hS => ?_)
                  refine lv_aload_n hx hb d_RM_sqrt_95 rfl (lv_at hl 0 rfl) ?_
                  refine lv_iload_n hx hb d_RM_sqrt_96 rfl (lv_at hl 2 rfl) ?_
                  obtain ⟨t97, e97, hF⟩ := ob_one hF
                  refine ct_callv (va_runV (As := [.int p1]) (rest := []) ⟨hx, hb, hml, hown, hts⟩ (c_RM_takeRoot l (D := D) a ci hi t92 p1 _ e97 _) (kc_RM_136 hts ⟨by decide, by decide⟩) ⟨ct_blind, rm_rc hK hP, ct_ok hP hK hN⟩ rfl rfl hl.1 rfl (lv_room (Nat.le_of_ble_eq_true rfl)) d_RM_sqrt_97 ⟨Nat.zero_le _, Nat.zero_le _⟩) hS (fun H locs hP hS => ?_)
                  refine lv_aload_n hx hb d_RM_sqrt_100 rfl (lv_at hl 0 rfl) ?_
                  refine lv_iload_n hx hb d_RM_sqrt_101 rfl (lv_at hl 1 rfl) ?_
                  refine lv_iconst (v := 1) hx hb d_RM_sqrt_102 (by decide) ?_
                  refine lv_iload_n hx hb d_RM_sqrt_103 rfl (lv_at hl 3 rfl) ?_
                  obtain ⟨r104, t104, e104, hF⟩ := ob_two hF
                  refine ct_calli (va_runV (As := [.int p0, .int (1 : Int32), .int p2]) (rest := []) ⟨hx, hb, hml, hown, hts⟩ (c_RM_round l (D := D) a ci hi t97 p0 (1 : Int32) p2 _ _ e104 _) (kc_RM_83 hts ⟨by decide, by decide⟩) ⟨ct_blind, rm_rc hK hP, ct_ok hP hK hN⟩ rfl rfl hl.1 rfl (lv_room (Nat.le_of_ble_eq_true rfl)) d_RM_sqrt_104 ⟨Nat.zero_le _, Nat.zero_le _⟩) hS (fun H locs hP hS => ?_)
                  replace hF := Option.some.inj hF
                  obtain ⟨rfl, rfl⟩ := Prod.mk.inj hF
                  exact ct_iret hx hb hr hlk hP hS d_RM_sqrt_107
                · replace hF := (if_pos c80).symm.trans hF
                  refine lv_aload_n hx hb d_RM_sqrt_83 rfl (lv_at hl 0 rfl) ?_
                  refine lv_iload_n hx hb d_RM_sqrt_84 rfl (lv_at hl 1 rfl) ?_
                  refine lv_iconst (v := 1) hx hb d_RM_sqrt_85 (by decide) ?_
                  refine lv_iconst (v := 1) hx hb d_RM_sqrt_86 (by decide) ?_
                  obtain ⟨r87, t87, e87, hF⟩ := ob_two hF
                  refine ct_calli (va_runV (As := [.int p0, .int (1 : Int32), .int (1 : Int32)]) (rest := []) ⟨hx, hb, hml, hown, hts⟩ (c_RM_keep l (D := D) a ci hi st p0 (1 : Int32) (1 : Int32) _ _ e87 _) (kc_RM_59 hts ⟨by decide, by decide⟩) ⟨ct_blind, rm_rc hK hP, ct_ok hP hK hN⟩ rfl rfl hl.1 rfl (lv_room (Nat.le_of_ble_eq_true rfl)) d_RM_sqrt_87 ⟨Nat.zero_le _, Nat.zero_le _⟩) hS (fun H locs hP hS => ?_)
                  replace hF := Option.some.inj hF
                  obtain ⟨rfl, rfl⟩ := Prod.mk.inj hF
                  exact ct_iret hx hb hr hlk hP hS d_RM_sqrt_90
              · replace hF := (if_neg c62).symm.trans hF
                exact kj65 _ _ _ ⟨lv_sub hl [0, 1] rfl, hF, hP, hS⟩
        · replace hF := (if_pos c31).symm.trans hF
          refine lv_aload_n hx hb d_RM_sqrt_34 rfl (lv_at hl 0 rfl) ?_
          refine lv_iload_n hx hb d_RM_sqrt_35 rfl (lv_at hl 1 rfl) ?_
          refine lv_iconst (v := 2) hx hb d_RM_sqrt_36 (by decide) ?_
          refine lv_aload_n hx hb d_RM_sqrt_37 rfl (lv_at hl 0 rfl) ?_
          refine gf_RM_16 hx hb htb hown hK hP d_RM_sqrt_38 ?_
          refine lv_iload_n hx hb d_RM_sqrt_41 rfl (lv_at hl 2 rfl) ?_
          obtain ⟨b42, hF⟩ := ob_if hF
          refine rm_ald hx hb hK hP (k := 3) (by decide) (by decide) (ob_vi b42) d_RM_sqrt_42 ?_
          obtain ⟨r43, t43, e43, hF⟩ := ob_two hF
          refine ct_calli (va_runV (As := [.int p0, .int (2 : Int32), .int (st 3 p1.toNatClampNeg)]) (rest := []) ⟨hx, hb, hml, hown, hts⟩ (c_RM_keep l (D := D) a ci hi st p0 (2 : Int32) (st 3 p1.toNatClampNeg) _ _ e43 _) (kc_RM_59 hts ⟨by decide, by decide⟩) ⟨ct_blind, rm_rc hK hP, ct_ok hP hK hN⟩ rfl rfl hl.1 rfl (lv_room (Nat.le_of_ble_eq_true rfl)) d_RM_sqrt_43 ⟨Nat.zero_le _, Nat.zero_le _⟩) hS (fun H locs hP hS => ?_)
          replace hF := Option.some.inj hF
          obtain ⟨rfl, rfl⟩ := Prod.mk.inj hF
          exact ct_iret hx hb hr hlk hP hS d_RM_sqrt_46
      · replace hF := (if_pos c18).symm.trans hF
        refine lv_bipush (v := 9) hx hb d_RM_sqrt_21 (by decide) ?_
        replace hF := Option.some.inj hF
        obtain ⟨rfl, rfl⟩ := Prod.mk.inj hF
        exact ct_iret hx hb hr hlk hP hS d_RM_sqrt_23
theorem d_RM_compareSizes_0 : decode prog_6_method_41_code 0 = .ok (.aload_n 0, 1) := by decide +kernel
theorem d_RM_compareSizes_1 : decode prog_6_method_41_code 1 = .ok (.getfield 13, 3) := by decide +kernel
theorem d_RM_compareSizes_4 : decode prog_6_method_41_code 4 = .ok (.iload_n 1, 1) := by decide +kernel
theorem d_RM_compareSizes_5 : decode prog_6_method_41_code 5 = .ok (.iaload, 1) := by decide +kernel
theorem d_RM_compareSizes_6 : decode prog_6_method_41_code 6 = .ok (.aload_n 0, 1) := by decide +kernel
theorem d_RM_compareSizes_7 : decode prog_6_method_41_code 7 = .ok (.getfield 13, 3) := by decide +kernel
theorem d_RM_compareSizes_10 : decode prog_6_method_41_code 10 = .ok (.iload_n 2, 1) := by decide +kernel
theorem d_RM_compareSizes_11 : decode prog_6_method_41_code 11 = .ok (.iaload, 1) := by decide +kernel
theorem d_RM_compareSizes_12 : decode prog_6_method_41_code 12 = .ok (.if_icmp .eq 19, 3) := by decide +kernel
theorem d_RM_compareSizes_15 : decode prog_6_method_41_code 15 = .ok (.aload_n 0, 1) := by decide +kernel
theorem d_RM_compareSizes_16 : decode prog_6_method_41_code 16 = .ok (.getfield 13, 3) := by decide +kernel
theorem d_RM_compareSizes_19 : decode prog_6_method_41_code 19 = .ok (.iload_n 1, 1) := by decide +kernel
theorem d_RM_compareSizes_20 : decode prog_6_method_41_code 20 = .ok (.iaload, 1) := by decide +kernel
theorem d_RM_compareSizes_21 : decode prog_6_method_41_code 21 = .ok (.iconst 1, 1) := by decide +kernel
theorem d_RM_compareSizes_22 : decode prog_6_method_41_code 22 = .ok (.if_icmp .ne 7, 3) := by decide +kernel
theorem d_RM_compareSizes_25 : decode prog_6_method_41_code 25 = .ok (.iconst 1, 1) := by decide +kernel
theorem d_RM_compareSizes_26 : decode prog_6_method_41_code 26 = .ok (.goto 4, 3) := by decide +kernel
theorem d_RM_compareSizes_29 : decode prog_6_method_41_code 29 = .ok (.iconst (-1), 1) := by decide +kernel
theorem d_RM_compareSizes_30 : decode prog_6_method_41_code 30 = .ok (.ireturn, 1) := by decide +kernel
theorem d_RM_compareSizes_31 : decode prog_6_method_41_code 31 = .ok (.aload_n 0, 1) := by decide +kernel
theorem d_RM_compareSizes_32 : decode prog_6_method_41_code 32 = .ok (.getfield 13, 3) := by decide +kernel
theorem d_RM_compareSizes_35 : decode prog_6_method_41_code 35 = .ok (.iload_n 1, 1) := by decide +kernel
theorem d_RM_compareSizes_36 : decode prog_6_method_41_code 36 = .ok (.iaload, 1) := by decide +kernel
theorem d_RM_compareSizes_37 : decode prog_6_method_41_code 37 = .ok (.iconst 1, 1) := by decide +kernel
theorem d_RM_compareSizes_38 : decode prog_6_method_41_code 38 = .ok (.if_icmp .ne 5, 3) := by decide +kernel
theorem d_RM_compareSizes_41 : decode prog_6_method_41_code 41 = .ok (.iconst 0, 1) := by decide +kernel
theorem d_RM_compareSizes_42 : decode prog_6_method_41_code 42 = .ok (.ireturn, 1) := by decide +kernel
theorem d_RM_compareSizes_43 : decode prog_6_method_41_code 43 = .ok (.aload_n 0, 1) := by decide +kernel
theorem d_RM_compareSizes_44 : decode prog_6_method_41_code 44 = .ok (.getfield 19, 3) := by decide +kernel
theorem d_RM_compareSizes_47 : decode prog_6_method_41_code 47 = .ok (.iload_n 1, 1) := by decide +kernel
theorem d_RM_compareSizes_48 : decode prog_6_method_41_code 48 = .ok (.iaload, 1) := by decide +kernel
theorem d_RM_compareSizes_49 : decode prog_6_method_41_code 49 = .ok (.aload_n 0, 1) := by decide +kernel
theorem d_RM_compareSizes_50 : decode prog_6_method_41_code 50 = .ok (.getfield 19, 3) := by decide +kernel
theorem d_RM_compareSizes_53 : decode prog_6_method_41_code 53 = .ok (.iload_n 2, 1) := by decide +kernel
theorem d_RM_compareSizes_54 : decode prog_6_method_41_code 54 = .ok (.iaload, 1) := by decide +kernel
theorem d_RM_compareSizes_55 : decode prog_6_method_41_code 55 = .ok (.if_icmp .eq 24, 3) := by decide +kernel
theorem d_RM_compareSizes_58 : decode prog_6_method_41_code 58 = .ok (.aload_n 0, 1) := by decide +kernel
theorem d_RM_compareSizes_59 : decode prog_6_method_41_code 59 = .ok (.getfield 19, 3) := by decide +kernel
theorem d_RM_compareSizes_62 : decode prog_6_method_41_code 62 = .ok (.iload_n 1, 1) := by decide +kernel
theorem d_RM_compareSizes_63 : decode prog_6_method_41_code 63 = .ok (.iaload, 1) := by decide +kernel
theorem d_RM_compareSizes_64 : decode prog_6_method_41_code 64 = .ok (.aload_n 0, 1) := by decide +kernel
theorem d_RM_compareSizes_65 : decode prog_6_method_41_code 65 = .ok (.getfield 19, 3) := by decide +kernel
theorem d_RM_compareSizes_68 : decode prog_6_method_41_code 68 = .ok (.iload_n 2, 1) := by decide +kernel
theorem d_RM_compareSizes_69 : decode prog_6_method_41_code 69 = .ok (.iaload, 1) := by decide +kernel
theorem d_RM_compareSizes_70 : decode prog_6_method_41_code 70 = .ok (.if_icmp .le 7, 3) := by decide +kernel
theorem d_RM_compareSizes_73 : decode prog_6_method_41_code 73 = .ok (.iconst 1, 1) := by decide +kernel
theorem d_RM_compareSizes_74 : decode prog_6_method_41_code 74 = .ok (.goto 4, 3) := by decide +kernel
theorem d_RM_compareSizes_77 : decode prog_6_method_41_code 77 = .ok (.iconst (-1), 1) := by decide +kernel
theorem d_RM_compareSizes_78 : decode prog_6_method_41_code 78 = .ok (.ireturn, 1) := by decide +kernel
theorem d_RM_compareSizes_79 : decode prog_6_method_41_code 79 = .ok (.iconst 0, 1) := by decide +kernel
theorem d_RM_compareSizes_80 : decode prog_6_method_41_code 80 = .ok (.istore_n 3, 1) := by decide +kernel
theorem d_RM_compareSizes_81 : decode prog_6_method_41_code 81 = .ok (.iload_n 3, 1) := by decide +kernel
theorem d_RM_compareSizes_82 : decode prog_6_method_41_code 82 = .ok (.bipush 93, 2) := by decide +kernel
theorem d_RM_compareSizes_84 : decode prog_6_method_41_code 84 = .ok (.if_icmp .ge 45, 3) := by decide +kernel
theorem d_RM_compareSizes_87 : decode prog_6_method_41_code 87 = .ok (.aload_n 0, 1) := by decide +kernel
theorem d_RM_compareSizes_88 : decode prog_6_method_41_code 88 = .ok (.iload_n 1, 1) := by decide +kernel
theorem d_RM_compareSizes_89 : decode prog_6_method_41_code 89 = .ok (.iload_n 3, 1) := by decide +kernel
theorem d_RM_compareSizes_90 : decode prog_6_method_41_code 90 = .ok (.invokevirtual 111, 3) := by decide +kernel
theorem d_RM_compareSizes_93 : decode prog_6_method_41_code 93 = .ok (.istore 4, 2) := by decide +kernel
theorem d_RM_compareSizes_95 : decode prog_6_method_41_code 95 = .ok (.aload_n 0, 1) := by decide +kernel
theorem d_RM_compareSizes_96 : decode prog_6_method_41_code 96 = .ok (.iload_n 2, 1) := by decide +kernel
theorem d_RM_compareSizes_97 : decode prog_6_method_41_code 97 = .ok (.iload_n 3, 1) := by decide +kernel
theorem d_RM_compareSizes_98 : decode prog_6_method_41_code 98 = .ok (.invokevirtual 111, 3) := by decide +kernel
theorem d_RM_compareSizes_101 : decode prog_6_method_41_code 101 = .ok (.istore 5, 2) := by decide +kernel
theorem d_RM_compareSizes_103 : decode prog_6_method_41_code 103 = .ok (.iload 4, 2) := by decide +kernel
theorem d_RM_compareSizes_105 : decode prog_6_method_41_code 105 = .ok (.iload 5, 2) := by decide +kernel
theorem d_RM_compareSizes_107 : decode prog_6_method_41_code 107 = .ok (.if_icmp .eq 16, 3) := by decide +kernel
theorem d_RM_compareSizes_110 : decode prog_6_method_41_code 110 = .ok (.iload 4, 2) := by decide +kernel
theorem d_RM_compareSizes_112 : decode prog_6_method_41_code 112 = .ok (.iload 5, 2) := by decide +kernel
theorem d_RM_compareSizes_114 : decode prog_6_method_41_code 114 = .ok (.if_icmp .le 7, 3) := by decide +kernel
theorem d_RM_compareSizes_117 : decode prog_6_method_41_code 117 = .ok (.iconst 1, 1) := by decide +kernel
theorem d_RM_compareSizes_118 : decode prog_6_method_41_code 118 = .ok (.goto 4, 3) := by decide +kernel
theorem d_RM_compareSizes_121 : decode prog_6_method_41_code 121 = .ok (.iconst (-1), 1) := by decide +kernel
theorem d_RM_compareSizes_122 : decode prog_6_method_41_code 122 = .ok (.ireturn, 1) := by decide +kernel
theorem d_RM_compareSizes_123 : decode prog_6_method_41_code 123 = .ok (.iinc 3 1, 3) := by decide +kernel
theorem d_RM_compareSizes_126 : decode prog_6_method_41_code 126 = .ok (.goto (-45), 3) := by decide +kernel
theorem d_RM_compareSizes_129 : decode prog_6_method_41_code 129 = .ok (.iconst 0, 1) := by decide +kernel
theorem d_RM_compareSizes_130 : decode prog_6_method_41_code 130 = .ok (.ireturn, 1) := by decide +kernel
def RM_compareSizes_81 : Nat → Int32 → Int32 → Int32 → rm_S → Option (Int32)
  | 0, _, _, _, _ => none
  | n + 1, L1, L2, L3, st => (if (93 : Int32) ≤ L3 then some (0 : Int32) else ob1 (RM_bitOf st L1 L3) (fun r90 => ob1 (RM_bitOf st L2 L3) (fun r98 => (if r90 = r98 then nm (L3 + (1 : Int32)) (fun x123 => (RM_compareSizes_81 n) L1 L2 x123 st) else (if r90 ≤ r98 then some (-1 : Int32) else some (1 : Int32))))))
def RM_compareSizes (st : rm_S) (p0 : Int32) (p1 : Int32) : Option (Int32) := (if ob_in p0 8 = true then (if ob_in p1 8 = true then (if (st 2 p0.toNatClampNeg) = (st 2 p1.toNatClampNeg) then (if ob_in p0 8 = true then (if (st 2 p0.toNatClampNeg) = (1 : Int32) then some (0 : Int32) else (if ob_in p0 8 = true then (if ob_in p1 8 = true then (if (st 4 p0.toNatClampNeg) = (st 4 p1.toNatClampNeg) then RM_compareSizes_81 (2000) p0 p1 (0 : Int32) st else (if ob_in p0 8 = true then (if ob_in p1 8 = true then (if (st 4 p0.toNatClampNeg) ≤ (st 4 p1.toNatClampNeg) then some (-1 : Int32) else some (1 : Int32)) else none) else none)) else none) else none)) else none) else (if ob_in p0 8 = true then (if (st 2 p0.toNatClampNeg) = (1 : Int32) then some (1 : Int32) else some (-1 : Int32)) else none)) else none) else none)
set_option maxHeartbeats 4000000 in
set_option maxRecDepth 100000 in
theorem c_RM_compareSizes (l : Launch) {D : va_G} (a : Nat → Nat) (ci : ClassId) (hi : rm_inj a) (st : rm_S) (p0 : Int32) (p1 : Int32) (r0 : Int32) (hF : RM_compareSizes st p0 p1 = some r0) : ct_i l ⟨"RoundedNumbersModel", "compareSizes", "(II)I"⟩ (.code ⟨"RoundedNumbersModel", "compareSizes", "(II)I"⟩ prog_6_method_41_code 6 (some .int) :: ct_T) { frames := 1, cells := 0, slots := 0, locals := 22 } D vwCl (rm_T ci) (rm_g a ci) (rm_X a) [.ref (a 0), .int p0, .int p1] st r0 st := by
  refine ct_i.mk (cc := prog_6_method_41_code) (maxL := 6) (by decide) rfl (Nat.le_of_ble_eq_true rfl) ?_
  intro p e s m below meth c hx hb hr hml hown hts hlk hK hN hP hS ls hl
  have hown : s.vm.findClass "RoundedNumbersModel" = some m.cls := hown
  have hl : lv_has ls 6 [(0, .ref (a 0)), (1, .int p0), (2, .int p1)] := hl
  have htb := fun w h => hts w (List.mem_cons_of_mem _ h)
  unfold RM_compareSizes at hF
  refine lv_aload_n hx hb d_RM_compareSizes_0 rfl (lv_at hl 0 rfl) ?_
  refine gf_RM_13 hx hb htb hown hK hP d_RM_compareSizes_1 ?_
  refine lv_iload_n hx hb d_RM_compareSizes_4 rfl (lv_at hl 1 rfl) ?_
  obtain ⟨b5, hF⟩ := ob_if hF
  refine rm_ald hx hb hK hP (k := 2) (by decide) (by decide) (ob_vi b5) d_RM_compareSizes_5 ?_
  refine lv_aload_n hx hb d_RM_compareSizes_6 rfl (lv_at hl 0 rfl) ?_
  refine gf_RM_13 hx hb htb hown hK hP d_RM_compareSizes_7 ?_
  refine lv_iload_n hx hb d_RM_compareSizes_10 rfl (lv_at hl 2 rfl) ?_
  obtain ⟨b11, hF⟩ := ob_if hF
  refine rm_ald hx hb hK hP (k := 2) (by decide) (by decide) (ob_vi b11) d_RM_compareSizes_11 ?_
  refine lv_icmp_eq hx hb d_RM_compareSizes_12 (tgt := 31) (by decide) (fun c12 => ?_) (fun c12 => ?_)
  · replace hF := (if_pos c12).symm.trans hF
    refine lv_aload_n hx hb d_RM_compareSizes_31 rfl (lv_at hl 0 rfl) ?_
    refine gf_RM_13 hx hb htb hown hK hP d_RM_compareSizes_32 ?_
    refine lv_iload_n hx hb d_RM_compareSizes_35 rfl (lv_at hl 1 rfl) ?_
    obtain ⟨b36, hF⟩ := ob_if hF
    refine rm_ald hx hb hK hP (k := 2) (by decide) (by decide) (ob_vi b36) d_RM_compareSizes_36 ?_
    refine lv_iconst (v := 1) hx hb d_RM_compareSizes_37 (by decide) ?_
    refine lv_icmp_ne hx hb d_RM_compareSizes_38 (tgt := 43) (by decide) (fun c38 => ?_) (fun c38 => ?_)
    · replace hF := (if_neg c38).symm.trans hF
      refine lv_aload_n hx hb d_RM_compareSizes_43 rfl (lv_at hl 0 rfl) ?_
      refine gf_RM_19 hx hb htb hown hK hP d_RM_compareSizes_44 ?_
      refine lv_iload_n hx hb d_RM_compareSizes_47 rfl (lv_at hl 1 rfl) ?_
      obtain ⟨b48, hF⟩ := ob_if hF
      refine rm_ald hx hb hK hP (k := 4) (by decide) (by decide) (ob_vi b48) d_RM_compareSizes_48 ?_
      refine lv_aload_n hx hb d_RM_compareSizes_49 rfl (lv_at hl 0 rfl) ?_
      refine gf_RM_19 hx hb htb hown hK hP d_RM_compareSizes_50 ?_
      refine lv_iload_n hx hb d_RM_compareSizes_53 rfl (lv_at hl 2 rfl) ?_
      obtain ⟨b54, hF⟩ := ob_if hF
      refine rm_ald hx hb hK hP (k := 4) (by decide) (by decide) (ob_vi b54) d_RM_compareSizes_54 ?_
      refine lv_icmp_eq hx hb d_RM_compareSizes_55 (tgt := 79) (by decide) (fun c55 => ?_) (fun c55 => ?_)
      · replace hF := (if_pos c55).symm.trans hF
        refine lv_iconst (v := 0) hx hb d_RM_compareSizes_79 (by decide) ?_
        refine lv_istore_n (lv' := [(3, .int (0 : Int32)), (0, .ref (a 0)), (1, .int p0), (2, .int p1)]) hx hb d_RM_compareSizes_80 rfl hl (by decide) rfl (fun ls hl => ?_)
        refine ct_loop1 (fun n (w81L3 : Int32) ls H locs => lv_has ls 6 [(3, .int w81L3), (0, .ref (a 0)), (1, .int p0), (2, .int p1)] ∧ RM_compareSizes_81 n p0 p1 w81L3 st = some r0 ∧ va_P D vwCl (rm_g a ci st) H ∧ va_S (ct_F (rm_X a) s.heap.size) s.heap H locs) 81 ?_ ?_ (2000) (0 : Int32) ⟨lv_sub hl [0, 1, 2, 3] rfl, hF, hP, hS⟩
        · intro w81L3 ls H locs hq
          obtain ⟨hl, hF, hP, hS⟩ := hq
          rw [RM_compareSizes_81] at hF
          cases hF
        · intro n81 ih81 w81L3 ls H locs hq
          obtain ⟨hl, hF, hP, hS⟩ := hq
          rw [RM_compareSizes_81] at hF
          refine lv_iload_n hx hb d_RM_compareSizes_81 rfl (lv_at hl 0 rfl) ?_
          refine lv_bipush (v := 93) hx hb d_RM_compareSizes_82 (by decide) ?_
          refine lv_icmp_ge hx hb d_RM_compareSizes_84 (tgt := 129) (by decide) (fun c84 => ?_) (fun c84 => ?_)
          · replace hF := (if_pos c84).symm.trans hF
            refine lv_iconst (v := 0) hx hb d_RM_compareSizes_129 (by decide) ?_
            replace hF := Option.some.inj hF
            subst hF
            exact ct_iret hx hb hr hlk hP hS d_RM_compareSizes_130
          · replace hF := (if_neg c84).symm.trans hF
            refine lv_aload_n hx hb d_RM_compareSizes_87 rfl (lv_at hl 1 rfl) ?_
            refine lv_iload_n hx hb d_RM_compareSizes_88 rfl (lv_at hl 2 rfl) ?_
            refine lv_iload_n hx hb d_RM_compareSizes_89 rfl (lv_at hl 0 rfl) ?_
            obtain ⟨r90, e90, hF⟩ := ob_one hF
            refine ct_calli (va_runV (As := [.int p0, .int w81L3]) (rest := []) ⟨hx, hb, hml, hown, hts⟩ (c_RM_bitOf l (D := D) a ci hi st p0 w81L3 _ e90 _) (kc_RM_111 hts ⟨by decide, by decide⟩) ⟨ct_blind, rm_rc hK hP, ct_ok hP hK hN⟩ rfl rfl hl.1 rfl (lv_room (Nat.le_of_ble_eq_true rfl)) d_RM_compareSizes_90 ⟨Nat.zero_le _, Nat.zero_le _⟩) hS (fun H locs hP hS => ?_)
            refine lv_istore (lv' := [(4, .int r90), (3, .int w81L3), (0, .ref (a 0)), (1, .int p0), (2, .int p1)]) hx hb d_RM_compareSizes_93 hl (by decide) rfl (fun ls hl => ?_)
            refine lv_aload_n hx hb d_RM_compareSizes_95 rfl (lv_at hl 2 rfl) ?_
            refine lv_iload_n hx hb d_RM_compareSizes_96 rfl (lv_at hl 4 rfl) ?_
            refine lv_iload_n hx hb d_RM_compareSizes_97 rfl (lv_at hl 1 rfl) ?_
            obtain ⟨r98, e98, hF⟩ := ob_one hF
            refine ct_calli (va_runV (As := [.int p1, .int w81L3]) (rest := []) ⟨hx, hb, hml, hown, hts⟩ (c_RM_bitOf l (D := D) a ci hi st p1 w81L3 _ e98 _) (kc_RM_111 hts ⟨by decide, by decide⟩) ⟨ct_blind, rm_rc hK hP, ct_ok hP hK hN⟩ rfl rfl hl.1 rfl (lv_room (Nat.le_of_ble_eq_true rfl)) d_RM_compareSizes_98 ⟨Nat.zero_le _, Nat.zero_le _⟩) hS (fun H locs hP hS => ?_)
            refine lv_istore (lv' := [(5, .int r98), (4, .int r90), (3, .int w81L3), (0, .ref (a 0)), (1, .int p0), (2, .int p1)]) hx hb d_RM_compareSizes_101 hl (by decide) rfl (fun ls hl => ?_)
            refine lv_iload hx hb d_RM_compareSizes_103 (lv_at hl 1 rfl) ?_
            refine lv_iload hx hb d_RM_compareSizes_105 (lv_at hl 0 rfl) ?_
            refine lv_icmp_eq hx hb d_RM_compareSizes_107 (tgt := 123) (by decide) (fun c107 => ?_) (fun c107 => ?_)
            · replace hF := (if_pos c107).symm.trans hF
              obtain ⟨x123, e123⟩ := nm_ex (w81L3 + (1 : Int32))
              replace hF := (nm_eq e123).symm.trans hF
              refine lv_iinc (v := x123) (lv' := [(3, .int x123), (5, .int r98), (4, .int r90), (0, .ref (a 0)), (1, .int p0), (2, .int p1)]) hx hb d_RM_compareSizes_123 hl (k := 2) rfl e123 (by decide) rfl (fun ls hl => ?_)
              refine lv_goto hx hb d_RM_compareSizes_126 (tgt := 81) (by decide) ?_
              exact ih81 x123 _ _ _ ⟨lv_sub hl [0, 3, 4, 5] rfl, hF, hP, hS⟩
            · replace hF := (if_neg c107).symm.trans hF
              refine lv_iload hx hb d_RM_compareSizes_110 (lv_at hl 1 rfl) ?_
              refine lv_iload hx hb d_RM_compareSizes_112 (lv_at hl 0 rfl) ?_
              refine lv_icmp_le hx hb d_RM_compareSizes_114 (tgt := 121) (by decide) (fun c114 => ?_) (fun c114 => ?_)
              · replace hF := (if_pos c114).symm.trans hF
                refine lv_iconst (v := -1) hx hb d_RM_compareSizes_121 (by decide) ?_
                replace hF := Option.some.inj hF
                subst hF
                exact ct_iret hx hb hr hlk hP hS d_RM_compareSizes_122
              · replace hF := (if_neg c114).symm.trans hF
                refine lv_iconst (v := 1) hx hb d_RM_compareSizes_117 (by decide) ?_
                refine lv_goto hx hb d_RM_compareSizes_118 (tgt := 122) (by decide) ?_
                replace hF := Option.some.inj hF
                subst hF
                exact ct_iret hx hb hr hlk hP hS d_RM_compareSizes_122
      · replace hF := (if_neg c55).symm.trans hF
        refine lv_aload_n hx hb d_RM_compareSizes_58 rfl (lv_at hl 0 rfl) ?_
        refine gf_RM_19 hx hb htb hown hK hP d_RM_compareSizes_59 ?_
        refine lv_iload_n hx hb d_RM_compareSizes_62 rfl (lv_at hl 1 rfl) ?_
        obtain ⟨b63, hF⟩ := ob_if hF
        refine rm_ald hx hb hK hP (k := 4) (by decide) (by decide) (ob_vi b63) d_RM_compareSizes_63 ?_
        refine lv_aload_n hx hb d_RM_compareSizes_64 rfl (lv_at hl 0 rfl) ?_
        refine gf_RM_19 hx hb htb hown hK hP d_RM_compareSizes_65 ?_
        refine lv_iload_n hx hb d_RM_compareSizes_68 rfl (lv_at hl 2 rfl) ?_
        obtain ⟨b69, hF⟩ := ob_if hF
        refine rm_ald hx hb hK hP (k := 4) (by decide) (by decide) (ob_vi b69) d_RM_compareSizes_69 ?_
        refine lv_icmp_le hx hb d_RM_compareSizes_70 (tgt := 77) (by decide) (fun c70 => ?_) (fun c70 => ?_)
        · replace hF := (if_pos c70).symm.trans hF
          refine lv_iconst (v := -1) hx hb d_RM_compareSizes_77 (by decide) ?_
          replace hF := Option.some.inj hF
          subst hF
          exact ct_iret hx hb hr hlk hP hS d_RM_compareSizes_78
        · replace hF := (if_neg c70).symm.trans hF
          refine lv_iconst (v := 1) hx hb d_RM_compareSizes_73 (by decide) ?_
          refine lv_goto hx hb d_RM_compareSizes_74 (tgt := 78) (by decide) ?_
          replace hF := Option.some.inj hF
          subst hF
          exact ct_iret hx hb hr hlk hP hS d_RM_compareSizes_78
    · replace hF := (if_pos c38).symm.trans hF
      refine lv_iconst (v := 0) hx hb d_RM_compareSizes_41 (by decide) ?_
      replace hF := Option.some.inj hF
      subst hF
      exact ct_iret hx hb hr hlk hP hS d_RM_compareSizes_42
  · replace hF := (if_neg c12).symm.trans hF
    refine lv_aload_n hx hb d_RM_compareSizes_15 rfl (lv_at hl 0 rfl) ?_
    refine gf_RM_13 hx hb htb hown hK hP d_RM_compareSizes_16 ?_
    refine lv_iload_n hx hb d_RM_compareSizes_19 rfl (lv_at hl 1 rfl) ?_
    obtain ⟨b20, hF⟩ := ob_if hF
    refine rm_ald hx hb hK hP (k := 2) (by decide) (by decide) (ob_vi b20) d_RM_compareSizes_20 ?_
    refine lv_iconst (v := 1) hx hb d_RM_compareSizes_21 (by decide) ?_
    refine lv_icmp_ne hx hb d_RM_compareSizes_22 (tgt := 29) (by decide) (fun c22 => ?_) (fun c22 => ?_)
    · replace hF := (if_neg c22).symm.trans hF
      refine lv_iconst (v := -1) hx hb d_RM_compareSizes_29 (by decide) ?_
      replace hF := Option.some.inj hF
      subst hF
      exact ct_iret hx hb hr hlk hP hS d_RM_compareSizes_30
    · replace hF := (if_pos c22).symm.trans hF
      refine lv_iconst (v := 1) hx hb d_RM_compareSizes_25 (by decide) ?_
      refine lv_goto hx hb d_RM_compareSizes_26 (tgt := 30) (by decide) ?_
      replace hF := Option.some.inj hF
      subst hF
      exact ct_iret hx hb hr hlk hP hS d_RM_compareSizes_30
