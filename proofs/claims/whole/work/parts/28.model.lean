theorem d_RM_cmp_0 : decode prog_6_method_42_code 0 = .ok (.iload_n 1, 1) := by decide +kernel
theorem d_RM_cmp_1 : decode prog_6_method_42_code 1 = .ok (.invokestatic 40, 3) := by decide +kernel
theorem d_RM_cmp_4 : decode prog_6_method_42_code 4 = .ok (.ifCond .eq 28, 3) := by decide +kernel
theorem d_RM_cmp_7 : decode prog_6_method_42_code 7 = .ok (.iload_n 2, 1) := by decide +kernel
theorem d_RM_cmp_8 : decode prog_6_method_42_code 8 = .ok (.invokestatic 40, 3) := by decide +kernel
theorem d_RM_cmp_11 : decode prog_6_method_42_code 11 = .ok (.ifCond .eq 21, 3) := by decide +kernel
theorem d_RM_cmp_14 : decode prog_6_method_42_code 14 = .ok (.aload_n 0, 1) := by decide +kernel
theorem d_RM_cmp_15 : decode prog_6_method_42_code 15 = .ok (.getfield 13, 3) := by decide +kernel
theorem d_RM_cmp_18 : decode prog_6_method_42_code 18 = .ok (.iload_n 1, 1) := by decide +kernel
theorem d_RM_cmp_19 : decode prog_6_method_42_code 19 = .ok (.iaload, 1) := by decide +kernel
theorem d_RM_cmp_20 : decode prog_6_method_42_code 20 = .ok (.ifCond .eq 12, 3) := by decide +kernel
theorem d_RM_cmp_23 : decode prog_6_method_42_code 23 = .ok (.aload_n 0, 1) := by decide +kernel
theorem d_RM_cmp_24 : decode prog_6_method_42_code 24 = .ok (.getfield 13, 3) := by decide +kernel
theorem d_RM_cmp_27 : decode prog_6_method_42_code 27 = .ok (.iload_n 2, 1) := by decide +kernel
theorem d_RM_cmp_28 : decode prog_6_method_42_code 28 = .ok (.iaload, 1) := by decide +kernel
theorem d_RM_cmp_29 : decode prog_6_method_42_code 29 = .ok (.ifCond .ne 5, 3) := by decide +kernel
theorem d_RM_cmp_32 : decode prog_6_method_42_code 32 = .ok (.iconst 2, 1) := by decide +kernel
theorem d_RM_cmp_33 : decode prog_6_method_42_code 33 = .ok (.ireturn, 1) := by decide +kernel
theorem d_RM_cmp_34 : decode prog_6_method_42_code 34 = .ok (.aload_n 0, 1) := by decide +kernel
theorem d_RM_cmp_35 : decode prog_6_method_42_code 35 = .ok (.getfield 13, 3) := by decide +kernel
theorem d_RM_cmp_38 : decode prog_6_method_42_code 38 = .ok (.iload_n 1, 1) := by decide +kernel
theorem d_RM_cmp_39 : decode prog_6_method_42_code 39 = .ok (.iaload, 1) := by decide +kernel
theorem d_RM_cmp_40 : decode prog_6_method_42_code 40 = .ok (.iconst 2, 1) := by decide +kernel
theorem d_RM_cmp_41 : decode prog_6_method_42_code 41 = .ok (.if_icmp .ne 7, 3) := by decide +kernel
theorem d_RM_cmp_44 : decode prog_6_method_42_code 44 = .ok (.iconst 0, 1) := by decide +kernel
theorem d_RM_cmp_45 : decode prog_6_method_42_code 45 = .ok (.goto 9, 3) := by decide +kernel
theorem d_RM_cmp_48 : decode prog_6_method_42_code 48 = .ok (.aload_n 0, 1) := by decide +kernel
theorem d_RM_cmp_49 : decode prog_6_method_42_code 49 = .ok (.getfield 16, 3) := by decide +kernel
theorem d_RM_cmp_52 : decode prog_6_method_42_code 52 = .ok (.iload_n 1, 1) := by decide +kernel
theorem d_RM_cmp_53 : decode prog_6_method_42_code 53 = .ok (.iaload, 1) := by decide +kernel
theorem d_RM_cmp_54 : decode prog_6_method_42_code 54 = .ok (.istore_n 3, 1) := by decide +kernel
theorem d_RM_cmp_55 : decode prog_6_method_42_code 55 = .ok (.aload_n 0, 1) := by decide +kernel
theorem d_RM_cmp_56 : decode prog_6_method_42_code 56 = .ok (.getfield 13, 3) := by decide +kernel
theorem d_RM_cmp_59 : decode prog_6_method_42_code 59 = .ok (.iload_n 2, 1) := by decide +kernel
theorem d_RM_cmp_60 : decode prog_6_method_42_code 60 = .ok (.iaload, 1) := by decide +kernel
theorem d_RM_cmp_61 : decode prog_6_method_42_code 61 = .ok (.iconst 2, 1) := by decide +kernel
theorem d_RM_cmp_62 : decode prog_6_method_42_code 62 = .ok (.if_icmp .ne 7, 3) := by decide +kernel
theorem d_RM_cmp_65 : decode prog_6_method_42_code 65 = .ok (.iconst 0, 1) := by decide +kernel
theorem d_RM_cmp_66 : decode prog_6_method_42_code 66 = .ok (.goto 9, 3) := by decide +kernel
theorem d_RM_cmp_69 : decode prog_6_method_42_code 69 = .ok (.aload_n 0, 1) := by decide +kernel
theorem d_RM_cmp_70 : decode prog_6_method_42_code 70 = .ok (.getfield 16, 3) := by decide +kernel
theorem d_RM_cmp_73 : decode prog_6_method_42_code 73 = .ok (.iload_n 2, 1) := by decide +kernel
theorem d_RM_cmp_74 : decode prog_6_method_42_code 74 = .ok (.iaload, 1) := by decide +kernel
theorem d_RM_cmp_75 : decode prog_6_method_42_code 75 = .ok (.istore 4, 2) := by decide +kernel
theorem d_RM_cmp_77 : decode prog_6_method_42_code 77 = .ok (.iload_n 3, 1) := by decide +kernel
theorem d_RM_cmp_78 : decode prog_6_method_42_code 78 = .ok (.iload 4, 2) := by decide +kernel
theorem d_RM_cmp_80 : decode prog_6_method_42_code 80 = .ok (.if_icmp .eq 15, 3) := by decide +kernel
theorem d_RM_cmp_83 : decode prog_6_method_42_code 83 = .ok (.iload_n 3, 1) := by decide +kernel
theorem d_RM_cmp_84 : decode prog_6_method_42_code 84 = .ok (.iload 4, 2) := by decide +kernel
theorem d_RM_cmp_86 : decode prog_6_method_42_code 86 = .ok (.if_icmp .le 7, 3) := by decide +kernel
theorem d_RM_cmp_89 : decode prog_6_method_42_code 89 = .ok (.iconst 1, 1) := by decide +kernel
theorem d_RM_cmp_90 : decode prog_6_method_42_code 90 = .ok (.goto 4, 3) := by decide +kernel
theorem d_RM_cmp_93 : decode prog_6_method_42_code 93 = .ok (.iconst (-1), 1) := by decide +kernel
theorem d_RM_cmp_94 : decode prog_6_method_42_code 94 = .ok (.ireturn, 1) := by decide +kernel
theorem d_RM_cmp_95 : decode prog_6_method_42_code 95 = .ok (.iload_n 3, 1) := by decide +kernel
theorem d_RM_cmp_96 : decode prog_6_method_42_code 96 = .ok (.ifCond .ne 7, 3) := by decide +kernel
theorem d_RM_cmp_99 : decode prog_6_method_42_code 99 = .ok (.iconst 0, 1) := by decide +kernel
theorem d_RM_cmp_100 : decode prog_6_method_42_code 100 = .ok (.goto 11, 3) := by decide +kernel
theorem d_RM_cmp_103 : decode prog_6_method_42_code 103 = .ok (.iload_n 3, 1) := by decide +kernel
theorem d_RM_cmp_104 : decode prog_6_method_42_code 104 = .ok (.aload_n 0, 1) := by decide +kernel
theorem d_RM_cmp_105 : decode prog_6_method_42_code 105 = .ok (.iload_n 1, 1) := by decide +kernel
theorem d_RM_cmp_106 : decode prog_6_method_42_code 106 = .ok (.iload_n 2, 1) := by decide +kernel
theorem d_RM_cmp_107 : decode prog_6_method_42_code 107 = .ok (.invokevirtual 139, 3) := by decide +kernel
theorem d_RM_cmp_110 : decode prog_6_method_42_code 110 = .ok (.imul, 1) := by decide +kernel
theorem d_RM_cmp_111 : decode prog_6_method_42_code 111 = .ok (.ireturn, 1) := by decide +kernel
def RM_cmp_75 (L1 : Int32) (L2 : Int32) (L3 : Int32) (s0 : Int32) (st : rm_S) : Option (Int32) := (if L3 = s0 then (if L3 = 0 then some (0 : Int32) else ob1 (RM_compareSizes st L1 L2) (fun r107 => some (L3 * r107))) else (if L3 ≤ s0 then some (-1 : Int32) else some (1 : Int32)))
def RM_cmp_54 (L1 : Int32) (L2 : Int32) (s0 : Int32) (st : rm_S) : Option (Int32) := (if ob_in L2 8 = true then (if (st 2 L2.toNatClampNeg) = (2 : Int32) then RM_cmp_75 L1 L2 s0 (0 : Int32) st else (if ob_in L2 8 = true then RM_cmp_75 L1 L2 s0 (st 3 L2.toNatClampNeg) st else none)) else none)
def RM_cmp (st : rm_S) (p0 : Int32) (p1 : Int32) : Option (Int32) := nm (RM_isRegister p0) (fun r1 => (if r1 = 0 then some (2 : Int32) else nm (RM_isRegister p1) (fun r8 => (if r8 = 0 then some (2 : Int32) else (if ob_in p0 8 = true then (if (st 2 p0.toNatClampNeg) = 0 then some (2 : Int32) else (if ob_in p1 8 = true then (if (st 2 p1.toNatClampNeg) = 0 then some (2 : Int32) else (if ob_in p0 8 = true then (if (st 2 p0.toNatClampNeg) = (2 : Int32) then RM_cmp_54 p0 p1 (0 : Int32) st else (if ob_in p0 8 = true then RM_cmp_54 p0 p1 (st 3 p0.toNatClampNeg) st else none)) else none)) else none)) else none)))))
set_option maxHeartbeats 4000000 in
set_option maxRecDepth 100000 in
theorem c_RM_cmp (l : Launch) {D : va_G} (a : Nat → Nat) (ci : ClassId) (hi : rm_inj a) (st : rm_S) (p0 : Int32) (p1 : Int32) (r0 : Int32) (hF : RM_cmp st p0 p1 = some r0) : ct_i l ⟨"RoundedNumbersModel", "cmp", "(II)I"⟩ (.code ⟨"RoundedNumbersModel", "cmp", "(II)I"⟩ prog_6_method_42_code 5 (some .int) :: ct_T) { frames := 2, cells := 0, slots := 0, locals := 47 } D vwCl (rm_T ci) (rm_g a ci) (rm_X a) [.ref (a 0), .int p0, .int p1] st r0 st := by
  refine ct_i.mk (cc := prog_6_method_42_code) (maxL := 5) (by decide) rfl (Nat.le_of_ble_eq_true rfl) ?_
  intro p e s m below meth c hx hb hr hml hown hts hlk hK hN hP hS ls hl
  have hown : s.vm.findClass "RoundedNumbersModel" = some m.cls := hown
  have hl : lv_has ls 5 [(0, .ref (a 0)), (1, .int p0), (2, .int p1)] := hl
  have htb := fun w h => hts w (List.mem_cons_of_mem _ h)
  unfold RM_cmp at hF
  refine lv_iload_n hx hb d_RM_cmp_0 rfl (lv_at hl 1 rfl) ?_
  obtain ⟨r1, e1⟩ := nm_ex (RM_isRegister p0)
  replace hF := (nm_eq e1).symm.trans hF
  refine ct_calli (va_runS (As := [.int p0]) (rest := []) ⟨hx, hb, hml, hown, hts⟩ (c_RM_isRegister l (D := D) a ci hi st p0 _ e1 _) (kc_RM_40 hts ⟨by decide, by decide⟩) ⟨ct_blind, ct_ok hP hK hN⟩ rfl rfl hl.1 rfl (lv_room (Nat.le_of_ble_eq_true rfl)) d_RM_cmp_1 ⟨Nat.zero_le _, Nat.zero_le _⟩) hS (fun H locs hP hS => ?_)
  refine lv_if_eq hx hb d_RM_cmp_4 (tgt := 32) (by decide) (fun c4 => ?_) (fun c4 => ?_)
  · replace hF := (if_pos c4).symm.trans hF
    refine lv_iconst (v := 2) hx hb d_RM_cmp_32 (by decide) ?_
    replace hF := Option.some.inj hF
    subst hF
    exact ct_iret hx hb hr hlk hP hS d_RM_cmp_33
  · replace hF := (if_neg c4).symm.trans hF
    refine lv_iload_n hx hb d_RM_cmp_7 rfl (lv_at hl 2 rfl) ?_
    obtain ⟨r8, e8⟩ := nm_ex (RM_isRegister p1)
    replace hF := (nm_eq e8).symm.trans hF
    refine ct_calli (va_runS (As := [.int p1]) (rest := []) ⟨hx, hb, hml, hown, hts⟩ (c_RM_isRegister l (D := D) a ci hi st p1 _ e8 _) (kc_RM_40 hts ⟨by decide, by decide⟩) ⟨ct_blind, ct_ok hP hK hN⟩ rfl rfl hl.1 rfl (lv_room (Nat.le_of_ble_eq_true rfl)) d_RM_cmp_8 ⟨Nat.zero_le _, Nat.zero_le _⟩) hS (fun H locs hP hS => ?_)
    refine lv_if_eq hx hb d_RM_cmp_11 (tgt := 32) (by decide) (fun c11 => ?_) (fun c11 => ?_)
    · replace hF := (if_pos c11).symm.trans hF
      refine lv_iconst (v := 2) hx hb d_RM_cmp_32 (by decide) ?_
      replace hF := Option.some.inj hF
      subst hF
      exact ct_iret hx hb hr hlk hP hS d_RM_cmp_33
    · replace hF := (if_neg c11).symm.trans hF
      refine lv_aload_n hx hb d_RM_cmp_14 rfl (lv_at hl 0 rfl) ?_
      refine gf_RM_13 hx hb htb hown hK hP d_RM_cmp_15 ?_
      refine lv_iload_n hx hb d_RM_cmp_18 rfl (lv_at hl 1 rfl) ?_
      obtain ⟨b19, hF⟩ := ob_if hF
      refine rm_ald hx hb hK hP (k := 2) (by decide) (by decide) (ob_vi b19) d_RM_cmp_19 ?_
      refine lv_if_eq hx hb d_RM_cmp_20 (tgt := 32) (by decide) (fun c20 => ?_) (fun c20 => ?_)
      · replace hF := (if_pos c20).symm.trans hF
        refine lv_iconst (v := 2) hx hb d_RM_cmp_32 (by decide) ?_
        replace hF := Option.some.inj hF
        subst hF
        exact ct_iret hx hb hr hlk hP hS d_RM_cmp_33
      · replace hF := (if_neg c20).symm.trans hF
        refine lv_aload_n hx hb d_RM_cmp_23 rfl (lv_at hl 0 rfl) ?_
        refine gf_RM_13 hx hb htb hown hK hP d_RM_cmp_24 ?_
        refine lv_iload_n hx hb d_RM_cmp_27 rfl (lv_at hl 2 rfl) ?_
        obtain ⟨b28, hF⟩ := ob_if hF
        refine rm_ald hx hb hK hP (k := 2) (by decide) (by decide) (ob_vi b28) d_RM_cmp_28 ?_
        refine lv_if_ne hx hb d_RM_cmp_29 (tgt := 34) (by decide) (fun c29 => ?_) (fun c29 => ?_)
        · replace hF := (if_neg c29).symm.trans hF
          refine lv_aload_n hx hb d_RM_cmp_34 rfl (lv_at hl 0 rfl) ?_
          refine gf_RM_13 hx hb htb hown hK hP d_RM_cmp_35 ?_
          refine lv_iload_n hx hb d_RM_cmp_38 rfl (lv_at hl 1 rfl) ?_
          obtain ⟨b39, hF⟩ := ob_if hF
          refine rm_ald hx hb hK hP (k := 2) (by decide) (by decide) (ob_vi b39) d_RM_cmp_39 ?_
          refine lv_iconst (v := 2) hx hb d_RM_cmp_40 (by decide) ?_
          refine ct_cut1 (fun (j54s0 : Int32) ls H locs => lv_has ls 5 [(0, .ref (a 0)), (1, .int p0), (2, .int p1)] ∧ RM_cmp_54 p0 p1 j54s0 st = some r0 ∧ va_P D vwCl (rm_g a ci st) H ∧ va_S (ct_F (rm_X a) s.heap.size) s.heap H locs) 54 (fun j54s0 => [.int j54s0]) ?_ ?_
          · intro j54s0 ls H locs hq
            obtain ⟨hl, hF, hP, hS⟩ := hq
            unfold RM_cmp_54 at hF
            refine lv_istore_n (lv' := [(3, .int j54s0), (0, .ref (a 0)), (1, .int p0), (2, .int p1)]) hx hb d_RM_cmp_54 rfl hl (by decide) rfl (fun ls hl => ?_)
            refine lv_aload_n hx hb d_RM_cmp_55 rfl (lv_at hl 1 rfl) ?_
            refine gf_RM_13 hx hb htb hown hK hP d_RM_cmp_56 ?_
            refine lv_iload_n hx hb d_RM_cmp_59 rfl (lv_at hl 3 rfl) ?_
            obtain ⟨b60, hF⟩ := ob_if hF
            refine rm_ald hx hb hK hP (k := 2) (by decide) (by decide) (ob_vi b60) d_RM_cmp_60 ?_
            refine lv_iconst (v := 2) hx hb d_RM_cmp_61 (by decide) ?_
            refine ct_cut1 (fun (j75s0 : Int32) ls H locs => lv_has ls 5 [(3, .int j54s0), (0, .ref (a 0)), (1, .int p0), (2, .int p1)] ∧ RM_cmp_75 p0 p1 j54s0 j75s0 st = some r0 ∧ va_P D vwCl (rm_g a ci st) H ∧ va_S (ct_F (rm_X a) s.heap.size) s.heap H locs) 75 (fun j75s0 => [.int j75s0]) ?_ ?_
            · intro j75s0 ls H locs hq
              obtain ⟨hl, hF, hP, hS⟩ := hq
              unfold RM_cmp_75 at hF
              refine lv_istore (lv' := [(4, .int j75s0), (3, .int j54s0), (0, .ref (a 0)), (1, .int p0), (2, .int p1)]) hx hb d_RM_cmp_75 hl (by decide) rfl (fun ls hl => ?_)
              refine lv_iload_n hx hb d_RM_cmp_77 rfl (lv_at hl 1 rfl) ?_
              refine lv_iload hx hb d_RM_cmp_78 (lv_at hl 0 rfl) ?_
              refine lv_icmp_eq hx hb d_RM_cmp_80 (tgt := 95) (by decide) (fun c80 => ?_) (fun c80 => ?_)
              · replace hF := (if_pos c80).symm.trans hF
                refine lv_iload_n hx hb d_RM_cmp_95 rfl (lv_at hl 1 rfl) ?_
                refine lv_if_ne hx hb d_RM_cmp_96 (tgt := 103) (by decide) (fun c96 => ?_) (fun c96 => ?_)
                · replace hF := (if_neg c96).symm.trans hF
                  refine lv_iload_n hx hb d_RM_cmp_103 rfl (lv_at hl 1 rfl) ?_
                  refine lv_aload_n hx hb d_RM_cmp_104 rfl (lv_at hl 2 rfl) ?_
                  refine lv_iload_n hx hb d_RM_cmp_105 rfl (lv_at hl 3 rfl) ?_
                  refine lv_iload_n hx hb d_RM_cmp_106 rfl (lv_at hl 4 rfl) ?_
                  obtain ⟨r107, e107, hF⟩ := ob_one hF
                  refine ct_calli (va_runV (As := [.int p0, .int p1]) (rest := [.int j54s0]) ⟨hx, hb, hml, hown, hts⟩ (c_RM_compareSizes l (D := D) a ci hi st p0 p1 _ e107 _) (kc_RM_139 hts ⟨by decide, by decide⟩) ⟨ct_blind, rm_rc hK hP, ct_ok hP hK hN⟩ rfl rfl hl.1 rfl (lv_room (Nat.le_of_ble_eq_true rfl)) d_RM_cmp_107 ⟨Nat.zero_le _, Nat.zero_le _⟩) hS (fun H locs hP hS => ?_)
                  refine lv_imul hx hb d_RM_cmp_110 ?_
                  replace hF := Option.some.inj hF
                  subst hF
                  exact ct_iret hx hb hr hlk hP hS d_RM_cmp_111
                · replace hF := (if_pos c96).symm.trans hF
                  refine lv_iconst (v := 0) hx hb d_RM_cmp_99 (by decide) ?_
                  refine lv_goto hx hb d_RM_cmp_100 (tgt := 111) (by decide) ?_
                  replace hF := Option.some.inj hF
                  subst hF
                  exact ct_iret hx hb hr hlk hP hS d_RM_cmp_111
              · replace hF := (if_neg c80).symm.trans hF
                refine lv_iload_n hx hb d_RM_cmp_83 rfl (lv_at hl 1 rfl) ?_
                refine lv_iload hx hb d_RM_cmp_84 (lv_at hl 0 rfl) ?_
                refine lv_icmp_le hx hb d_RM_cmp_86 (tgt := 93) (by decide) (fun c86 => ?_) (fun c86 => ?_)
                · replace hF := (if_pos c86).symm.trans hF
                  refine lv_iconst (v := -1) hx hb d_RM_cmp_93 (by decide) ?_
                  replace hF := Option.some.inj hF
                  subst hF
                  exact ct_iret hx hb hr hlk hP hS d_RM_cmp_94
                · replace hF := (if_neg c86).symm.trans hF
                  refine lv_iconst (v := 1) hx hb d_RM_cmp_89 (by decide) ?_
                  refine lv_goto hx hb d_RM_cmp_90 (tgt := 94) (by decide) ?_
                  replace hF := Option.some.inj hF
                  subst hF
                  exact ct_iret hx hb hr hlk hP hS d_RM_cmp_94
            · intro kj75
              refine lv_icmp_ne hx hb d_RM_cmp_62 (tgt := 69) (by decide) (fun c62 => ?_) (fun c62 => ?_)
              · replace hF := (if_neg c62).symm.trans hF
                refine lv_aload_n hx hb d_RM_cmp_69 rfl (lv_at hl 1 rfl) ?_
                refine gf_RM_16 hx hb htb hown hK hP d_RM_cmp_70 ?_
                refine lv_iload_n hx hb d_RM_cmp_73 rfl (lv_at hl 3 rfl) ?_
                obtain ⟨b74, hF⟩ := ob_if hF
                refine rm_ald hx hb hK hP (k := 3) (by decide) (by decide) (ob_vi b74) d_RM_cmp_74 ?_
                exact kj75 (st 3 p1.toNatClampNeg) _ _ _ ⟨lv_sub hl [0, 1, 2, 3] rfl, hF, hP, hS⟩
              · replace hF := (if_pos c62).symm.trans hF
                refine lv_iconst (v := 0) hx hb d_RM_cmp_65 (by decide) ?_
                refine lv_goto hx hb d_RM_cmp_66 (tgt := 75) (by decide) ?_
                exact kj75 (0 : Int32) _ _ _ ⟨lv_sub hl [0, 1, 2, 3] rfl, hF, hP, hS⟩
          · intro kj54
            refine lv_icmp_ne hx hb d_RM_cmp_41 (tgt := 48) (by decide) (fun c41 => ?_) (fun c41 => ?_)
            · replace hF := (if_neg c41).symm.trans hF
              refine lv_aload_n hx hb d_RM_cmp_48 rfl (lv_at hl 0 rfl) ?_
              refine gf_RM_16 hx hb htb hown hK hP d_RM_cmp_49 ?_
              refine lv_iload_n hx hb d_RM_cmp_52 rfl (lv_at hl 1 rfl) ?_
              obtain ⟨b53, hF⟩ := ob_if hF
              refine rm_ald hx hb hK hP (k := 3) (by decide) (by decide) (ob_vi b53) d_RM_cmp_53 ?_
              exact kj54 (st 3 p0.toNatClampNeg) _ _ _ ⟨lv_sub hl [0, 1, 2] rfl, hF, hP, hS⟩
            · replace hF := (if_pos c41).symm.trans hF
              refine lv_iconst (v := 0) hx hb d_RM_cmp_44 (by decide) ?_
              refine lv_goto hx hb d_RM_cmp_45 (tgt := 54) (by decide) ?_
              exact kj54 (0 : Int32) _ _ _ ⟨lv_sub hl [0, 1, 2] rfl, hF, hP, hS⟩
        · replace hF := (if_pos c29).symm.trans hF
          refine lv_iconst (v := 2) hx hb d_RM_cmp_32 (by decide) ?_
          replace hF := Option.some.inj hF
          subst hF
          exact ct_iret hx hb hr hlk hP hS d_RM_cmp_33
theorem d_RM_kindOf_0 : decode prog_6_method_43_code 0 = .ok (.iload_n 1, 1) := by decide +kernel
theorem d_RM_kindOf_1 : decode prog_6_method_43_code 1 = .ok (.invokestatic 40, 3) := by decide +kernel
theorem d_RM_kindOf_4 : decode prog_6_method_43_code 4 = .ok (.ifCond .eq 12, 3) := by decide +kernel
theorem d_RM_kindOf_7 : decode prog_6_method_43_code 7 = .ok (.aload_n 0, 1) := by decide +kernel
theorem d_RM_kindOf_8 : decode prog_6_method_43_code 8 = .ok (.getfield 13, 3) := by decide +kernel
theorem d_RM_kindOf_11 : decode prog_6_method_43_code 11 = .ok (.iload_n 1, 1) := by decide +kernel
theorem d_RM_kindOf_12 : decode prog_6_method_43_code 12 = .ok (.iaload, 1) := by decide +kernel
theorem d_RM_kindOf_13 : decode prog_6_method_43_code 13 = .ok (.goto 4, 3) := by decide +kernel
theorem d_RM_kindOf_16 : decode prog_6_method_43_code 16 = .ok (.iconst (-1), 1) := by decide +kernel
theorem d_RM_kindOf_17 : decode prog_6_method_43_code 17 = .ok (.ireturn, 1) := by decide +kernel
def RM_kindOf (st : rm_S) (p0 : Int32) : Option (Int32) := nm (RM_isRegister p0) (fun r1 => (if r1 = 0 then some (-1 : Int32) else (if ob_in p0 8 = true then some (st 2 p0.toNatClampNeg) else none)))
set_option maxHeartbeats 4000000 in
set_option maxRecDepth 100000 in
theorem c_RM_kindOf (l : Launch) {D : va_G} (a : Nat → Nat) (ci : ClassId) (hi : rm_inj a) (st : rm_S) (p0 : Int32) (r0 : Int32) (hF : RM_kindOf st p0 = some r0) : ct_i l ⟨"RoundedNumbersModel", "kindOf", "(I)I"⟩ (.code ⟨"RoundedNumbersModel", "kindOf", "(I)I"⟩ prog_6_method_43_code 2 (some .int) :: ct_T) { frames := 1, cells := 0, slots := 0, locals := 20 } D vwCl (rm_T ci) (rm_g a ci) (rm_X a) [.ref (a 0), .int p0] st r0 st := by
  refine ct_i.mk (cc := prog_6_method_43_code) (maxL := 2) (by decide) rfl (Nat.le_of_ble_eq_true rfl) ?_
  intro p e s m below meth c hx hb hr hml hown hts hlk hK hN hP hS ls hl
  have hown : s.vm.findClass "RoundedNumbersModel" = some m.cls := hown
  have hl : lv_has ls 2 [(0, .ref (a 0)), (1, .int p0)] := hl
  have htb := fun w h => hts w (List.mem_cons_of_mem _ h)
  unfold RM_kindOf at hF
  refine lv_iload_n hx hb d_RM_kindOf_0 rfl (lv_at hl 1 rfl) ?_
  obtain ⟨r1, e1⟩ := nm_ex (RM_isRegister p0)
  replace hF := (nm_eq e1).symm.trans hF
  refine ct_calli (va_runS (As := [.int p0]) (rest := []) ⟨hx, hb, hml, hown, hts⟩ (c_RM_isRegister l (D := D) a ci hi st p0 _ e1 _) (kc_RM_40 hts ⟨by decide, by decide⟩) ⟨ct_blind, ct_ok hP hK hN⟩ rfl rfl hl.1 rfl (lv_room (Nat.le_of_ble_eq_true rfl)) d_RM_kindOf_1 ⟨Nat.zero_le _, Nat.zero_le _⟩) hS (fun H locs hP hS => ?_)
  refine lv_if_eq hx hb d_RM_kindOf_4 (tgt := 16) (by decide) (fun c4 => ?_) (fun c4 => ?_)
  · replace hF := (if_pos c4).symm.trans hF
    refine lv_iconst (v := -1) hx hb d_RM_kindOf_16 (by decide) ?_
    replace hF := Option.some.inj hF
    subst hF
    exact ct_iret hx hb hr hlk hP hS d_RM_kindOf_17
  · replace hF := (if_neg c4).symm.trans hF
    refine lv_aload_n hx hb d_RM_kindOf_7 rfl (lv_at hl 0 rfl) ?_
    refine gf_RM_13 hx hb htb hown hK hP d_RM_kindOf_8 ?_
    refine lv_iload_n hx hb d_RM_kindOf_11 rfl (lv_at hl 1 rfl) ?_
    obtain ⟨b12, hF⟩ := ob_if hF
    refine rm_ald hx hb hK hP (k := 2) (by decide) (by decide) (ob_vi b12) d_RM_kindOf_12 ?_
    refine lv_goto hx hb d_RM_kindOf_13 (tgt := 17) (by decide) ?_
    replace hF := Option.some.inj hF
    subst hF
    exact ct_iret hx hb hr hlk hP hS d_RM_kindOf_17
theorem d_RM_signOf_0 : decode prog_6_method_44_code 0 = .ok (.iload_n 1, 1) := by decide +kernel
theorem d_RM_signOf_1 : decode prog_6_method_44_code 1 = .ok (.invokestatic 40, 3) := by decide +kernel
theorem d_RM_signOf_4 : decode prog_6_method_44_code 4 = .ok (.ifCond .eq 12, 3) := by decide +kernel
theorem d_RM_signOf_7 : decode prog_6_method_44_code 7 = .ok (.aload_n 0, 1) := by decide +kernel
theorem d_RM_signOf_8 : decode prog_6_method_44_code 8 = .ok (.getfield 16, 3) := by decide +kernel
theorem d_RM_signOf_11 : decode prog_6_method_44_code 11 = .ok (.iload_n 1, 1) := by decide +kernel
theorem d_RM_signOf_12 : decode prog_6_method_44_code 12 = .ok (.iaload, 1) := by decide +kernel
theorem d_RM_signOf_13 : decode prog_6_method_44_code 13 = .ok (.goto 4, 3) := by decide +kernel
theorem d_RM_signOf_16 : decode prog_6_method_44_code 16 = .ok (.iconst 0, 1) := by decide +kernel
theorem d_RM_signOf_17 : decode prog_6_method_44_code 17 = .ok (.ireturn, 1) := by decide +kernel
def RM_signOf (st : rm_S) (p0 : Int32) : Option (Int32) := nm (RM_isRegister p0) (fun r1 => (if r1 = 0 then some (0 : Int32) else (if ob_in p0 8 = true then some (st 3 p0.toNatClampNeg) else none)))
set_option maxHeartbeats 4000000 in
set_option maxRecDepth 100000 in
theorem c_RM_signOf (l : Launch) {D : va_G} (a : Nat → Nat) (ci : ClassId) (hi : rm_inj a) (st : rm_S) (p0 : Int32) (r0 : Int32) (hF : RM_signOf st p0 = some r0) : ct_i l ⟨"RoundedNumbersModel", "signOf", "(I)I"⟩ (.code ⟨"RoundedNumbersModel", "signOf", "(I)I"⟩ prog_6_method_44_code 2 (some .int) :: ct_T) { frames := 1, cells := 0, slots := 0, locals := 20 } D vwCl (rm_T ci) (rm_g a ci) (rm_X a) [.ref (a 0), .int p0] st r0 st := by
  refine ct_i.mk (cc := prog_6_method_44_code) (maxL := 2) (by decide) rfl (Nat.le_of_ble_eq_true rfl) ?_
  intro p e s m below meth c hx hb hr hml hown hts hlk hK hN hP hS ls hl
  have hown : s.vm.findClass "RoundedNumbersModel" = some m.cls := hown
  have hl : lv_has ls 2 [(0, .ref (a 0)), (1, .int p0)] := hl
  have htb := fun w h => hts w (List.mem_cons_of_mem _ h)
  unfold RM_signOf at hF
  refine lv_iload_n hx hb d_RM_signOf_0 rfl (lv_at hl 1 rfl) ?_
  obtain ⟨r1, e1⟩ := nm_ex (RM_isRegister p0)
  replace hF := (nm_eq e1).symm.trans hF
  refine ct_calli (va_runS (As := [.int p0]) (rest := []) ⟨hx, hb, hml, hown, hts⟩ (c_RM_isRegister l (D := D) a ci hi st p0 _ e1 _) (kc_RM_40 hts ⟨by decide, by decide⟩) ⟨ct_blind, ct_ok hP hK hN⟩ rfl rfl hl.1 rfl (lv_room (Nat.le_of_ble_eq_true rfl)) d_RM_signOf_1 ⟨Nat.zero_le _, Nat.zero_le _⟩) hS (fun H locs hP hS => ?_)
  refine lv_if_eq hx hb d_RM_signOf_4 (tgt := 16) (by decide) (fun c4 => ?_) (fun c4 => ?_)
  · replace hF := (if_pos c4).symm.trans hF
    refine lv_iconst (v := 0) hx hb d_RM_signOf_16 (by decide) ?_
    replace hF := Option.some.inj hF
    subst hF
    exact ct_iret hx hb hr hlk hP hS d_RM_signOf_17
  · replace hF := (if_neg c4).symm.trans hF
    refine lv_aload_n hx hb d_RM_signOf_7 rfl (lv_at hl 0 rfl) ?_
    refine gf_RM_16 hx hb htb hown hK hP d_RM_signOf_8 ?_
    refine lv_iload_n hx hb d_RM_signOf_11 rfl (lv_at hl 1 rfl) ?_
    obtain ⟨b12, hF⟩ := ob_if hF
    refine rm_ald hx hb hK hP (k := 3) (by decide) (by decide) (ob_vi b12) d_RM_signOf_12 ?_
    refine lv_goto hx hb d_RM_signOf_13 (tgt := 17) (by decide) ?_
    replace hF := Option.some.inj hF
    subst hF
    exact ct_iret hx hb hr hlk hP hS d_RM_signOf_17
theorem d_RM_expOf_0 : decode prog_6_method_45_code 0 = .ok (.iload_n 1, 1) := by decide +kernel
theorem d_RM_expOf_1 : decode prog_6_method_45_code 1 = .ok (.invokestatic 40, 3) := by decide +kernel
theorem d_RM_expOf_4 : decode prog_6_method_45_code 4 = .ok (.ifCond .eq 22, 3) := by decide +kernel
theorem d_RM_expOf_7 : decode prog_6_method_45_code 7 = .ok (.aload_n 0, 1) := by decide +kernel
theorem d_RM_expOf_8 : decode prog_6_method_45_code 8 = .ok (.getfield 13, 3) := by decide +kernel
theorem d_RM_expOf_11 : decode prog_6_method_45_code 11 = .ok (.iload_n 1, 1) := by decide +kernel
theorem d_RM_expOf_12 : decode prog_6_method_45_code 12 = .ok (.iaload, 1) := by decide +kernel
theorem d_RM_expOf_13 : decode prog_6_method_45_code 13 = .ok (.iconst 3, 1) := by decide +kernel
theorem d_RM_expOf_14 : decode prog_6_method_45_code 14 = .ok (.if_icmp .ne 12, 3) := by decide +kernel
theorem d_RM_expOf_17 : decode prog_6_method_45_code 17 = .ok (.aload_n 0, 1) := by decide +kernel
theorem d_RM_expOf_18 : decode prog_6_method_45_code 18 = .ok (.getfield 19, 3) := by decide +kernel
theorem d_RM_expOf_21 : decode prog_6_method_45_code 21 = .ok (.iload_n 1, 1) := by decide +kernel
theorem d_RM_expOf_22 : decode prog_6_method_45_code 22 = .ok (.iaload, 1) := by decide +kernel
theorem d_RM_expOf_23 : decode prog_6_method_45_code 23 = .ok (.goto 4, 3) := by decide +kernel
theorem d_RM_expOf_26 : decode prog_6_method_45_code 26 = .ok (.iconst 0, 1) := by decide +kernel
theorem d_RM_expOf_27 : decode prog_6_method_45_code 27 = .ok (.ireturn, 1) := by decide +kernel
def RM_expOf (st : rm_S) (p0 : Int32) : Option (Int32) := nm (RM_isRegister p0) (fun r1 => (if r1 = 0 then some (0 : Int32) else (if ob_in p0 8 = true then (if (st 2 p0.toNatClampNeg) = (3 : Int32) then (if ob_in p0 8 = true then some (st 4 p0.toNatClampNeg) else none) else some (0 : Int32)) else none)))
set_option maxHeartbeats 4000000 in
set_option maxRecDepth 100000 in
theorem c_RM_expOf (l : Launch) {D : va_G} (a : Nat → Nat) (ci : ClassId) (hi : rm_inj a) (st : rm_S) (p0 : Int32) (r0 : Int32) (hF : RM_expOf st p0 = some r0) : ct_i l ⟨"RoundedNumbersModel", "expOf", "(I)I"⟩ (.code ⟨"RoundedNumbersModel", "expOf", "(I)I"⟩ prog_6_method_45_code 2 (some .int) :: ct_T) { frames := 1, cells := 0, slots := 0, locals := 20 } D vwCl (rm_T ci) (rm_g a ci) (rm_X a) [.ref (a 0), .int p0] st r0 st := by
  refine ct_i.mk (cc := prog_6_method_45_code) (maxL := 2) (by decide) rfl (Nat.le_of_ble_eq_true rfl) ?_
  intro p e s m below meth c hx hb hr hml hown hts hlk hK hN hP hS ls hl
  have hown : s.vm.findClass "RoundedNumbersModel" = some m.cls := hown
  have hl : lv_has ls 2 [(0, .ref (a 0)), (1, .int p0)] := hl
  have htb := fun w h => hts w (List.mem_cons_of_mem _ h)
  unfold RM_expOf at hF
  refine lv_iload_n hx hb d_RM_expOf_0 rfl (lv_at hl 1 rfl) ?_
  obtain ⟨r1, e1⟩ := nm_ex (RM_isRegister p0)
  replace hF := (nm_eq e1).symm.trans hF
  refine ct_calli (va_runS (As := [.int p0]) (rest := []) ⟨hx, hb, hml, hown, hts⟩ (c_RM_isRegister l (D := D) a ci hi st p0 _ e1 _) (kc_RM_40 hts ⟨by decide, by decide⟩) ⟨ct_blind, ct_ok hP hK hN⟩ rfl rfl hl.1 rfl (lv_room (Nat.le_of_ble_eq_true rfl)) d_RM_expOf_1 ⟨Nat.zero_le _, Nat.zero_le _⟩) hS (fun H locs hP hS => ?_)
  refine lv_if_eq hx hb d_RM_expOf_4 (tgt := 26) (by decide) (fun c4 => ?_) (fun c4 => ?_)
  · replace hF := (if_pos c4).symm.trans hF
    refine lv_iconst (v := 0) hx hb d_RM_expOf_26 (by decide) ?_
    replace hF := Option.some.inj hF
    subst hF
    exact ct_iret hx hb hr hlk hP hS d_RM_expOf_27
  · replace hF := (if_neg c4).symm.trans hF
    refine lv_aload_n hx hb d_RM_expOf_7 rfl (lv_at hl 0 rfl) ?_
    refine gf_RM_13 hx hb htb hown hK hP d_RM_expOf_8 ?_
    refine lv_iload_n hx hb d_RM_expOf_11 rfl (lv_at hl 1 rfl) ?_
    obtain ⟨b12, hF⟩ := ob_if hF
    refine rm_ald hx hb hK hP (k := 2) (by decide) (by decide) (ob_vi b12) d_RM_expOf_12 ?_
    refine lv_iconst (v := 3) hx hb d_RM_expOf_13 (by decide) ?_
    refine lv_icmp_ne hx hb d_RM_expOf_14 (tgt := 26) (by decide) (fun c14 => ?_) (fun c14 => ?_)
    · replace hF := (if_neg c14).symm.trans hF
      refine lv_iconst (v := 0) hx hb d_RM_expOf_26 (by decide) ?_
      replace hF := Option.some.inj hF
      subst hF
      exact ct_iret hx hb hr hlk hP hS d_RM_expOf_27
    · replace hF := (if_pos c14).symm.trans hF
      refine lv_aload_n hx hb d_RM_expOf_17 rfl (lv_at hl 0 rfl) ?_
      refine gf_RM_19 hx hb htb hown hK hP d_RM_expOf_18 ?_
      refine lv_iload_n hx hb d_RM_expOf_21 rfl (lv_at hl 1 rfl) ?_
      obtain ⟨b22, hF⟩ := ob_if hF
      refine rm_ald hx hb hK hP (k := 4) (by decide) (by decide) (ob_vi b22) d_RM_expOf_22 ?_
      refine lv_goto hx hb d_RM_expOf_23 (tgt := 27) (by decide) ?_
      replace hF := Option.some.inj hF
      subst hF
      exact ct_iret hx hb hr hlk hP hS d_RM_expOf_27
theorem d_RM_mantBit_0 : decode prog_6_method_46_code 0 = .ok (.iload_n 1, 1) := by decide +kernel
theorem d_RM_mantBit_1 : decode prog_6_method_46_code 1 = .ok (.invokestatic 40, 3) := by decide +kernel
theorem d_RM_mantBit_4 : decode prog_6_method_46_code 4 = .ok (.ifCond .eq 41, 3) := by decide +kernel
theorem d_RM_mantBit_7 : decode prog_6_method_46_code 7 = .ok (.aload_n 0, 1) := by decide +kernel
theorem d_RM_mantBit_8 : decode prog_6_method_46_code 8 = .ok (.getfield 13, 3) := by decide +kernel
theorem d_RM_mantBit_11 : decode prog_6_method_46_code 11 = .ok (.iload_n 1, 1) := by decide +kernel
theorem d_RM_mantBit_12 : decode prog_6_method_46_code 12 = .ok (.iaload, 1) := by decide +kernel
theorem d_RM_mantBit_13 : decode prog_6_method_46_code 13 = .ok (.iconst 3, 1) := by decide +kernel
theorem d_RM_mantBit_14 : decode prog_6_method_46_code 14 = .ok (.if_icmp .ne 31, 3) := by decide +kernel
theorem d_RM_mantBit_17 : decode prog_6_method_46_code 17 = .ok (.iload_n 2, 1) := by decide +kernel
theorem d_RM_mantBit_18 : decode prog_6_method_46_code 18 = .ok (.ifCond .lt 27, 3) := by decide +kernel
theorem d_RM_mantBit_21 : decode prog_6_method_46_code 21 = .ok (.iload_n 2, 1) := by decide +kernel
theorem d_RM_mantBit_22 : decode prog_6_method_46_code 22 = .ok (.aload_n 0, 1) := by decide +kernel
theorem d_RM_mantBit_23 : decode prog_6_method_46_code 23 = .ok (.getfield 7, 3) := by decide +kernel
theorem d_RM_mantBit_26 : decode prog_6_method_46_code 26 = .ok (.iload_n 1, 1) := by decide +kernel
theorem d_RM_mantBit_27 : decode prog_6_method_46_code 27 = .ok (.iaload, 1) := by decide +kernel
theorem d_RM_mantBit_28 : decode prog_6_method_46_code 28 = .ok (.if_icmp .ge 17, 3) := by decide +kernel
theorem d_RM_mantBit_31 : decode prog_6_method_46_code 31 = .ok (.aload_n 0, 1) := by decide +kernel
theorem d_RM_mantBit_32 : decode prog_6_method_46_code 32 = .ok (.getfield 22, 3) := by decide +kernel
theorem d_RM_mantBit_35 : decode prog_6_method_46_code 35 = .ok (.bipush 93, 2) := by decide +kernel
theorem d_RM_mantBit_37 : decode prog_6_method_46_code 37 = .ok (.iload_n 1, 1) := by decide +kernel
theorem d_RM_mantBit_38 : decode prog_6_method_46_code 38 = .ok (.imul, 1) := by decide +kernel
theorem d_RM_mantBit_39 : decode prog_6_method_46_code 39 = .ok (.iload_n 2, 1) := by decide +kernel
theorem d_RM_mantBit_40 : decode prog_6_method_46_code 40 = .ok (.iadd, 1) := by decide +kernel
theorem d_RM_mantBit_41 : decode prog_6_method_46_code 41 = .ok (.iaload, 1) := by decide +kernel
theorem d_RM_mantBit_42 : decode prog_6_method_46_code 42 = .ok (.goto 4, 3) := by decide +kernel
theorem d_RM_mantBit_45 : decode prog_6_method_46_code 45 = .ok (.iconst (-1), 1) := by decide +kernel
theorem d_RM_mantBit_46 : decode prog_6_method_46_code 46 = .ok (.ireturn, 1) := by decide +kernel
def RM_mantBit (st : rm_S) (p0 : Int32) (p1 : Int32) : Option (Int32) := nm (RM_isRegister p0) (fun r1 => (if r1 = 0 then some (-1 : Int32) else (if ob_in p0 8 = true then (if (st 2 p0.toNatClampNeg) = (3 : Int32) then (if p1 < 0 then some (-1 : Int32) else (if ob_in p0 8 = true then (if (st 1 p0.toNatClampNeg) ≤ p1 then some (-1 : Int32) else (if ob_in (((93 : Int32) * p0) + p1) 744 = true then some (st 5 (((93 : Int32) * p0) + p1).toNatClampNeg) else none)) else none)) else some (-1 : Int32)) else none)))
set_option maxHeartbeats 4000000 in
set_option maxRecDepth 100000 in
theorem c_RM_mantBit (l : Launch) {D : va_G} (a : Nat → Nat) (ci : ClassId) (hi : rm_inj a) (st : rm_S) (p0 : Int32) (p1 : Int32) (r0 : Int32) (hF : RM_mantBit st p0 p1 = some r0) : ct_i l ⟨"RoundedNumbersModel", "mantBit", "(II)I"⟩ (.code ⟨"RoundedNumbersModel", "mantBit", "(II)I"⟩ prog_6_method_46_code 3 (some .int) :: ct_T) { frames := 1, cells := 0, slots := 0, locals := 20 } D vwCl (rm_T ci) (rm_g a ci) (rm_X a) [.ref (a 0), .int p0, .int p1] st r0 st := by
  refine ct_i.mk (cc := prog_6_method_46_code) (maxL := 3) (by decide) rfl (Nat.le_of_ble_eq_true rfl) ?_
  intro p e s m below meth c hx hb hr hml hown hts hlk hK hN hP hS ls hl
  have hown : s.vm.findClass "RoundedNumbersModel" = some m.cls := hown
  have hl : lv_has ls 3 [(0, .ref (a 0)), (1, .int p0), (2, .int p1)] := hl
  have htb := fun w h => hts w (List.mem_cons_of_mem _ h)
  unfold RM_mantBit at hF
  refine lv_iload_n hx hb d_RM_mantBit_0 rfl (lv_at hl 1 rfl) ?_
  obtain ⟨r1, e1⟩ := nm_ex (RM_isRegister p0)
  replace hF := (nm_eq e1).symm.trans hF
  refine ct_calli (va_runS (As := [.int p0]) (rest := []) ⟨hx, hb, hml, hown, hts⟩ (c_RM_isRegister l (D := D) a ci hi st p0 _ e1 _) (kc_RM_40 hts ⟨by decide, by decide⟩) ⟨ct_blind, ct_ok hP hK hN⟩ rfl rfl hl.1 rfl (lv_room (Nat.le_of_ble_eq_true rfl)) d_RM_mantBit_1 ⟨Nat.zero_le _, Nat.zero_le _⟩) hS (fun H locs hP hS => ?_)
  refine lv_if_eq hx hb d_RM_mantBit_4 (tgt := 45) (by decide) (fun c4 => ?_) (fun c4 => ?_)
  · replace hF := (if_pos c4).symm.trans hF
    refine lv_iconst (v := -1) hx hb d_RM_mantBit_45 (by decide) ?_
    replace hF := Option.some.inj hF
    subst hF
    exact ct_iret hx hb hr hlk hP hS d_RM_mantBit_46
  · replace hF := (if_neg c4).symm.trans hF
    refine lv_aload_n hx hb d_RM_mantBit_7 rfl (lv_at hl 0 rfl) ?_
    refine gf_RM_13 hx hb htb hown hK hP d_RM_mantBit_8 ?_
    refine lv_iload_n hx hb d_RM_mantBit_11 rfl (lv_at hl 1 rfl) ?_
    obtain ⟨b12, hF⟩ := ob_if hF
    refine rm_ald hx hb hK hP (k := 2) (by decide) (by decide) (ob_vi b12) d_RM_mantBit_12 ?_
    refine lv_iconst (v := 3) hx hb d_RM_mantBit_13 (by decide) ?_
    refine lv_icmp_ne hx hb d_RM_mantBit_14 (tgt := 45) (by decide) (fun c14 => ?_) (fun c14 => ?_)
    · replace hF := (if_neg c14).symm.trans hF
      refine lv_iconst (v := -1) hx hb d_RM_mantBit_45 (by decide) ?_
      replace hF := Option.some.inj hF
      subst hF
      exact ct_iret hx hb hr hlk hP hS d_RM_mantBit_46
    · replace hF := (if_pos c14).symm.trans hF
      refine lv_iload_n hx hb d_RM_mantBit_17 rfl (lv_at hl 2 rfl) ?_
      refine lv_if_lt hx hb d_RM_mantBit_18 (tgt := 45) (by decide) (fun c18 => ?_) (fun c18 => ?_)
      · replace hF := (if_pos c18).symm.trans hF
        refine lv_iconst (v := -1) hx hb d_RM_mantBit_45 (by decide) ?_
        replace hF := Option.some.inj hF
        subst hF
        exact ct_iret hx hb hr hlk hP hS d_RM_mantBit_46
      · replace hF := (if_neg c18).symm.trans hF
        refine lv_iload_n hx hb d_RM_mantBit_21 rfl (lv_at hl 2 rfl) ?_
        refine lv_aload_n hx hb d_RM_mantBit_22 rfl (lv_at hl 0 rfl) ?_
        refine gf_RM_7 hx hb htb hown hK hP d_RM_mantBit_23 ?_
        refine lv_iload_n hx hb d_RM_mantBit_26 rfl (lv_at hl 1 rfl) ?_
        obtain ⟨b27, hF⟩ := ob_if hF
        refine rm_ald hx hb hK hP (k := 1) (by decide) (by decide) (ob_vi b27) d_RM_mantBit_27 ?_
        refine lv_icmp_ge hx hb d_RM_mantBit_28 (tgt := 45) (by decide) (fun c28 => ?_) (fun c28 => ?_)
        · replace hF := (if_pos c28).symm.trans hF
          refine lv_iconst (v := -1) hx hb d_RM_mantBit_45 (by decide) ?_
          replace hF := Option.some.inj hF
          subst hF
          exact ct_iret hx hb hr hlk hP hS d_RM_mantBit_46
        · replace hF := (if_neg c28).symm.trans hF
          refine lv_aload_n hx hb d_RM_mantBit_31 rfl (lv_at hl 0 rfl) ?_
          refine gf_RM_22 hx hb htb hown hK hP d_RM_mantBit_32 ?_
          refine lv_bipush (v := 93) hx hb d_RM_mantBit_35 (by decide) ?_
          refine lv_iload_n hx hb d_RM_mantBit_37 rfl (lv_at hl 1 rfl) ?_
          refine lv_imul hx hb d_RM_mantBit_38 ?_
          refine lv_iload_n hx hb d_RM_mantBit_39 rfl (lv_at hl 2 rfl) ?_
          refine lv_iadd hx hb d_RM_mantBit_40 ?_
          obtain ⟨b41, hF⟩ := ob_if hF
          refine rm_ald hx hb hK hP (k := 5) (by decide) (by decide) (ob_vi b41) d_RM_mantBit_41 ?_
          refine lv_goto hx hb d_RM_mantBit_42 (tgt := 46) (by decide) ?_
          replace hF := Option.some.inj hF
          subst hF
          exact ct_iret hx hb hr hlk hP hS d_RM_mantBit_46
theorem d_RM_beyond_0 : decode prog_6_method_47_code 0 = .ok (.iload_n 0, 1) := by decide +kernel
theorem d_RM_beyond_1 : decode prog_6_method_47_code 1 = .ok (.ifCond .le 9, 3) := by decide +kernel
theorem d_RM_beyond_4 : decode prog_6_method_47_code 4 = .ok (.ldc2_w 142, 3) := by decide +kernel
theorem d_RM_beyond_7 : decode prog_6_method_47_code 7 = .ok (.goto 6, 3) := by decide +kernel
theorem d_RM_beyond_10 : decode prog_6_method_47_code 10 = .ok (.ldc2_w 144, 3) := by decide +kernel
theorem d_RM_beyond_13 : decode prog_6_method_47_code 13 = .ok (.lreturn, 1) := by decide +kernel
def RM_beyond (p0 : Int32) : Int64 := (if p0 ≤ 0 then (-9223372036854775808 : Int64) else (9223372036854775807 : Int64))
set_option maxHeartbeats 4000000 in
set_option maxRecDepth 100000 in
theorem c_RM_beyond (l : Launch) {D : va_G} (a : Nat → Nat) (ci : ClassId) (hi : rm_inj a) (st : rm_S) (p0 : Int32) (r0 : Int64) (hF : RM_beyond p0 = r0) : ct_l l ⟨"RoundedNumbersModel", "beyond", "(I)J"⟩ (.code ⟨"RoundedNumbersModel", "beyond", "(I)J"⟩ prog_6_method_47_code 1 (some .long) :: ct_T) { frames := 0, cells := 0, slots := 0, locals := 0 } D vwCl (rm_T ci) (rm_g a ci) (rm_X a) [.int p0] st r0 st := by
  refine ct_l.mk (cc := prog_6_method_47_code) (maxL := 1) (by decide) rfl (Nat.le_of_ble_eq_true rfl) ?_
  intro p e s m below meth c hx hb hr hml hown hts hlk hK hN hP hS ls hl
  have hown : s.vm.findClass "RoundedNumbersModel" = some m.cls := hown
  have hl : lv_has ls 1 [(0, .int p0)] := hl
  have htb := fun w h => hts w (List.mem_cons_of_mem _ h)
  unfold RM_beyond at hF
  refine lv_iload_n hx hb d_RM_beyond_0 rfl (lv_at hl 0 rfl) ?_
  refine lv_if_le hx hb d_RM_beyond_1 (tgt := 10) (by decide) (fun c1 => ?_) (fun c1 => ?_)
  · replace hF := (if_pos c1).symm.trans hF
    refine lv_ldc2 (v := -9223372036854775808) hx hb hown (htb _ mw_383) d_RM_beyond_10 ?_
    subst hF
    exact ct_lret hx hb hr hlk hP hS d_RM_beyond_13
  · replace hF := (if_neg c1).symm.trans hF
    refine lv_ldc2 (v := 9223372036854775807) hx hb hown (htb _ mw_384) d_RM_beyond_4 ?_
    refine lv_goto hx hb d_RM_beyond_7 (tgt := 13) (by decide) ?_
    subst hF
    exact ct_lret hx hb hr hlk hP hS d_RM_beyond_13
theorem d_RM_whole_0 : decode prog_6_method_48_code 0 = .ok (.iload_n 1, 1) := by decide +kernel
theorem d_RM_whole_1 : decode prog_6_method_48_code 1 = .ok (.invokestatic 40, 3) := by decide +kernel
theorem d_RM_whole_4 : decode prog_6_method_48_code 4 = .ok (.ifCond .eq 29, 3) := by decide +kernel
theorem d_RM_whole_7 : decode prog_6_method_48_code 7 = .ok (.iload_n 2, 1) := by decide +kernel
theorem d_RM_whole_8 : decode prog_6_method_48_code 8 = .ok (.invokestatic 77, 3) := by decide +kernel
theorem d_RM_whole_11 : decode prog_6_method_48_code 11 = .ok (.ifCond .eq 22, 3) := by decide +kernel
theorem d_RM_whole_14 : decode prog_6_method_48_code 14 = .ok (.aload_n 0, 1) := by decide +kernel
theorem d_RM_whole_15 : decode prog_6_method_48_code 15 = .ok (.getfield 13, 3) := by decide +kernel
theorem d_RM_whole_18 : decode prog_6_method_48_code 18 = .ok (.iload_n 1, 1) := by decide +kernel
theorem d_RM_whole_19 : decode prog_6_method_48_code 19 = .ok (.iaload, 1) := by decide +kernel
theorem d_RM_whole_20 : decode prog_6_method_48_code 20 = .ok (.ifCond .eq 13, 3) := by decide +kernel
theorem d_RM_whole_23 : decode prog_6_method_48_code 23 = .ok (.aload_n 0, 1) := by decide +kernel
theorem d_RM_whole_24 : decode prog_6_method_48_code 24 = .ok (.getfield 13, 3) := by decide +kernel
theorem d_RM_whole_27 : decode prog_6_method_48_code 27 = .ok (.iload_n 1, 1) := by decide +kernel
theorem d_RM_whole_28 : decode prog_6_method_48_code 28 = .ok (.iaload, 1) := by decide +kernel
theorem d_RM_whole_29 : decode prog_6_method_48_code 29 = .ok (.iconst 2, 1) := by decide +kernel
theorem d_RM_whole_30 : decode prog_6_method_48_code 30 = .ok (.if_icmp .ne 5, 3) := by decide +kernel
theorem d_RM_whole_33 : decode prog_6_method_48_code 33 = .ok (.lconst 0, 1) := by decide +kernel
theorem d_RM_whole_34 : decode prog_6_method_48_code 34 = .ok (.lreturn, 1) := by decide +kernel
theorem d_RM_whole_35 : decode prog_6_method_48_code 35 = .ok (.aload_n 0, 1) := by decide +kernel
theorem d_RM_whole_36 : decode prog_6_method_48_code 36 = .ok (.getfield 16, 3) := by decide +kernel
theorem d_RM_whole_39 : decode prog_6_method_48_code 39 = .ok (.iload_n 1, 1) := by decide +kernel
theorem d_RM_whole_40 : decode prog_6_method_48_code 40 = .ok (.iaload, 1) := by decide +kernel
theorem d_RM_whole_41 : decode prog_6_method_48_code 41 = .ok (.istore_n 3, 1) := by decide +kernel
theorem d_RM_whole_42 : decode prog_6_method_48_code 42 = .ok (.aload_n 0, 1) := by decide +kernel
theorem d_RM_whole_43 : decode prog_6_method_48_code 43 = .ok (.getfield 13, 3) := by decide +kernel
theorem d_RM_whole_46 : decode prog_6_method_48_code 46 = .ok (.iload_n 1, 1) := by decide +kernel
theorem d_RM_whole_47 : decode prog_6_method_48_code 47 = .ok (.iaload, 1) := by decide +kernel
theorem d_RM_whole_48 : decode prog_6_method_48_code 48 = .ok (.iconst 1, 1) := by decide +kernel
theorem d_RM_whole_49 : decode prog_6_method_48_code 49 = .ok (.if_icmp .eq 14, 3) := by decide +kernel
theorem d_RM_whole_52 : decode prog_6_method_48_code 52 = .ok (.aload_n 0, 1) := by decide +kernel
theorem d_RM_whole_53 : decode prog_6_method_48_code 53 = .ok (.getfield 19, 3) := by decide +kernel
theorem d_RM_whole_56 : decode prog_6_method_48_code 56 = .ok (.iload_n 1, 1) := by decide +kernel
theorem d_RM_whole_57 : decode prog_6_method_48_code 57 = .ok (.iaload, 1) := by decide +kernel
theorem d_RM_whole_58 : decode prog_6_method_48_code 58 = .ok (.bipush 64, 2) := by decide +kernel
theorem d_RM_whole_60 : decode prog_6_method_48_code 60 = .ok (.if_icmp .le 8, 3) := by decide +kernel
theorem d_RM_whole_63 : decode prog_6_method_48_code 63 = .ok (.iload_n 3, 1) := by decide +kernel
theorem d_RM_whole_64 : decode prog_6_method_48_code 64 = .ok (.invokestatic 146, 3) := by decide +kernel
theorem d_RM_whole_67 : decode prog_6_method_48_code 67 = .ok (.lreturn, 1) := by decide +kernel
theorem d_RM_whole_68 : decode prog_6_method_48_code 68 = .ok (.aload_n 0, 1) := by decide +kernel
theorem d_RM_whole_69 : decode prog_6_method_48_code 69 = .ok (.invokevirtual 80, 3) := by decide +kernel
theorem d_RM_whole_72 : decode prog_6_method_48_code 72 = .ok (.aload_n 0, 1) := by decide +kernel
theorem d_RM_whole_73 : decode prog_6_method_48_code 73 = .ok (.iload_n 1, 1) := by decide +kernel
theorem d_RM_whole_74 : decode prog_6_method_48_code 74 = .ok (.invokevirtual 86, 3) := by decide +kernel
theorem d_RM_whole_77 : decode prog_6_method_48_code 77 = .ok (.lconst 0, 1) := by decide +kernel
theorem d_RM_whole_78 : decode prog_6_method_48_code 78 = .ok (.lstore 4, 2) := by decide +kernel
theorem d_RM_whole_80 : decode prog_6_method_48_code 80 = .ok (.bipush 63, 2) := by decide +kernel
theorem d_RM_whole_82 : decode prog_6_method_48_code 82 = .ok (.istore 6, 2) := by decide +kernel
theorem d_RM_whole_84 : decode prog_6_method_48_code 84 = .ok (.iload 6, 2) := by decide +kernel
theorem d_RM_whole_86 : decode prog_6_method_48_code 86 = .ok (.ifCond .lt 28, 3) := by decide +kernel
theorem d_RM_whole_89 : decode prog_6_method_48_code 89 = .ok (.lload 4, 2) := by decide +kernel
theorem d_RM_whole_91 : decode prog_6_method_48_code 91 = .ok (.iconst 1, 1) := by decide +kernel
theorem d_RM_whole_92 : decode prog_6_method_48_code 92 = .ok (.lshl, 1) := by decide +kernel
theorem d_RM_whole_93 : decode prog_6_method_48_code 93 = .ok (.aload_n 0, 1) := by decide +kernel
theorem d_RM_whole_94 : decode prog_6_method_48_code 94 = .ok (.getfield 25, 3) := by decide +kernel
theorem d_RM_whole_97 : decode prog_6_method_48_code 97 = .ok (.sipush 600, 3) := by decide +kernel
theorem d_RM_whole_100 : decode prog_6_method_48_code 100 = .ok (.iload 6, 2) := by decide +kernel
theorem d_RM_whole_102 : decode prog_6_method_48_code 102 = .ok (.iadd, 1) := by decide +kernel
theorem d_RM_whole_103 : decode prog_6_method_48_code 103 = .ok (.iaload, 1) := by decide +kernel
theorem d_RM_whole_104 : decode prog_6_method_48_code 104 = .ok (.i2l, 1) := by decide +kernel
theorem d_RM_whole_105 : decode prog_6_method_48_code 105 = .ok (.lor, 1) := by decide +kernel
theorem d_RM_whole_106 : decode prog_6_method_48_code 106 = .ok (.lstore 4, 2) := by decide +kernel
theorem d_RM_whole_108 : decode prog_6_method_48_code 108 = .ok (.iinc 6 (-1), 3) := by decide +kernel
theorem d_RM_whole_111 : decode prog_6_method_48_code 111 = .ok (.goto (-27), 3) := by decide +kernel
theorem d_RM_whole_114 : decode prog_6_method_48_code 114 = .ok (.aload_n 0, 1) := by decide +kernel
theorem d_RM_whole_115 : decode prog_6_method_48_code 115 = .ok (.getfield 25, 3) := by decide +kernel
theorem d_RM_whole_118 : decode prog_6_method_48_code 118 = .ok (.sipush 599, 3) := by decide +kernel
theorem d_RM_whole_121 : decode prog_6_method_48_code 121 = .ok (.iaload, 1) := by decide +kernel
theorem d_RM_whole_122 : decode prog_6_method_48_code 122 = .ok (.iconst 1, 1) := by decide +kernel
theorem d_RM_whole_123 : decode prog_6_method_48_code 123 = .ok (.if_icmp .ne 7, 3) := by decide +kernel
theorem d_RM_whole_126 : decode prog_6_method_48_code 126 = .ok (.iconst 1, 1) := by decide +kernel
theorem d_RM_whole_127 : decode prog_6_method_48_code 127 = .ok (.goto 4, 3) := by decide +kernel
theorem d_RM_whole_130 : decode prog_6_method_48_code 130 = .ok (.iconst 0, 1) := by decide +kernel
theorem d_RM_whole_131 : decode prog_6_method_48_code 131 = .ok (.istore 6, 2) := by decide +kernel
theorem d_RM_whole_133 : decode prog_6_method_48_code 133 = .ok (.aload_n 0, 1) := by decide +kernel
theorem d_RM_whole_134 : decode prog_6_method_48_code 134 = .ok (.sipush 599, 3) := by decide +kernel
theorem d_RM_whole_137 : decode prog_6_method_48_code 137 = .ok (.invokevirtual 44, 3) := by decide +kernel
theorem d_RM_whole_140 : decode prog_6_method_48_code 140 = .ok (.istore 7, 2) := by decide +kernel
theorem d_RM_whole_142 : decode prog_6_method_48_code 142 = .ok (.iload_n 2, 1) := by decide +kernel
theorem d_RM_whole_143 : decode prog_6_method_48_code 143 = .ok (.ifCond .ne 30, 3) := by decide +kernel
theorem d_RM_whole_146 : decode prog_6_method_48_code 146 = .ok (.iload 6, 2) := by decide +kernel
theorem d_RM_whole_148 : decode prog_6_method_48_code 148 = .ok (.ifCond .eq 21, 3) := by decide +kernel
theorem d_RM_whole_151 : decode prog_6_method_48_code 151 = .ok (.iload 7, 2) := by decide +kernel
theorem d_RM_whole_153 : decode prog_6_method_48_code 153 = .ok (.ifCond .ne 12, 3) := by decide +kernel
theorem d_RM_whole_156 : decode prog_6_method_48_code 156 = .ok (.lload 4, 2) := by decide +kernel
theorem d_RM_whole_158 : decode prog_6_method_48_code 158 = .ok (.lconst 1, 1) := by decide +kernel
theorem d_RM_whole_159 : decode prog_6_method_48_code 159 = .ok (.land, 1) := by decide +kernel
theorem d_RM_whole_160 : decode prog_6_method_48_code 160 = .ok (.lconst 1, 1) := by decide +kernel
theorem d_RM_whole_161 : decode prog_6_method_48_code 161 = .ok (.lcmp, 1) := by decide +kernel
theorem d_RM_whole_162 : decode prog_6_method_48_code 162 = .ok (.ifCond .ne 7, 3) := by decide +kernel
theorem d_RM_whole_165 : decode prog_6_method_48_code 165 = .ok (.iconst 1, 1) := by decide +kernel
theorem d_RM_whole_166 : decode prog_6_method_48_code 166 = .ok (.goto 30, 3) := by decide +kernel
theorem d_RM_whole_169 : decode prog_6_method_48_code 169 = .ok (.iconst 0, 1) := by decide +kernel
theorem d_RM_whole_170 : decode prog_6_method_48_code 170 = .ok (.goto 26, 3) := by decide +kernel
theorem d_RM_whole_173 : decode prog_6_method_48_code 173 = .ok (.iload 6, 2) := by decide +kernel
theorem d_RM_whole_175 : decode prog_6_method_48_code 175 = .ok (.ifCond .ne 8, 3) := by decide +kernel
theorem d_RM_whole_178 : decode prog_6_method_48_code 178 = .ok (.iload 7, 2) := by decide +kernel
theorem d_RM_whole_180 : decode prog_6_method_48_code 180 = .ok (.ifCond .eq 15, 3) := by decide +kernel
theorem d_RM_whole_183 : decode prog_6_method_48_code 183 = .ok (.iload_n 2, 1) := by decide +kernel
theorem d_RM_whole_184 : decode prog_6_method_48_code 184 = .ok (.iload_n 3, 1) := by decide +kernel
theorem d_RM_whole_185 : decode prog_6_method_48_code 185 = .ok (.invokestatic 47, 3) := by decide +kernel
theorem d_RM_whole_188 : decode prog_6_method_48_code 188 = .ok (.ifCond .eq 7, 3) := by decide +kernel
theorem d_RM_whole_191 : decode prog_6_method_48_code 191 = .ok (.iconst 1, 1) := by decide +kernel
theorem d_RM_whole_192 : decode prog_6_method_48_code 192 = .ok (.goto 4, 3) := by decide +kernel
theorem d_RM_whole_195 : decode prog_6_method_48_code 195 = .ok (.iconst 0, 1) := by decide +kernel
theorem d_RM_whole_196 : decode prog_6_method_48_code 196 = .ok (.istore 8, 2) := by decide +kernel
theorem d_RM_whole_198 : decode prog_6_method_48_code 198 = .ok (.lload 4, 2) := by decide +kernel
theorem d_RM_whole_200 : decode prog_6_method_48_code 200 = .ok (.lconst 0, 1) := by decide +kernel
theorem d_RM_whole_201 : decode prog_6_method_48_code 201 = .ok (.lcmp, 1) := by decide +kernel
theorem d_RM_whole_202 : decode prog_6_method_48_code 202 = .ok (.ifCond .lt 17, 3) := by decide +kernel
theorem d_RM_whole_205 : decode prog_6_method_48_code 205 = .ok (.iload 8, 2) := by decide +kernel
theorem d_RM_whole_207 : decode prog_6_method_48_code 207 = .ok (.ifCond .eq 17, 3) := by decide +kernel
theorem d_RM_whole_210 : decode prog_6_method_48_code 210 = .ok (.lload 4, 2) := by decide +kernel
theorem d_RM_whole_212 : decode prog_6_method_48_code 212 = .ok (.ldc2_w 142, 3) := by decide +kernel
theorem d_RM_whole_215 : decode prog_6_method_48_code 215 = .ok (.lcmp, 1) := by decide +kernel
theorem d_RM_whole_216 : decode prog_6_method_48_code 216 = .ok (.ifCond .ne 8, 3) := by decide +kernel
theorem d_RM_whole_219 : decode prog_6_method_48_code 219 = .ok (.iload_n 3, 1) := by decide +kernel
theorem d_RM_whole_220 : decode prog_6_method_48_code 220 = .ok (.invokestatic 146, 3) := by decide +kernel
theorem d_RM_whole_223 : decode prog_6_method_48_code 223 = .ok (.lreturn, 1) := by decide +kernel
theorem d_RM_whole_224 : decode prog_6_method_48_code 224 = .ok (.iload 8, 2) := by decide +kernel
theorem d_RM_whole_226 : decode prog_6_method_48_code 226 = .ok (.ifCond .eq 10, 3) := by decide +kernel
theorem d_RM_whole_229 : decode prog_6_method_48_code 229 = .ok (.lload 4, 2) := by decide +kernel
theorem d_RM_whole_231 : decode prog_6_method_48_code 231 = .ok (.lconst 1, 1) := by decide +kernel
theorem d_RM_whole_232 : decode prog_6_method_48_code 232 = .ok (.ladd, 1) := by decide +kernel
theorem d_RM_whole_233 : decode prog_6_method_48_code 233 = .ok (.goto 5, 3) := by decide +kernel
theorem d_RM_whole_236 : decode prog_6_method_48_code 236 = .ok (.lload 4, 2) := by decide +kernel
theorem d_RM_whole_238 : decode prog_6_method_48_code 238 = .ok (.lstore 4, 2) := by decide +kernel
theorem d_RM_whole_240 : decode prog_6_method_48_code 240 = .ok (.iload_n 3, 1) := by decide +kernel
theorem d_RM_whole_241 : decode prog_6_method_48_code 241 = .ok (.ifCond .le 8, 3) := by decide +kernel
theorem d_RM_whole_244 : decode prog_6_method_48_code 244 = .ok (.lload 4, 2) := by decide +kernel
theorem d_RM_whole_246 : decode prog_6_method_48_code 246 = .ok (.goto 6, 3) := by decide +kernel
theorem d_RM_whole_249 : decode prog_6_method_48_code 249 = .ok (.lload 4, 2) := by decide +kernel
theorem d_RM_whole_251 : decode prog_6_method_48_code 251 = .ok (.lneg, 1) := by decide +kernel
theorem d_RM_whole_252 : decode prog_6_method_48_code 252 = .ok (.lreturn, 1) := by decide +kernel
def RM_whole_63 (L3 : Int32) (st : rm_S) : Option (Int64 × rm_S) := nm (RM_beyond L3) (fun r64 => some (r64, st))
def RM_whole_219 (L3 : Int32) (st : rm_S) : Option (Int64 × rm_S) := nm (RM_beyond L3) (fun r220 => some (r220, st))
def RM_whole_238 (L3 : Int32) (s0 : Int64) (st : rm_S) : Option (Int64 × rm_S) := (if L3 ≤ 0 then some ((-s0), st) else some (s0, st))
def RM_whole_224 (L3 : Int32) (L4 : Int64) (L8 : Int32) (st : rm_S) : Option (Int64 × rm_S) := (if L8 = 0 then RM_whole_238 L3 L4 st else RM_whole_238 L3 (L4 + (1 : Int64)) st)
def RM_whole_196 (L3 : Int32) (L4 : Int64) (s0 : Int32) (st : rm_S) : Option (Int64 × rm_S) := (if (lg_cmp L4 (0 : Int64)) < 0 then RM_whole_219 L3 st else (if s0 = 0 then RM_whole_224 L3 L4 s0 st else (if (lg_cmp L4 (9223372036854775807 : Int64)) = 0 then RM_whole_219 L3 st else RM_whole_224 L3 L4 s0 st)))
def RM_whole_195 (L3 : Int32) (L4 : Int64) (st : rm_S) : Option (Int64 × rm_S) := RM_whole_196 L3 L4 (0 : Int32) st
def RM_whole_183 (L2 : Int32) (L3 : Int32) (L4 : Int64) (st : rm_S) : Option (Int64 × rm_S) := nm (RM_grows L2 L3) (fun r185 => (if r185 = 0 then RM_whole_195 L3 L4 st else RM_whole_196 L3 L4 (1 : Int32) st))
def RM_whole_169 (L3 : Int32) (L4 : Int64) (st : rm_S) : Option (Int64 × rm_S) := RM_whole_196 L3 L4 (0 : Int32) st
def RM_whole_165 (L3 : Int32) (L4 : Int64) (st : rm_S) : Option (Int64 × rm_S) := RM_whole_196 L3 L4 (1 : Int32) st
def RM_whole_131 (L2 : Int32) (L3 : Int32) (L4 : Int64) (s0 : Int32) (st : rm_S) : Option (Int64 × rm_S) := ob1 (RM_anyBelow st (599 : Int32)) (fun r137 => (if L2 = 0 then (if s0 = 0 then RM_whole_169 L3 L4 st else (if r137 = 0 then (if (lg_cmp (L4 &&& (1 : Int64)) (1 : Int64)) = 0 then RM_whole_165 L3 L4 st else RM_whole_169 L3 L4 st) else RM_whole_165 L3 L4 st)) else (if s0 = 0 then (if r137 = 0 then RM_whole_195 L3 L4 st else RM_whole_183 L2 L3 L4 st) else RM_whole_183 L2 L3 L4 st)))
def RM_whole_84 : Nat → Int32 → Int32 → Int64 → Int32 → rm_S → Option (Int64 × rm_S)
  | 0, _, _, _, _, _ => none
  | n + 1, L2, L3, L4, L6, st => (if L6 < 0 then (if ob_in (599 : Int32) 1024 = true then (if (st 6 (599 : Int32).toNatClampNeg) = (1 : Int32) then RM_whole_131 L2 L3 L4 (1 : Int32) st else RM_whole_131 L2 L3 L4 (0 : Int32) st) else none) else (if ob_in ((600 : Int32) + L6) 1024 = true then nm ((L4 <<< ((1 : Int32).toInt64 &&& 63)) ||| (st 6 ((600 : Int32) + L6).toNatClampNeg).toInt64) (fun x106 => nm (L6 + (-1 : Int32)) (fun x108 => (RM_whole_84 n) L2 L3 x106 x108 st)) else none))
def RM_whole (st : rm_S) (p0 : Int32) (p1 : Int32) : Option (Int64 × rm_S) := nm (RM_isRegister p0) (fun r1 => (if r1 = 0 then some ((0 : Int64), st) else nm (RM_isMode p1) (fun r8 => (if r8 = 0 then some ((0 : Int64), st) else (if ob_in p0 8 = true then (if (st 2 p0.toNatClampNeg) = 0 then some ((0 : Int64), st) else (if ob_in p0 8 = true then (if (st 2 p0.toNatClampNeg) = (2 : Int32) then some ((0 : Int64), st) else (if ob_in p0 8 = true then nm (st 3 p0.toNatClampNeg) (fun x41 => (if ob_in p0 8 = true then (if (st 2 p0.toNatClampNeg) = (1 : Int32) then RM_whole_63 x41 st else (if ob_in p0 8 = true then (if (st 4 p0.toNatClampNeg) ≤ (64 : Int32) then ob1 (RM_clear st) (fun t69 => ob1 (RM_put t69 p0) (fun t74 => RM_whole_84 (2000) p1 x41 (0 : Int64) (63 : Int32) t74)) else RM_whole_63 x41 st) else none)) else none)) else none)) else none)) else none)))))
set_option maxHeartbeats 4000000 in
set_option maxRecDepth 100000 in
theorem c_RM_whole (l : Launch) {D : va_G} (a : Nat → Nat) (ci : ClassId) (hi : rm_inj a) (st : rm_S) (p0 : Int32) (p1 : Int32) (r0 : Int64) (t0 : rm_S) (hF : RM_whole st p0 p1 = some (r0, t0)) : ct_l l ⟨"RoundedNumbersModel", "whole", "(II)J"⟩ (.code ⟨"RoundedNumbersModel", "whole", "(II)J"⟩ prog_6_method_48_code 9 (some .long) :: ct_T) { frames := 1, cells := 0, slots := 0, locals := 23 } D vwCl (rm_T ci) (rm_g a ci) (rm_X a) [.ref (a 0), .int p0, .int p1] st r0 t0 := by
  refine ct_l.mk (cc := prog_6_method_48_code) (maxL := 9) (by decide) rfl (Nat.le_of_ble_eq_true rfl) ?_
  intro p e s m below meth c hx hb hr hml hown hts hlk hK hN hP hS ls hl
  have hown : s.vm.findClass "RoundedNumbersModel" = some m.cls := hown
  have hl : lv_has ls 9 [(0, .ref (a 0)), (1, .int p0), (2, .int p1)] := hl
  have htb := fun w h => hts w (List.mem_cons_of_mem _ h)
  unfold RM_whole at hF
  refine lv_iload_n hx hb d_RM_whole_0 rfl (lv_at hl 1 rfl) ?_
  obtain ⟨r1, e1⟩ := nm_ex (RM_isRegister p0)
  replace hF := (nm_eq e1).symm.trans hF
  refine ct_calli (va_runS (As := [.int p0]) (rest := []) ⟨hx, hb, hml, hown, hts⟩ (c_RM_isRegister l (D := D) a ci hi st p0 _ e1 _) (kc_RM_40 hts ⟨by decide, by decide⟩) ⟨ct_blind, ct_ok hP hK hN⟩ rfl rfl hl.1 rfl (lv_room (Nat.le_of_ble_eq_true rfl)) d_RM_whole_1 ⟨Nat.zero_le _, Nat.zero_le _⟩) hS (fun H locs hP hS => ?_)
  refine lv_if_eq hx hb d_RM_whole_4 (tgt := 33) (by decide) (fun c4 => ?_) (fun c4 => ?_)
  · replace hF := (if_pos c4).symm.trans hF
    refine lv_lconst (v := 0) hx hb d_RM_whole_33 (by decide) ?_
    replace hF := Option.some.inj hF
    obtain ⟨rfl, rfl⟩ := Prod.mk.inj hF
    exact ct_lret hx hb hr hlk hP hS d_RM_whole_34
  · replace hF := (if_neg c4).symm.trans hF
    refine lv_iload_n hx hb d_RM_whole_7 rfl (lv_at hl 2 rfl) ?_
    obtain ⟨r8, e8⟩ := nm_ex (RM_isMode p1)
    replace hF := (nm_eq e8).symm.trans hF
    refine ct_calli (va_runS (As := [.int p1]) (rest := []) ⟨hx, hb, hml, hown, hts⟩ (c_RM_isMode l (D := D) a ci hi st p1 _ e8 _) (kc_RM_77 hts ⟨by decide, by decide⟩) ⟨ct_blind, ct_ok hP hK hN⟩ rfl rfl hl.1 rfl (lv_room (Nat.le_of_ble_eq_true rfl)) d_RM_whole_8 ⟨Nat.zero_le _, Nat.zero_le _⟩) hS (fun H locs hP hS => ?_)
    refine lv_if_eq hx hb d_RM_whole_11 (tgt := 33) (by decide) (fun c11 => ?_) (fun c11 => ?_)
    · replace hF := (if_pos c11).symm.trans hF
      refine lv_lconst (v := 0) hx hb d_RM_whole_33 (by decide) ?_
      replace hF := Option.some.inj hF
      obtain ⟨rfl, rfl⟩ := Prod.mk.inj hF
      exact ct_lret hx hb hr hlk hP hS d_RM_whole_34
    · replace hF := (if_neg c11).symm.trans hF
      refine lv_aload_n hx hb d_RM_whole_14 rfl (lv_at hl 0 rfl) ?_
      refine gf_RM_13 hx hb htb hown hK hP d_RM_whole_15 ?_
      refine lv_iload_n hx hb d_RM_whole_18 rfl (lv_at hl 1 rfl) ?_
      obtain ⟨b19, hF⟩ := ob_if hF
      refine rm_ald hx hb hK hP (k := 2) (by decide) (by decide) (ob_vi b19) d_RM_whole_19 ?_
      refine lv_if_eq hx hb d_RM_whole_20 (tgt := 33) (by decide) (fun c20 => ?_) (fun c20 => ?_)
      · replace hF := (if_pos c20).symm.trans hF
        refine lv_lconst (v := 0) hx hb d_RM_whole_33 (by decide) ?_
        replace hF := Option.some.inj hF
        obtain ⟨rfl, rfl⟩ := Prod.mk.inj hF
        exact ct_lret hx hb hr hlk hP hS d_RM_whole_34
      · replace hF := (if_neg c20).symm.trans hF
        refine lv_aload_n hx hb d_RM_whole_23 rfl (lv_at hl 0 rfl) ?_
        refine gf_RM_13 hx hb htb hown hK hP d_RM_whole_24 ?_
        refine lv_iload_n hx hb d_RM_whole_27 rfl (lv_at hl 1 rfl) ?_
        obtain ⟨b28, hF⟩ := ob_if hF
        refine rm_ald hx hb hK hP (k := 2) (by decide) (by decide) (ob_vi b28) d_RM_whole_28 ?_
        refine lv_iconst (v := 2) hx hb d_RM_whole_29 (by decide) ?_
        refine lv_icmp_ne hx hb d_RM_whole_30 (tgt := 35) (by decide) (fun c30 => ?_) (fun c30 => ?_)
        · replace hF := (if_neg c30).symm.trans hF
          refine lv_aload_n hx hb d_RM_whole_35 rfl (lv_at hl 0 rfl) ?_
          refine gf_RM_16 hx hb htb hown hK hP d_RM_whole_36 ?_
          refine lv_iload_n hx hb d_RM_whole_39 rfl (lv_at hl 1 rfl) ?_
          obtain ⟨b40, hF⟩ := ob_if hF
          refine rm_ald hx hb hK hP (k := 3) (by decide) (by decide) (ob_vi b40) d_RM_whole_40 ?_
          refine lv_topi (fun x41 e41 => ?_)
          replace hF := (nm_eq e41.symm).symm.trans hF
          refine lv_istore_n (lv' := [(3, .int x41), (0, .ref (a 0)), (1, .int p0), (2, .int p1)]) hx hb d_RM_whole_41 rfl hl (by decide) rfl (fun ls hl => ?_)
          refine lv_aload_n hx hb d_RM_whole_42 rfl (lv_at hl 1 rfl) ?_
          refine gf_RM_13 hx hb htb hown hK hP d_RM_whole_43 ?_
          refine lv_iload_n hx hb d_RM_whole_46 rfl (lv_at hl 2 rfl) ?_
          obtain ⟨b47, hF⟩ := ob_if hF
          refine rm_ald hx hb hK hP (k := 2) (by decide) (by decide) (ob_vi b47) d_RM_whole_47 ?_
          refine lv_iconst (v := 1) hx hb d_RM_whole_48 (by decide) ?_
          refine ct_cut0 (fun  ls H locs => lv_has ls 9 [(3, .int x41)] ∧ RM_whole_63 x41 st = some (r0, t0) ∧ va_P D vwCl (rm_g a ci st) H ∧ va_S (ct_F (rm_X a) s.heap.size) s.heap H locs) 63 [] ?_ ?_
          · intro ls H locs hq
            obtain ⟨hl, hF, hP, hS⟩ := hq
            unfold RM_whole_63 at hF
            refine lv_iload_n hx hb d_RM_whole_63 rfl (lv_at hl 0 rfl) ?_
            obtain ⟨r64, e64⟩ := nm_ex (RM_beyond x41)
            replace hF := (nm_eq e64).symm.trans hF
            refine ct_calll (va_runS (As := [.int x41]) (rest := []) ⟨hx, hb, hml, hown, hts⟩ (c_RM_beyond l (D := D) a ci hi st x41 _ e64 _) (kc_RM_146 hts ⟨by decide, by decide⟩) ⟨ct_blind, ct_ok hP hK hN⟩ rfl rfl hl.1 rfl (lv_room (Nat.le_of_ble_eq_true rfl)) d_RM_whole_64 ⟨Nat.zero_le _, Nat.zero_le _⟩) hS (fun H locs hP hS => ?_)
            replace hF := Option.some.inj hF
            obtain ⟨rfl, rfl⟩ := Prod.mk.inj hF
            exact ct_lret hx hb hr hlk hP hS d_RM_whole_67
          · intro kj63
            refine lv_icmp_eq hx hb d_RM_whole_49 (tgt := 63) (by decide) (fun c49 => ?_) (fun c49 => ?_)
            · replace hF := (if_pos c49).symm.trans hF
              exact kj63 _ _ _ ⟨lv_sub hl [0] rfl, hF, hP, hS⟩
            · replace hF := (if_neg c49).symm.trans hF
              refine lv_aload_n hx hb d_RM_whole_52 rfl (lv_at hl 1 rfl) ?_
              refine gf_RM_19 hx hb htb hown hK hP d_RM_whole_53 ?_
              refine lv_iload_n hx hb d_RM_whole_56 rfl (lv_at hl 2 rfl) ?_
              obtain ⟨b57, hF⟩ := ob_if hF
              refine rm_ald hx hb hK hP (k := 4) (by decide) (by decide) (ob_vi b57) d_RM_whole_57 ?_
              refine lv_bipush (v := 64) hx hb d_RM_whole_58 (by decide) ?_
              refine lv_icmp_le hx hb d_RM_whole_60 (tgt := 68) (by decide) (fun c60 => ?_) (fun c60 => ?_)
              · replace hF := (if_pos c60).symm.trans hF
                refine lv_aload_n hx hb d_RM_whole_68 rfl (lv_at hl 1 rfl) ?_
                obtain ⟨t69, e69, hF⟩ := ob_one hF
                refine ct_callv (va_runV (As := []) (rest := []) ⟨hx, hb, hml, hown, hts⟩ (c_RM_clear l (D := D) a ci hi st _ e69 _) (kc_RM_80 hts ⟨by decide, by decide⟩) ⟨ct_blind, rm_rc hK hP, ct_ok hP hK hN⟩ rfl rfl hl.1 rfl (lv_room (Nat.le_of_ble_eq_true rfl)) d_RM_whole_69 ⟨Nat.zero_le _, Nat.zero_le _⟩) hS (fun H locs hP hS => ?_)
                refine lv_aload_n hx hb d_RM_whole_72 rfl (lv_at hl 1 rfl) ?_
                refine lv_iload_n hx hb d_RM_whole_73 rfl (lv_at hl 2 rfl) ?_
                obtain ⟨t74, e74, hF⟩ := ob_one hF
                refine ct_callv (va_runV (As := [.int p0]) (rest := []) ⟨hx, hb, hml, hown, hts⟩ (c_RM_put l (D := D) a ci hi t69 p0 _ e74 _) (kc_RM_86 hts ⟨by decide, by decide⟩) ⟨ct_blind, rm_rc hK hP, ct_ok hP hK hN⟩ rfl rfl hl.1 rfl (lv_room (Nat.le_of_ble_eq_true rfl)) d_RM_whole_74 ⟨Nat.zero_le _, Nat.zero_le _⟩) hS (fun H locs hP hS => ?_)
                refine lv_lconst (v := 0) hx hb d_RM_whole_77 (by decide) ?_
                refine lv_lstore (lv' := [(4, .long (0 : Int64)), (3, .int x41), (0, .ref (a 0)), (1, .int p0), (2, .int p1)]) hx hb d_RM_whole_78 hl (by decide) rfl (fun ls hl => ?_)
                refine lv_bipush (v := 63) hx hb d_RM_whole_80 (by decide) ?_
                refine lv_istore (lv' := [(6, .int (63 : Int32)), (4, .long (0 : Int64)), (3, .int x41), (0, .ref (a 0)), (1, .int p0), (2, .int p1)]) hx hb d_RM_whole_82 hl (by decide) rfl (fun ls hl => ?_)
                refine ct_loop2 (fun n (w84L6 : Int32) (w84L4 : Int64) ls H locs => lv_has ls 9 [(6, .int w84L6), (4, .long w84L4), (3, .int x41), (0, .ref (a 0)), (2, .int p1)] ∧ RM_whole_84 n p1 x41 w84L4 w84L6 t74 = some (r0, t0) ∧ va_P D vwCl (rm_g a ci t74) H ∧ va_S (ct_F (rm_X a) s.heap.size) s.heap H locs) 84 ?_ ?_ (2000) (63 : Int32) (0 : Int64) ⟨lv_sub hl [0, 1, 2, 3, 5] rfl, hF, hP, hS⟩
                · intro w84L6 w84L4 ls H locs hq
                  obtain ⟨hl, hF, hP, hS⟩ := hq
                  rw [RM_whole_84] at hF
                  cases hF
                · intro n84 ih84 w84L6 w84L4 ls H locs hq
                  obtain ⟨hl, hF, hP, hS⟩ := hq
                  rw [RM_whole_84] at hF
                  refine lv_iload hx hb d_RM_whole_84 (lv_at hl 0 rfl) ?_
                  refine lv_if_lt hx hb d_RM_whole_86 (tgt := 114) (by decide) (fun c86 => ?_) (fun c86 => ?_)
                  · replace hF := (if_pos c86).symm.trans hF
                    refine lv_aload_n hx hb d_RM_whole_114 rfl (lv_at hl 3 rfl) ?_
                    refine gf_RM_25 hx hb htb hown hK hP d_RM_whole_115 ?_
                    refine lv_sipush (v := 599) hx hb d_RM_whole_118 (by decide) ?_
                    obtain ⟨b121, hF⟩ := ob_if hF
                    refine rm_ald hx hb hK hP (k := 6) (by decide) (by decide) (ob_vi b121) d_RM_whole_121 ?_
                    refine lv_iconst (v := 1) hx hb d_RM_whole_122 (by decide) ?_
                    refine ct_cut1 (fun (j131s0 : Int32) ls H locs => lv_has ls 9 [(4, .long w84L4), (3, .int x41), (0, .ref (a 0)), (2, .int p1)] ∧ RM_whole_131 p1 x41 w84L4 j131s0 t74 = some (r0, t0) ∧ va_P D vwCl (rm_g a ci t74) H ∧ va_S (ct_F (rm_X a) s.heap.size) s.heap H locs) 131 (fun j131s0 => [.int j131s0]) ?_ ?_
                    · intro j131s0 ls H locs hq
                      obtain ⟨hl, hF, hP, hS⟩ := hq
                      unfold RM_whole_131 at hF
                      refine lv_istore (lv' := [(6, .int j131s0), (4, .long w84L4), (3, .int x41), (0, .ref (a 0)), (2, .int p1)]) hx hb d_RM_whole_131 hl (by decide) rfl (fun ls hl => ?_)
                      refine lv_aload_n hx hb d_RM_whole_133 rfl (lv_at hl 3 rfl) ?_
                      refine lv_sipush (v := 599) hx hb d_RM_whole_134 (by decide) ?_
                      obtain ⟨r137, e137, hF⟩ := ob_one hF
                      refine ct_calli (va_runV (As := [.int (599 : Int32)]) (rest := []) ⟨hx, hb, hml, hown, hts⟩ (c_RM_anyBelow l (D := D) a ci hi t74 (599 : Int32) _ e137 _) (kc_RM_44 hts ⟨by decide, by decide⟩) ⟨ct_blind, rm_rc hK hP, ct_ok hP hK hN⟩ rfl rfl hl.1 rfl (lv_room (Nat.le_of_ble_eq_true rfl)) d_RM_whole_137 ⟨Nat.zero_le _, Nat.zero_le _⟩) hS (fun H locs hP hS => ?_)
                      refine lv_istore (lv' := [(7, .int r137), (6, .int j131s0), (4, .long w84L4), (3, .int x41), (0, .ref (a 0)), (2, .int p1)]) hx hb d_RM_whole_140 hl (by decide) rfl (fun ls hl => ?_)
                      refine lv_iload_n hx hb d_RM_whole_142 rfl (lv_at hl 5 rfl) ?_
                      refine ct_cut1 (fun (j196s0 : Int32) ls H locs => lv_has ls 9 [(4, .long w84L4), (3, .int x41)] ∧ RM_whole_196 x41 w84L4 j196s0 t74 = some (r0, t0) ∧ va_P D vwCl (rm_g a ci t74) H ∧ va_S (ct_F (rm_X a) s.heap.size) s.heap H locs) 196 (fun j196s0 => [.int j196s0]) ?_ ?_
                      · intro j196s0 ls H locs hq
                        obtain ⟨hl, hF, hP, hS⟩ := hq
                        unfold RM_whole_196 at hF
                        refine lv_istore (lv' := [(8, .int j196s0), (4, .long w84L4), (3, .int x41)]) hx hb d_RM_whole_196 hl (by decide) rfl (fun ls hl => ?_)
                        refine lv_lload hx hb d_RM_whole_198 (lv_at hl 1 rfl) ?_
                        refine lv_lconst (v := 0) hx hb d_RM_whole_200 (by decide) ?_
                        refine W.lcmp hx hb d_RM_whole_201 ?_
                        refine ct_cut0 (fun  ls H locs => lv_has ls 9 [(3, .int x41)] ∧ RM_whole_219 x41 t74 = some (r0, t0) ∧ va_P D vwCl (rm_g a ci t74) H ∧ va_S (ct_F (rm_X a) s.heap.size) s.heap H locs) 219 [] ?_ ?_
                        · intro ls H locs hq
                          obtain ⟨hl, hF, hP, hS⟩ := hq
                          unfold RM_whole_219 at hF
                          refine lv_iload_n hx hb d_RM_whole_219 rfl (lv_at hl 0 rfl) ?_
                          obtain ⟨r220, e220⟩ := nm_ex (RM_beyond x41)
                          replace hF := (nm_eq e220).symm.trans hF
                          refine ct_calll (va_runS (As := [.int x41]) (rest := []) ⟨hx, hb, hml, hown, hts⟩ (c_RM_beyond l (D := D) a ci hi t74 x41 _ e220 _) (kc_RM_146 hts ⟨by decide, by decide⟩) ⟨ct_blind, ct_ok hP hK hN⟩ rfl rfl hl.1 rfl (lv_room (Nat.le_of_ble_eq_true rfl)) d_RM_whole_220 ⟨Nat.zero_le _, Nat.zero_le _⟩) hS (fun H locs hP hS => ?_)
                          replace hF := Option.some.inj hF
                          obtain ⟨rfl, rfl⟩ := Prod.mk.inj hF
                          exact ct_lret hx hb hr hlk hP hS d_RM_whole_223
                        · intro kj219
                          refine lv_if_lt hx hb d_RM_whole_202 (tgt := 219) (by decide) (fun c202 => ?_) (fun c202 => ?_)
                          · replace hF := (if_pos c202).symm.trans hF
                            exact kj219 _ _ _ ⟨lv_sub hl [2] rfl, hF, hP, hS⟩
                          · replace hF := (if_neg c202).symm.trans hF
                            refine lv_iload hx hb d_RM_whole_205 (lv_at hl 0 rfl) ?_
                            refine ct_cut0 (fun  ls H locs => lv_has ls 9 [(8, .int j196s0), (4, .long w84L4), (3, .int x41)] ∧ RM_whole_224 x41 w84L4 j196s0 t74 = some (r0, t0) ∧ va_P D vwCl (rm_g a ci t74) H ∧ va_S (ct_F (rm_X a) s.heap.size) s.heap H locs) 224 [] ?_ ?_
                            · intro ls H locs hq
                              obtain ⟨hl, hF, hP, hS⟩ := hq
                              unfold RM_whole_224 at hF
                              refine lv_iload hx hb d_RM_whole_224 (lv_at hl 0 rfl) ?_
                              refine ct_cut1 (fun (j238s0 : Int64) ls H locs => lv_has ls 9 [(3, .int x41)] ∧ RM_whole_238 x41 j238s0 t74 = some (r0, t0) ∧ va_P D vwCl (rm_g a ci t74) H ∧ va_S (ct_F (rm_X a) s.heap.size) s.heap H locs) 238 (fun j238s0 => [.long j238s0]) ?_ ?_
                              · intro j238s0 ls H locs hq
                                obtain ⟨hl, hF, hP, hS⟩ := hq
                                unfold RM_whole_238 at hF
                                refine lv_lstore (lv' := [(4, .long j238s0), (3, .int x41)]) hx hb d_RM_whole_238 hl (by decide) rfl (fun ls hl => ?_)
                                refine lv_iload_n hx hb d_RM_whole_240 rfl (lv_at hl 1 rfl) ?_
                                refine lv_if_le hx hb d_RM_whole_241 (tgt := 249) (by decide) (fun c241 => ?_) (fun c241 => ?_)
                                · replace hF := (if_pos c241).symm.trans hF
                                  refine lv_lload hx hb d_RM_whole_249 (lv_at hl 0 rfl) ?_
                                  refine lv_lneg hx hb d_RM_whole_251 ?_
                                  replace hF := Option.some.inj hF
                                  obtain ⟨rfl, rfl⟩ := Prod.mk.inj hF
                                  exact ct_lret hx hb hr hlk hP hS d_RM_whole_252
                                · replace hF := (if_neg c241).symm.trans hF
                                  refine lv_lload hx hb d_RM_whole_244 (lv_at hl 0 rfl) ?_
                                  refine lv_goto hx hb d_RM_whole_246 (tgt := 252) (by decide) ?_
                                  replace hF := Option.some.inj hF
                                  obtain ⟨rfl, rfl⟩ := Prod.mk.inj hF
                                  exact ct_lret hx hb hr hlk hP hS d_RM_whole_252
                              · intro kj238
                                refine lv_if_eq hx hb d_RM_whole_226 (tgt := 236) (by decide) (fun c226 => ?_) (fun c226 => ?_)
                                · replace hF := (if_pos c226).symm.trans hF
                                  refine lv_lload hx hb d_RM_whole_236 (lv_at hl 1 rfl) ?_
                                  exact kj238 w84L4 _ _ _ ⟨lv_sub hl [2] rfl, hF, hP, hS⟩
                                · replace hF := (if_neg c226).symm.trans hF
                                  refine lv_lload hx hb d_RM_whole_229 (lv_at hl 1 rfl) ?_
                                  refine lv_lconst (v := 1) hx hb d_RM_whole_231 (by decide) ?_
                                  refine lv_ladd hx hb d_RM_whole_232 ?_
                                  refine lv_goto hx hb d_RM_whole_233 (tgt := 238) (by decide) ?_
                                  exact kj238 (w84L4 + (1 : Int64)) _ _ _ ⟨lv_sub hl [2] rfl, hF, hP, hS⟩
                            · intro kj224
                              refine lv_if_eq hx hb d_RM_whole_207 (tgt := 224) (by decide) (fun c207 => ?_) (fun c207 => ?_)
                              · replace hF := (if_pos c207).symm.trans hF
                                exact kj224 _ _ _ ⟨lv_sub hl [0, 1, 2] rfl, hF, hP, hS⟩
                              · replace hF := (if_neg c207).symm.trans hF
                                refine lv_lload hx hb d_RM_whole_210 (lv_at hl 1 rfl) ?_
                                refine lv_ldc2 (v := 9223372036854775807) hx hb hown (htb _ mw_384) d_RM_whole_212 ?_
                                refine W.lcmp hx hb d_RM_whole_215 ?_
                                refine lv_if_ne hx hb d_RM_whole_216 (tgt := 224) (by decide) (fun c216 => ?_) (fun c216 => ?_)
                                · replace hF := (if_neg c216).symm.trans hF
                                  exact kj224 _ _ _ ⟨lv_sub hl [0, 1, 2] rfl, hF, hP, hS⟩
                                · replace hF := (if_pos c216).symm.trans hF
                                  exact kj219 _ _ _ ⟨lv_sub hl [2] rfl, hF, hP, hS⟩
                      · intro kj196
                        refine lv_if_ne hx hb d_RM_whole_143 (tgt := 173) (by decide) (fun c143 => ?_) (fun c143 => ?_)
                        · replace hF := (if_neg c143).symm.trans hF
                          refine lv_iload hx hb d_RM_whole_173 (lv_at hl 1 rfl) ?_
                          refine ct_cut0 (fun  ls H locs => lv_has ls 9 [(4, .long w84L4), (3, .int x41)] ∧ RM_whole_195 x41 w84L4 t74 = some (r0, t0) ∧ va_P D vwCl (rm_g a ci t74) H ∧ va_S (ct_F (rm_X a) s.heap.size) s.heap H locs) 195 [] ?_ ?_
                          · intro ls H locs hq
                            obtain ⟨hl, hF, hP, hS⟩ := hq
                            unfold RM_whole_195 at hF
                            refine lv_iconst (v := 0) hx hb d_RM_whole_195 (by decide) ?_
                            exact kj196 (0 : Int32) _ _ _ ⟨lv_sub hl [0, 1] rfl, hF, hP, hS⟩
                          · intro kj195
                            refine ct_cut0 (fun  ls H locs => lv_has ls 9 [(4, .long w84L4), (3, .int x41), (2, .int p1)] ∧ RM_whole_183 p1 x41 w84L4 t74 = some (r0, t0) ∧ va_P D vwCl (rm_g a ci t74) H ∧ va_S (ct_F (rm_X a) s.heap.size) s.heap H locs) 183 [] ?_ ?_
                            · intro ls H locs hq
                              obtain ⟨hl, hF, hP, hS⟩ := hq
                              unfold RM_whole_183 at hF
                              refine lv_iload_n hx hb d_RM_whole_183 rfl (lv_at hl 2 rfl) ?_
                              refine lv_iload_n hx hb d_RM_whole_184 rfl (lv_at hl 1 rfl) ?_
                              obtain ⟨r185, e185⟩ := nm_ex (RM_grows p1 x41)
                              replace hF := (nm_eq e185).symm.trans hF
                              refine ct_calli (va_runS (As := [.int p1, .int x41]) (rest := []) ⟨hx, hb, hml, hown, hts⟩ (c_RM_grows l (D := D) a ci hi t74 p1 x41 _ e185 _) (kc_RM_47 hts ⟨by decide, by decide⟩) ⟨ct_blind, ct_ok hP hK hN⟩ rfl rfl hl.1 rfl (lv_room (Nat.le_of_ble_eq_true rfl)) d_RM_whole_185 ⟨Nat.zero_le _, Nat.zero_le _⟩) hS (fun H locs hP hS => ?_)
                              refine lv_if_eq hx hb d_RM_whole_188 (tgt := 195) (by decide) (fun c188 => ?_) (fun c188 => ?_)
                              · replace hF := (if_pos c188).symm.trans hF
                                exact kj195 _ _ _ ⟨lv_sub hl [0, 1] rfl, hF, hP, hS⟩
                              · replace hF := (if_neg c188).symm.trans hF
                                refine lv_iconst (v := 1) hx hb d_RM_whole_191 (by decide) ?_
                                refine lv_goto hx hb d_RM_whole_192 (tgt := 196) (by decide) ?_
                                exact kj196 (1 : Int32) _ _ _ ⟨lv_sub hl [0, 1] rfl, hF, hP, hS⟩
                            · intro kj183
                              refine lv_if_ne hx hb d_RM_whole_175 (tgt := 183) (by decide) (fun c175 => ?_) (fun c175 => ?_)
                              · replace hF := (if_neg c175).symm.trans hF
                                exact kj183 _ _ _ ⟨lv_sub hl [2, 3, 5] rfl, hF, hP, hS⟩
                              · replace hF := (if_pos c175).symm.trans hF
                                refine lv_iload hx hb d_RM_whole_178 (lv_at hl 0 rfl) ?_
                                refine lv_if_eq hx hb d_RM_whole_180 (tgt := 195) (by decide) (fun c180 => ?_) (fun c180 => ?_)
                                · replace hF := (if_pos c180).symm.trans hF
                                  exact kj195 _ _ _ ⟨lv_sub hl [2, 3] rfl, hF, hP, hS⟩
                                · replace hF := (if_neg c180).symm.trans hF
                                  exact kj183 _ _ _ ⟨lv_sub hl [2, 3, 5] rfl, hF, hP, hS⟩
                        · replace hF := (if_pos c143).symm.trans hF
                          refine lv_iload hx hb d_RM_whole_146 (lv_at hl 1 rfl) ?_
                          refine ct_cut0 (fun  ls H locs => lv_has ls 9 [(4, .long w84L4), (3, .int x41)] ∧ RM_whole_169 x41 w84L4 t74 = some (r0, t0) ∧ va_P D vwCl (rm_g a ci t74) H ∧ va_S (ct_F (rm_X a) s.heap.size) s.heap H locs) 169 [] ?_ ?_
                          · intro ls H locs hq
                            obtain ⟨hl, hF, hP, hS⟩ := hq
                            unfold RM_whole_169 at hF
                            refine lv_iconst (v := 0) hx hb d_RM_whole_169 (by decide) ?_
                            refine lv_goto hx hb d_RM_whole_170 (tgt := 196) (by decide) ?_
                            exact kj196 (0 : Int32) _ _ _ ⟨lv_sub hl [0, 1] rfl, hF, hP, hS⟩
                          · intro kj169
                            refine lv_if_eq hx hb d_RM_whole_148 (tgt := 169) (by decide) (fun c148 => ?_) (fun c148 => ?_)
                            · replace hF := (if_pos c148).symm.trans hF
                              exact kj169 _ _ _ ⟨lv_sub hl [2, 3] rfl, hF, hP, hS⟩
                            · replace hF := (if_neg c148).symm.trans hF
                              refine lv_iload hx hb d_RM_whole_151 (lv_at hl 0 rfl) ?_
                              refine ct_cut0 (fun  ls H locs => lv_has ls 9 [(4, .long w84L4), (3, .int x41)] ∧ RM_whole_165 x41 w84L4 t74 = some (r0, t0) ∧ va_P D vwCl (rm_g a ci t74) H ∧ va_S (ct_F (rm_X a) s.heap.size) s.heap H locs) 165 [] ?_ ?_
                              · intro ls H locs hq
                                obtain ⟨hl, hF, hP, hS⟩ := hq
                                unfold RM_whole_165 at hF
                                refine lv_iconst (v := 1) hx hb d_RM_whole_165 (by decide) ?_
                                refine lv_goto hx hb d_RM_whole_166 (tgt := 196) (by decide) ?_
                                exact kj196 (1 : Int32) _ _ _ ⟨lv_sub hl [0, 1] rfl, hF, hP, hS⟩
                              · intro kj165
                                refine lv_if_ne hx hb d_RM_whole_153 (tgt := 165) (by decide) (fun c153 => ?_) (fun c153 => ?_)
                                · replace hF := (if_neg c153).symm.trans hF
                                  exact kj165 _ _ _ ⟨lv_sub hl [2, 3] rfl, hF, hP, hS⟩
                                · replace hF := (if_pos c153).symm.trans hF
                                  refine lv_lload hx hb d_RM_whole_156 (lv_at hl 2 rfl) ?_
                                  refine lv_lconst (v := 1) hx hb d_RM_whole_158 (by decide) ?_
                                  refine lv_land hx hb d_RM_whole_159 ?_
                                  refine lv_lconst (v := 1) hx hb d_RM_whole_160 (by decide) ?_
                                  refine W.lcmp hx hb d_RM_whole_161 ?_
                                  refine lv_if_ne hx hb d_RM_whole_162 (tgt := 169) (by decide) (fun c162 => ?_) (fun c162 => ?_)
                                  · replace hF := (if_neg c162).symm.trans hF
                                    exact kj169 _ _ _ ⟨lv_sub hl [2, 3] rfl, hF, hP, hS⟩
                                  · replace hF := (if_pos c162).symm.trans hF
                                    exact kj165 _ _ _ ⟨lv_sub hl [2, 3] rfl, hF, hP, hS⟩
                    · intro kj131
                      refine lv_icmp_ne hx hb d_RM_whole_123 (tgt := 130) (by decide) (fun c123 => ?_) (fun c123 => ?_)
                      · replace hF := (if_neg c123).symm.trans hF
                        refine lv_iconst (v := 0) hx hb d_RM_whole_130 (by decide) ?_
                        exact kj131 (0 : Int32) _ _ _ ⟨lv_sub hl [1, 2, 3, 4] rfl, hF, hP, hS⟩
                      · replace hF := (if_pos c123).symm.trans hF
                        refine lv_iconst (v := 1) hx hb d_RM_whole_126 (by decide) ?_
                        refine lv_goto hx hb d_RM_whole_127 (tgt := 131) (by decide) ?_
                        exact kj131 (1 : Int32) _ _ _ ⟨lv_sub hl [1, 2, 3, 4] rfl, hF, hP, hS⟩
                  · replace hF := (if_neg c86).symm.trans hF
                    refine lv_lload hx hb d_RM_whole_89 (lv_at hl 1 rfl) ?_
                    refine lv_iconst (v := 1) hx hb d_RM_whole_91 (by decide) ?_
                    refine lv_lshl hx hb d_RM_whole_92 rfl ?_
                    refine lv_aload_n hx hb d_RM_whole_93 rfl (lv_at hl 3 rfl) ?_
                    refine gf_RM_25 hx hb htb hown hK hP d_RM_whole_94 ?_
                    refine lv_sipush (v := 600) hx hb d_RM_whole_97 (by decide) ?_
                    refine lv_iload hx hb d_RM_whole_100 (lv_at hl 0 rfl) ?_
                    refine lv_iadd hx hb d_RM_whole_102 ?_
                    obtain ⟨b103, hF⟩ := ob_if hF
                    refine rm_ald hx hb hK hP (k := 6) (by decide) (by decide) (ob_vi b103) d_RM_whole_103 ?_
                    refine lv_i2l hx hb d_RM_whole_104 rfl ?_
                    refine lv_lor hx hb d_RM_whole_105 ?_
                    refine lv_topl (fun x106 e106 => ?_)
                    replace hF := (nm_eq e106.symm).symm.trans hF
                    refine lv_lstore (lv' := [(4, .long x106), (6, .int w84L6), (3, .int x41), (0, .ref (a 0)), (2, .int p1)]) hx hb d_RM_whole_106 hl (by decide) rfl (fun ls hl => ?_)
                    obtain ⟨x108, e108⟩ := nm_ex (w84L6 + (-1 : Int32))
                    replace hF := (nm_eq e108).symm.trans hF
                    refine lv_iinc (v := x108) (lv' := [(6, .int x108), (4, .long x106), (3, .int x41), (0, .ref (a 0)), (2, .int p1)]) hx hb d_RM_whole_108 hl (k := 1) rfl e108 (by decide) rfl (fun ls hl => ?_)
                    refine lv_goto hx hb d_RM_whole_111 (tgt := 84) (by decide) ?_
                    exact ih84 x108 x106 _ _ _ ⟨lv_sub hl [0, 1, 2, 3, 4] rfl, hF, hP, hS⟩
              · replace hF := (if_neg c60).symm.trans hF
                exact kj63 _ _ _ ⟨lv_sub hl [0] rfl, hF, hP, hS⟩
        · replace hF := (if_pos c30).symm.trans hF
          refine lv_lconst (v := 0) hx hb d_RM_whole_33 (by decide) ?_
          replace hF := Option.some.inj hF
          obtain ⟨rfl, rfl⟩ := Prod.mk.inj hF
          exact ct_lret hx hb hr hlk hP hS d_RM_whole_34
