theorem d_RM_isRegister_0 : decode prog_6_method_2_code 0 = .ok (.iload_n 0, 1) := by decide +kernel
theorem d_RM_isRegister_1 : decode prog_6_method_2_code 1 = .ok (.ifCond .lt 13, 3) := by decide +kernel
theorem d_RM_isRegister_4 : decode prog_6_method_2_code 4 = .ok (.iload_n 0, 1) := by decide +kernel
theorem d_RM_isRegister_5 : decode prog_6_method_2_code 5 = .ok (.bipush 8, 2) := by decide +kernel
theorem d_RM_isRegister_7 : decode prog_6_method_2_code 7 = .ok (.if_icmp .ge 7, 3) := by decide +kernel
theorem d_RM_isRegister_10 : decode prog_6_method_2_code 10 = .ok (.iconst 1, 1) := by decide +kernel
theorem d_RM_isRegister_11 : decode prog_6_method_2_code 11 = .ok (.goto 4, 3) := by decide +kernel
theorem d_RM_isRegister_14 : decode prog_6_method_2_code 14 = .ok (.iconst 0, 1) := by decide +kernel
theorem d_RM_isRegister_15 : decode prog_6_method_2_code 15 = .ok (.ireturn, 1) := by decide +kernel
def RM_isRegister (p0 : Int32) : Int32 := (if p0 < 0 then (0 : Int32) else (if (8 : Int32) ≤ p0 then (0 : Int32) else (1 : Int32)))
set_option maxHeartbeats 4000000 in
set_option maxRecDepth 100000 in
theorem c_RM_isRegister (l : Launch) {D : va_G} (a : Nat → Nat) (ci : ClassId) (hi : rm_inj a) (st : rm_S) (p0 : Int32) (r0 : Int32) (hF : RM_isRegister p0 = r0) : ct_i l ⟨"RoundedNumbersModel", "isRegister", "(I)Z"⟩ (.code ⟨"RoundedNumbersModel", "isRegister", "(I)Z"⟩ prog_6_method_2_code 1 (some .boolean) :: ct_T) { frames := 0, cells := 0, slots := 0, locals := 0 } D vwCl (rm_T ci) (rm_g a ci) (rm_X a) [.int p0] st r0 st := by
  refine ct_i.mk (cc := prog_6_method_2_code) (maxL := 1) (by decide) rfl (Nat.le_of_ble_eq_true rfl) ?_
  intro p e s m below meth c hx hb hr hml hown hts hlk hK hN hP hS ls hl
  have hown : s.vm.findClass "RoundedNumbersModel" = some m.cls := hown
  have hl : lv_has ls 1 [(0, .int p0)] := hl
  have htb := fun w h => hts w (List.mem_cons_of_mem _ h)
  unfold RM_isRegister at hF
  refine lv_iload_n hx hb d_RM_isRegister_0 rfl (lv_at hl 0 rfl) ?_
  refine lv_if_lt hx hb d_RM_isRegister_1 (tgt := 14) (by decide) (fun c1 => ?_) (fun c1 => ?_)
  · replace hF := (if_pos c1).symm.trans hF
    refine lv_iconst (v := 0) hx hb d_RM_isRegister_14 (by decide) ?_
    subst hF
    exact ct_zret hx hb hr hlk (by decide) hP hS d_RM_isRegister_15
  · replace hF := (if_neg c1).symm.trans hF
    refine lv_iload_n hx hb d_RM_isRegister_4 rfl (lv_at hl 0 rfl) ?_
    refine lv_bipush (v := 8) hx hb d_RM_isRegister_5 (by decide) ?_
    refine lv_icmp_ge hx hb d_RM_isRegister_7 (tgt := 14) (by decide) (fun c7 => ?_) (fun c7 => ?_)
    · replace hF := (if_pos c7).symm.trans hF
      refine lv_iconst (v := 0) hx hb d_RM_isRegister_14 (by decide) ?_
      subst hF
      exact ct_zret hx hb hr hlk (by decide) hP hS d_RM_isRegister_15
    · replace hF := (if_neg c7).symm.trans hF
      refine lv_iconst (v := 1) hx hb d_RM_isRegister_10 (by decide) ?_
      refine lv_goto hx hb d_RM_isRegister_11 (tgt := 15) (by decide) ?_
      subst hF
      exact ct_zret hx hb hr hlk (by decide) hP hS d_RM_isRegister_15
theorem d_RM_isMode_0 : decode prog_6_method_3_code 0 = .ok (.iload_n 0, 1) := by decide +kernel
theorem d_RM_isMode_1 : decode prog_6_method_3_code 1 = .ok (.ifCond .lt 12, 3) := by decide +kernel
theorem d_RM_isMode_4 : decode prog_6_method_3_code 4 = .ok (.iload_n 0, 1) := by decide +kernel
theorem d_RM_isMode_5 : decode prog_6_method_3_code 5 = .ok (.iconst 4, 1) := by decide +kernel
theorem d_RM_isMode_6 : decode prog_6_method_3_code 6 = .ok (.if_icmp .gt 7, 3) := by decide +kernel
theorem d_RM_isMode_9 : decode prog_6_method_3_code 9 = .ok (.iconst 1, 1) := by decide +kernel
theorem d_RM_isMode_10 : decode prog_6_method_3_code 10 = .ok (.goto 4, 3) := by decide +kernel
theorem d_RM_isMode_13 : decode prog_6_method_3_code 13 = .ok (.iconst 0, 1) := by decide +kernel
theorem d_RM_isMode_14 : decode prog_6_method_3_code 14 = .ok (.ireturn, 1) := by decide +kernel
def RM_isMode (p0 : Int32) : Int32 := (if p0 < 0 then (0 : Int32) else (if (4 : Int32) < p0 then (0 : Int32) else (1 : Int32)))
set_option maxHeartbeats 4000000 in
set_option maxRecDepth 100000 in
theorem c_RM_isMode (l : Launch) {D : va_G} (a : Nat → Nat) (ci : ClassId) (hi : rm_inj a) (st : rm_S) (p0 : Int32) (r0 : Int32) (hF : RM_isMode p0 = r0) : ct_i l ⟨"RoundedNumbersModel", "isMode", "(I)Z"⟩ (.code ⟨"RoundedNumbersModel", "isMode", "(I)Z"⟩ prog_6_method_3_code 1 (some .boolean) :: ct_T) { frames := 0, cells := 0, slots := 0, locals := 0 } D vwCl (rm_T ci) (rm_g a ci) (rm_X a) [.int p0] st r0 st := by
  refine ct_i.mk (cc := prog_6_method_3_code) (maxL := 1) (by decide) rfl (Nat.le_of_ble_eq_true rfl) ?_
  intro p e s m below meth c hx hb hr hml hown hts hlk hK hN hP hS ls hl
  have hown : s.vm.findClass "RoundedNumbersModel" = some m.cls := hown
  have hl : lv_has ls 1 [(0, .int p0)] := hl
  have htb := fun w h => hts w (List.mem_cons_of_mem _ h)
  unfold RM_isMode at hF
  refine lv_iload_n hx hb d_RM_isMode_0 rfl (lv_at hl 0 rfl) ?_
  refine lv_if_lt hx hb d_RM_isMode_1 (tgt := 13) (by decide) (fun c1 => ?_) (fun c1 => ?_)
  · replace hF := (if_pos c1).symm.trans hF
    refine lv_iconst (v := 0) hx hb d_RM_isMode_13 (by decide) ?_
    subst hF
    exact ct_zret hx hb hr hlk (by decide) hP hS d_RM_isMode_14
  · replace hF := (if_neg c1).symm.trans hF
    refine lv_iload_n hx hb d_RM_isMode_4 rfl (lv_at hl 0 rfl) ?_
    refine lv_iconst (v := 4) hx hb d_RM_isMode_5 (by decide) ?_
    refine lv_icmp_gt hx hb d_RM_isMode_6 (tgt := 13) (by decide) (fun c6 => ?_) (fun c6 => ?_)
    · replace hF := (if_pos c6).symm.trans hF
      refine lv_iconst (v := 0) hx hb d_RM_isMode_13 (by decide) ?_
      subst hF
      exact ct_zret hx hb hr hlk (by decide) hP hS d_RM_isMode_14
    · replace hF := (if_neg c6).symm.trans hF
      refine lv_iconst (v := 1) hx hb d_RM_isMode_9 (by decide) ?_
      refine lv_goto hx hb d_RM_isMode_10 (tgt := 14) (by decide) ?_
      subst hF
      exact ct_zret hx hb hr hlk (by decide) hP hS d_RM_isMode_14
theorem d_RM_setPrec_0 : decode prog_6_method_4_code 0 = .ok (.iload_n 1, 1) := by decide +kernel
theorem d_RM_setPrec_1 : decode prog_6_method_4_code 1 = .ok (.invokestatic 40, 3) := by decide +kernel
theorem d_RM_setPrec_4 : decode prog_6_method_4_code 4 = .ok (.ifCond .eq 14, 3) := by decide +kernel
theorem d_RM_setPrec_7 : decode prog_6_method_4_code 7 = .ok (.iload_n 2, 1) := by decide +kernel
theorem d_RM_setPrec_8 : decode prog_6_method_4_code 8 = .ok (.iconst 1, 1) := by decide +kernel
theorem d_RM_setPrec_9 : decode prog_6_method_4_code 9 = .ok (.if_icmp .lt 9, 3) := by decide +kernel
theorem d_RM_setPrec_12 : decode prog_6_method_4_code 12 = .ok (.iload_n 2, 1) := by decide +kernel
theorem d_RM_setPrec_13 : decode prog_6_method_4_code 13 = .ok (.bipush 93, 2) := by decide +kernel
theorem d_RM_setPrec_15 : decode prog_6_method_4_code 15 = .ok (.if_icmp .le 5, 3) := by decide +kernel
theorem d_RM_setPrec_18 : decode prog_6_method_4_code 18 = .ok (.iconst 0, 1) := by decide +kernel
theorem d_RM_setPrec_19 : decode prog_6_method_4_code 19 = .ok (.ireturn, 1) := by decide +kernel
theorem d_RM_setPrec_20 : decode prog_6_method_4_code 20 = .ok (.aload_n 0, 1) := by decide +kernel
theorem d_RM_setPrec_21 : decode prog_6_method_4_code 21 = .ok (.getfield 7, 3) := by decide +kernel
theorem d_RM_setPrec_24 : decode prog_6_method_4_code 24 = .ok (.iload_n 1, 1) := by decide +kernel
theorem d_RM_setPrec_25 : decode prog_6_method_4_code 25 = .ok (.iload_n 2, 1) := by decide +kernel
theorem d_RM_setPrec_26 : decode prog_6_method_4_code 26 = .ok (.iastore, 1) := by decide +kernel
theorem d_RM_setPrec_27 : decode prog_6_method_4_code 27 = .ok (.aload_n 0, 1) := by decide +kernel
theorem d_RM_setPrec_28 : decode prog_6_method_4_code 28 = .ok (.getfield 13, 3) := by decide +kernel
theorem d_RM_setPrec_31 : decode prog_6_method_4_code 31 = .ok (.iload_n 1, 1) := by decide +kernel
theorem d_RM_setPrec_32 : decode prog_6_method_4_code 32 = .ok (.iconst 0, 1) := by decide +kernel
theorem d_RM_setPrec_33 : decode prog_6_method_4_code 33 = .ok (.iastore, 1) := by decide +kernel
theorem d_RM_setPrec_34 : decode prog_6_method_4_code 34 = .ok (.aload_n 0, 1) := by decide +kernel
theorem d_RM_setPrec_35 : decode prog_6_method_4_code 35 = .ok (.getfield 16, 3) := by decide +kernel
theorem d_RM_setPrec_38 : decode prog_6_method_4_code 38 = .ok (.iload_n 1, 1) := by decide +kernel
theorem d_RM_setPrec_39 : decode prog_6_method_4_code 39 = .ok (.iconst 0, 1) := by decide +kernel
theorem d_RM_setPrec_40 : decode prog_6_method_4_code 40 = .ok (.iastore, 1) := by decide +kernel
theorem d_RM_setPrec_41 : decode prog_6_method_4_code 41 = .ok (.iconst 1, 1) := by decide +kernel
theorem d_RM_setPrec_42 : decode prog_6_method_4_code 42 = .ok (.ireturn, 1) := by decide +kernel
def RM_setPrec (st : rm_S) (p0 : Int32) (p1 : Int32) : Option (Int32 × rm_S) := nm (RM_isRegister p0) (fun r1 => (if r1 = 0 then some ((0 : Int32), st) else (if p1 < (1 : Int32) then some ((0 : Int32), st) else (if p1 ≤ (93 : Int32) then (if ob_in p0 8 = true then nm (rm_up st 1 p0.toNatClampNeg p1) (fun t26 => (if ob_in p0 8 = true then nm (rm_up t26 2 p0.toNatClampNeg (0 : Int32)) (fun t33 => (if ob_in p0 8 = true then nm (rm_up t33 3 p0.toNatClampNeg (0 : Int32)) (fun t40 => some ((1 : Int32), t40)) else none)) else none)) else none) else some ((0 : Int32), st)))))
set_option maxHeartbeats 4000000 in
set_option maxRecDepth 100000 in
theorem c_RM_setPrec (l : Launch) {D : va_G} (a : Nat → Nat) (ci : ClassId) (hi : rm_inj a) (st : rm_S) (p0 : Int32) (p1 : Int32) (r0 : Int32) (t0 : rm_S) (hF : RM_setPrec st p0 p1 = some (r0, t0)) : ct_i l ⟨"RoundedNumbersModel", "setPrec", "(II)Z"⟩ (.code ⟨"RoundedNumbersModel", "setPrec", "(II)Z"⟩ prog_6_method_4_code 3 (some .boolean) :: ct_T) { frames := 1, cells := 0, slots := 0, locals := 20 } D vwCl (rm_T ci) (rm_g a ci) (rm_X a) [.ref (a 0), .int p0, .int p1] st r0 t0 := by
  refine ct_i.mk (cc := prog_6_method_4_code) (maxL := 3) (by decide) rfl (Nat.le_of_ble_eq_true rfl) ?_
  intro p e s m below meth c hx hb hr hml hown hts hlk hK hN hP hS ls hl
  have hown : s.vm.findClass "RoundedNumbersModel" = some m.cls := hown
  have hl : lv_has ls 3 [(0, .ref (a 0)), (1, .int p0), (2, .int p1)] := hl
  have htb := fun w h => hts w (List.mem_cons_of_mem _ h)
  unfold RM_setPrec at hF
  refine lv_iload_n hx hb d_RM_setPrec_0 rfl (lv_at hl 1 rfl) ?_
  obtain ⟨r1, e1⟩ := nm_ex (RM_isRegister p0)
  replace hF := (nm_eq e1).symm.trans hF
  refine ct_calli (va_runS (As := [.int p0]) (rest := []) ⟨hx, hb, hml, hown, hts⟩ (c_RM_isRegister l (D := D) a ci hi st p0 _ e1 _) (kc_RM_40 hts ⟨by decide, by decide⟩) ⟨ct_blind, ct_ok hP hK hN⟩ rfl rfl hl.1 rfl (lv_room (Nat.le_of_ble_eq_true rfl)) d_RM_setPrec_1 ⟨Nat.zero_le _, Nat.zero_le _⟩) hS (fun H locs hP hS => ?_)
  refine lv_if_eq hx hb d_RM_setPrec_4 (tgt := 18) (by decide) (fun c4 => ?_) (fun c4 => ?_)
  · replace hF := (if_pos c4).symm.trans hF
    refine lv_iconst (v := 0) hx hb d_RM_setPrec_18 (by decide) ?_
    replace hF := Option.some.inj hF
    obtain ⟨rfl, rfl⟩ := Prod.mk.inj hF
    exact ct_zret hx hb hr hlk (by decide) hP hS d_RM_setPrec_19
  · replace hF := (if_neg c4).symm.trans hF
    refine lv_iload_n hx hb d_RM_setPrec_7 rfl (lv_at hl 2 rfl) ?_
    refine lv_iconst (v := 1) hx hb d_RM_setPrec_8 (by decide) ?_
    refine lv_icmp_lt hx hb d_RM_setPrec_9 (tgt := 18) (by decide) (fun c9 => ?_) (fun c9 => ?_)
    · replace hF := (if_pos c9).symm.trans hF
      refine lv_iconst (v := 0) hx hb d_RM_setPrec_18 (by decide) ?_
      replace hF := Option.some.inj hF
      obtain ⟨rfl, rfl⟩ := Prod.mk.inj hF
      exact ct_zret hx hb hr hlk (by decide) hP hS d_RM_setPrec_19
    · replace hF := (if_neg c9).symm.trans hF
      refine lv_iload_n hx hb d_RM_setPrec_12 rfl (lv_at hl 2 rfl) ?_
      refine lv_bipush (v := 93) hx hb d_RM_setPrec_13 (by decide) ?_
      refine lv_icmp_le hx hb d_RM_setPrec_15 (tgt := 20) (by decide) (fun c15 => ?_) (fun c15 => ?_)
      · replace hF := (if_pos c15).symm.trans hF
        refine lv_aload_n hx hb d_RM_setPrec_20 rfl (lv_at hl 0 rfl) ?_
        refine gf_RM_7 hx hb htb hown hK hP d_RM_setPrec_21 ?_
        refine lv_iload_n hx hb d_RM_setPrec_24 rfl (lv_at hl 1 rfl) ?_
        refine lv_iload_n hx hb d_RM_setPrec_25 rfl (lv_at hl 2 rfl) ?_
        obtain ⟨b26, hF⟩ := ob_if hF
        refine rm_ast hx hb hK hP hS hi (k := 1) (by decide) (by decide) (ob_vi b26) d_RM_setPrec_26 (fun H locs hP hS => ?_)
        obtain ⟨t26, e26, hP⟩ := nm_st hP
        replace hF := (nm_eq e26).symm.trans hF
        refine lv_aload_n hx hb d_RM_setPrec_27 rfl (lv_at hl 0 rfl) ?_
        refine gf_RM_13 hx hb htb hown hK hP d_RM_setPrec_28 ?_
        refine lv_iload_n hx hb d_RM_setPrec_31 rfl (lv_at hl 1 rfl) ?_
        refine lv_iconst (v := 0) hx hb d_RM_setPrec_32 (by decide) ?_
        obtain ⟨b33, hF⟩ := ob_if hF
        refine rm_ast hx hb hK hP hS hi (k := 2) (by decide) (by decide) (ob_vi b33) d_RM_setPrec_33 (fun H locs hP hS => ?_)
        obtain ⟨t33, e33, hP⟩ := nm_st hP
        replace hF := (nm_eq e33).symm.trans hF
        refine lv_aload_n hx hb d_RM_setPrec_34 rfl (lv_at hl 0 rfl) ?_
        refine gf_RM_16 hx hb htb hown hK hP d_RM_setPrec_35 ?_
        refine lv_iload_n hx hb d_RM_setPrec_38 rfl (lv_at hl 1 rfl) ?_
        refine lv_iconst (v := 0) hx hb d_RM_setPrec_39 (by decide) ?_
        obtain ⟨b40, hF⟩ := ob_if hF
        refine rm_ast hx hb hK hP hS hi (k := 3) (by decide) (by decide) (ob_vi b40) d_RM_setPrec_40 (fun H locs hP hS => ?_)
        obtain ⟨t40, e40, hP⟩ := nm_st hP
        replace hF := (nm_eq e40).symm.trans hF
        refine lv_iconst (v := 1) hx hb d_RM_setPrec_41 (by decide) ?_
        replace hF := Option.some.inj hF
        obtain ⟨rfl, rfl⟩ := Prod.mk.inj hF
        exact ct_zret hx hb hr hlk (by decide) hP hS d_RM_setPrec_42
      · replace hF := (if_neg c15).symm.trans hF
        refine lv_iconst (v := 0) hx hb d_RM_setPrec_18 (by decide) ?_
        replace hF := Option.some.inj hF
        obtain ⟨rfl, rfl⟩ := Prod.mk.inj hF
        exact ct_zret hx hb hr hlk (by decide) hP hS d_RM_setPrec_19
theorem d_RM_keep_0 : decode prog_6_method_5_code 0 = .ok (.aload_n 0, 1) := by decide +kernel
theorem d_RM_keep_1 : decode prog_6_method_5_code 1 = .ok (.getfield 13, 3) := by decide +kernel
theorem d_RM_keep_4 : decode prog_6_method_5_code 4 = .ok (.iload_n 1, 1) := by decide +kernel
theorem d_RM_keep_5 : decode prog_6_method_5_code 5 = .ok (.iload_n 2, 1) := by decide +kernel
theorem d_RM_keep_6 : decode prog_6_method_5_code 6 = .ok (.iastore, 1) := by decide +kernel
theorem d_RM_keep_7 : decode prog_6_method_5_code 7 = .ok (.aload_n 0, 1) := by decide +kernel
theorem d_RM_keep_8 : decode prog_6_method_5_code 8 = .ok (.getfield 16, 3) := by decide +kernel
theorem d_RM_keep_11 : decode prog_6_method_5_code 11 = .ok (.iload_n 1, 1) := by decide +kernel
theorem d_RM_keep_12 : decode prog_6_method_5_code 12 = .ok (.iload_n 2, 1) := by decide +kernel
theorem d_RM_keep_13 : decode prog_6_method_5_code 13 = .ok (.ifCond .ne 7, 3) := by decide +kernel
theorem d_RM_keep_16 : decode prog_6_method_5_code 16 = .ok (.iconst 0, 1) := by decide +kernel
theorem d_RM_keep_17 : decode prog_6_method_5_code 17 = .ok (.goto 4, 3) := by decide +kernel
theorem d_RM_keep_20 : decode prog_6_method_5_code 20 = .ok (.iload_n 3, 1) := by decide +kernel
theorem d_RM_keep_21 : decode prog_6_method_5_code 21 = .ok (.iastore, 1) := by decide +kernel
theorem d_RM_keep_22 : decode prog_6_method_5_code 22 = .ok (.iconst 0, 1) := by decide +kernel
theorem d_RM_keep_23 : decode prog_6_method_5_code 23 = .ok (.ireturn, 1) := by decide +kernel
def RM_keep_21 (s0 : Int32) (s1 : Int32) (st : rm_S) : Option (Int32 × rm_S) := (if ob_in s1 8 = true then nm (rm_up st 3 s1.toNatClampNeg s0) (fun t21 => some ((0 : Int32), t21)) else none)
def RM_keep (st : rm_S) (p0 : Int32) (p1 : Int32) (p2 : Int32) : Option (Int32 × rm_S) := (if ob_in p0 8 = true then nm (rm_up st 2 p0.toNatClampNeg p1) (fun t6 => (if p1 = 0 then RM_keep_21 (0 : Int32) p0 t6 else RM_keep_21 p2 p0 t6)) else none)
set_option maxHeartbeats 4000000 in
set_option maxRecDepth 100000 in
theorem c_RM_keep (l : Launch) {D : va_G} (a : Nat → Nat) (ci : ClassId) (hi : rm_inj a) (st : rm_S) (p0 : Int32) (p1 : Int32) (p2 : Int32) (r0 : Int32) (t0 : rm_S) (hF : RM_keep st p0 p1 p2 = some (r0, t0)) : ct_i l ⟨"RoundedNumbersModel", "keep", "(III)I"⟩ (.code ⟨"RoundedNumbersModel", "keep", "(III)I"⟩ prog_6_method_5_code 4 (some .int) :: ct_T) { frames := 0, cells := 0, slots := 0, locals := 0 } D vwCl (rm_T ci) (rm_g a ci) (rm_X a) [.ref (a 0), .int p0, .int p1, .int p2] st r0 t0 := by
  refine ct_i.mk (cc := prog_6_method_5_code) (maxL := 4) (by decide) rfl (Nat.le_of_ble_eq_true rfl) ?_
  intro p e s m below meth c hx hb hr hml hown hts hlk hK hN hP hS ls hl
  have hown : s.vm.findClass "RoundedNumbersModel" = some m.cls := hown
  have hl : lv_has ls 4 [(0, .ref (a 0)), (1, .int p0), (2, .int p1), (3, .int p2)] := hl
  have htb := fun w h => hts w (List.mem_cons_of_mem _ h)
  unfold RM_keep at hF
  refine lv_aload_n hx hb d_RM_keep_0 rfl (lv_at hl 0 rfl) ?_
  refine gf_RM_13 hx hb htb hown hK hP d_RM_keep_1 ?_
  refine lv_iload_n hx hb d_RM_keep_4 rfl (lv_at hl 1 rfl) ?_
  refine lv_iload_n hx hb d_RM_keep_5 rfl (lv_at hl 2 rfl) ?_
  obtain ⟨b6, hF⟩ := ob_if hF
  refine rm_ast hx hb hK hP hS hi (k := 2) (by decide) (by decide) (ob_vi b6) d_RM_keep_6 (fun H locs hP hS => ?_)
  obtain ⟨t6, e6, hP⟩ := nm_st hP
  replace hF := (nm_eq e6).symm.trans hF
  refine lv_aload_n hx hb d_RM_keep_7 rfl (lv_at hl 0 rfl) ?_
  refine gf_RM_16 hx hb htb hown hK hP d_RM_keep_8 ?_
  refine lv_iload_n hx hb d_RM_keep_11 rfl (lv_at hl 1 rfl) ?_
  refine lv_iload_n hx hb d_RM_keep_12 rfl (lv_at hl 2 rfl) ?_
  refine ct_cut1 (fun (j21s0 : Int32) ls H locs => lv_has ls 4 [] ∧ RM_keep_21 j21s0 p0 t6 = some (r0, t0) ∧ va_P D vwCl (rm_g a ci t6) H ∧ va_S (ct_F (rm_X a) s.heap.size) s.heap H locs) 21 (fun j21s0 => [.int j21s0, .int p0, .ref (a 3)]) ?_ ?_
  · intro j21s0 ls H locs hq
    obtain ⟨hl, hF, hP, hS⟩ := hq
    unfold RM_keep_21 at hF
    obtain ⟨b21, hF⟩ := ob_if hF
    refine rm_ast hx hb hK hP hS hi (k := 3) (by decide) (by decide) (ob_vi b21) d_RM_keep_21 (fun H locs hP hS => ?_)
    obtain ⟨t21, e21, hP⟩ := nm_st hP
    replace hF := (nm_eq e21).symm.trans hF
    refine lv_iconst (v := 0) hx hb d_RM_keep_22 (by decide) ?_
    replace hF := Option.some.inj hF
    obtain ⟨rfl, rfl⟩ := Prod.mk.inj hF
    exact ct_iret hx hb hr hlk hP hS d_RM_keep_23
  · intro kj21
    refine lv_if_ne hx hb d_RM_keep_13 (tgt := 20) (by decide) (fun c13 => ?_) (fun c13 => ?_)
    · replace hF := (if_neg c13).symm.trans hF
      refine lv_iload_n hx hb d_RM_keep_20 rfl (lv_at hl 3 rfl) ?_
      exact kj21 p2 _ _ _ ⟨lv_sub hl [] rfl, hF, hP, hS⟩
    · replace hF := (if_pos c13).symm.trans hF
      refine lv_iconst (v := 0) hx hb d_RM_keep_16 (by decide) ?_
      refine lv_goto hx hb d_RM_keep_17 (tgt := 21) (by decide) ?_
      exact kj21 (0 : Int32) _ _ _ ⟨lv_sub hl [] rfl, hF, hP, hS⟩
theorem d_RM_keepGreatest_0 : decode prog_6_method_6_code 0 = .ok (.aload_n 0, 1) := by decide +kernel
theorem d_RM_keepGreatest_1 : decode prog_6_method_6_code 1 = .ok (.getfield 13, 3) := by decide +kernel
theorem d_RM_keepGreatest_4 : decode prog_6_method_6_code 4 = .ok (.iload_n 1, 1) := by decide +kernel
theorem d_RM_keepGreatest_5 : decode prog_6_method_6_code 5 = .ok (.iconst 3, 1) := by decide +kernel
theorem d_RM_keepGreatest_6 : decode prog_6_method_6_code 6 = .ok (.iastore, 1) := by decide +kernel
theorem d_RM_keepGreatest_7 : decode prog_6_method_6_code 7 = .ok (.aload_n 0, 1) := by decide +kernel
theorem d_RM_keepGreatest_8 : decode prog_6_method_6_code 8 = .ok (.getfield 16, 3) := by decide +kernel
theorem d_RM_keepGreatest_11 : decode prog_6_method_6_code 11 = .ok (.iload_n 1, 1) := by decide +kernel
theorem d_RM_keepGreatest_12 : decode prog_6_method_6_code 12 = .ok (.iload_n 2, 1) := by decide +kernel
theorem d_RM_keepGreatest_13 : decode prog_6_method_6_code 13 = .ok (.iastore, 1) := by decide +kernel
theorem d_RM_keepGreatest_14 : decode prog_6_method_6_code 14 = .ok (.aload_n 0, 1) := by decide +kernel
theorem d_RM_keepGreatest_15 : decode prog_6_method_6_code 15 = .ok (.getfield 19, 3) := by decide +kernel
theorem d_RM_keepGreatest_18 : decode prog_6_method_6_code 18 = .ok (.iload_n 1, 1) := by decide +kernel
theorem d_RM_keepGreatest_19 : decode prog_6_method_6_code 19 = .ok (.sipush 200, 3) := by decide +kernel
theorem d_RM_keepGreatest_22 : decode prog_6_method_6_code 22 = .ok (.iastore, 1) := by decide +kernel
theorem d_RM_keepGreatest_23 : decode prog_6_method_6_code 23 = .ok (.iconst 0, 1) := by decide +kernel
theorem d_RM_keepGreatest_24 : decode prog_6_method_6_code 24 = .ok (.istore_n 3, 1) := by decide +kernel
theorem d_RM_keepGreatest_25 : decode prog_6_method_6_code 25 = .ok (.iload_n 3, 1) := by decide +kernel
theorem d_RM_keepGreatest_26 : decode prog_6_method_6_code 26 = .ok (.bipush 93, 2) := by decide +kernel
theorem d_RM_keepGreatest_28 : decode prog_6_method_6_code 28 = .ok (.if_icmp .ge 21, 3) := by decide +kernel
theorem d_RM_keepGreatest_31 : decode prog_6_method_6_code 31 = .ok (.aload_n 0, 1) := by decide +kernel
theorem d_RM_keepGreatest_32 : decode prog_6_method_6_code 32 = .ok (.getfield 22, 3) := by decide +kernel
theorem d_RM_keepGreatest_35 : decode prog_6_method_6_code 35 = .ok (.bipush 93, 2) := by decide +kernel
theorem d_RM_keepGreatest_37 : decode prog_6_method_6_code 37 = .ok (.iload_n 1, 1) := by decide +kernel
theorem d_RM_keepGreatest_38 : decode prog_6_method_6_code 38 = .ok (.imul, 1) := by decide +kernel
theorem d_RM_keepGreatest_39 : decode prog_6_method_6_code 39 = .ok (.iload_n 3, 1) := by decide +kernel
theorem d_RM_keepGreatest_40 : decode prog_6_method_6_code 40 = .ok (.iadd, 1) := by decide +kernel
theorem d_RM_keepGreatest_41 : decode prog_6_method_6_code 41 = .ok (.iconst 1, 1) := by decide +kernel
theorem d_RM_keepGreatest_42 : decode prog_6_method_6_code 42 = .ok (.iastore, 1) := by decide +kernel
theorem d_RM_keepGreatest_43 : decode prog_6_method_6_code 43 = .ok (.iinc 3 1, 3) := by decide +kernel
theorem d_RM_keepGreatest_46 : decode prog_6_method_6_code 46 = .ok (.goto (-21), 3) := by decide +kernel
theorem d_RM_keepGreatest_49 : decode prog_6_method_6_code 49 = .ok (.iload_n 2, 1) := by decide +kernel
theorem d_RM_keepGreatest_50 : decode prog_6_method_6_code 50 = .ok (.ineg, 1) := by decide +kernel
theorem d_RM_keepGreatest_51 : decode prog_6_method_6_code 51 = .ok (.ireturn, 1) := by decide +kernel
def RM_keepGreatest_25 : Nat → Int32 → Int32 → Int32 → rm_S → Option (Int32 × rm_S)
  | 0, _, _, _, _ => none
  | n + 1, L1, L2, L3, st => (if (93 : Int32) ≤ L3 then some ((-L2), st) else (if ob_in (((93 : Int32) * L1) + L3) 744 = true then nm (rm_up st 5 (((93 : Int32) * L1) + L3).toNatClampNeg (1 : Int32)) (fun t42 => nm (L3 + (1 : Int32)) (fun x43 => (RM_keepGreatest_25 n) L1 L2 x43 t42)) else none))
def RM_keepGreatest (st : rm_S) (p0 : Int32) (p1 : Int32) : Option (Int32 × rm_S) := (if ob_in p0 8 = true then nm (rm_up st 2 p0.toNatClampNeg (3 : Int32)) (fun t6 => (if ob_in p0 8 = true then nm (rm_up t6 3 p0.toNatClampNeg p1) (fun t13 => (if ob_in p0 8 = true then nm (rm_up t13 4 p0.toNatClampNeg (200 : Int32)) (fun t22 => RM_keepGreatest_25 (2000) p0 p1 (0 : Int32) t22) else none)) else none)) else none)
set_option maxHeartbeats 4000000 in
set_option maxRecDepth 100000 in
theorem c_RM_keepGreatest (l : Launch) {D : va_G} (a : Nat → Nat) (ci : ClassId) (hi : rm_inj a) (st : rm_S) (p0 : Int32) (p1 : Int32) (r0 : Int32) (t0 : rm_S) (hF : RM_keepGreatest st p0 p1 = some (r0, t0)) : ct_i l ⟨"RoundedNumbersModel", "keepGreatest", "(II)I"⟩ (.code ⟨"RoundedNumbersModel", "keepGreatest", "(II)I"⟩ prog_6_method_6_code 4 (some .int) :: ct_T) { frames := 0, cells := 0, slots := 0, locals := 0 } D vwCl (rm_T ci) (rm_g a ci) (rm_X a) [.ref (a 0), .int p0, .int p1] st r0 t0 := by
  refine ct_i.mk (cc := prog_6_method_6_code) (maxL := 4) (by decide) rfl (Nat.le_of_ble_eq_true rfl) ?_
  intro p e s m below meth c hx hb hr hml hown hts hlk hK hN hP hS ls hl
  have hown : s.vm.findClass "RoundedNumbersModel" = some m.cls := hown
  have hl : lv_has ls 4 [(0, .ref (a 0)), (1, .int p0), (2, .int p1)] := hl
  have htb := fun w h => hts w (List.mem_cons_of_mem _ h)
  unfold RM_keepGreatest at hF
  refine lv_aload_n hx hb d_RM_keepGreatest_0 rfl (lv_at hl 0 rfl) ?_
  refine gf_RM_13 hx hb htb hown hK hP d_RM_keepGreatest_1 ?_
  refine lv_iload_n hx hb d_RM_keepGreatest_4 rfl (lv_at hl 1 rfl) ?_
  refine lv_iconst (v := 3) hx hb d_RM_keepGreatest_5 (by decide) ?_
  obtain ⟨b6, hF⟩ := ob_if hF
  refine rm_ast hx hb hK hP hS hi (k := 2) (by decide) (by decide) (ob_vi b6) d_RM_keepGreatest_6 (fun H locs hP hS => ?_)
  obtain ⟨t6, e6, hP⟩ := nm_st hP
  replace hF := (nm_eq e6).symm.trans hF
  refine lv_aload_n hx hb d_RM_keepGreatest_7 rfl (lv_at hl 0 rfl) ?_
  refine gf_RM_16 hx hb htb hown hK hP d_RM_keepGreatest_8 ?_
  refine lv_iload_n hx hb d_RM_keepGreatest_11 rfl (lv_at hl 1 rfl) ?_
  refine lv_iload_n hx hb d_RM_keepGreatest_12 rfl (lv_at hl 2 rfl) ?_
  obtain ⟨b13, hF⟩ := ob_if hF
  refine rm_ast hx hb hK hP hS hi (k := 3) (by decide) (by decide) (ob_vi b13) d_RM_keepGreatest_13 (fun H locs hP hS => ?_)
  obtain ⟨t13, e13, hP⟩ := nm_st hP
  replace hF := (nm_eq e13).symm.trans hF
  refine lv_aload_n hx hb d_RM_keepGreatest_14 rfl (lv_at hl 0 rfl) ?_
  refine gf_RM_19 hx hb htb hown hK hP d_RM_keepGreatest_15 ?_
  refine lv_iload_n hx hb d_RM_keepGreatest_18 rfl (lv_at hl 1 rfl) ?_
  refine lv_sipush (v := 200) hx hb d_RM_keepGreatest_19 (by decide) ?_
  obtain ⟨b22, hF⟩ := ob_if hF
  refine rm_ast hx hb hK hP hS hi (k := 4) (by decide) (by decide) (ob_vi b22) d_RM_keepGreatest_22 (fun H locs hP hS => ?_)
  obtain ⟨t22, e22, hP⟩ := nm_st hP
  replace hF := (nm_eq e22).symm.trans hF
  refine lv_iconst (v := 0) hx hb d_RM_keepGreatest_23 (by decide) ?_
  refine lv_istore_n (lv' := [(3, .int (0 : Int32)), (0, .ref (a 0)), (1, .int p0), (2, .int p1)]) hx hb d_RM_keepGreatest_24 rfl hl (by decide) rfl (fun ls hl => ?_)
  refine ct_loop2 (fun n (w25L3 : Int32) (w25t : rm_S) ls H locs => lv_has ls 4 [(3, .int w25L3), (0, .ref (a 0)), (1, .int p0), (2, .int p1)] ∧ RM_keepGreatest_25 n p0 p1 w25L3 w25t = some (r0, t0) ∧ va_P D vwCl (rm_g a ci w25t) H ∧ va_S (ct_F (rm_X a) s.heap.size) s.heap H locs) 25 ?_ ?_ (2000) (0 : Int32) t22 ⟨lv_sub hl [0, 1, 2, 3] rfl, hF, hP, hS⟩
  · intro w25L3 w25t ls H locs hq
    obtain ⟨hl, hF, hP, hS⟩ := hq
    rw [RM_keepGreatest_25] at hF
    cases hF
  · intro n25 ih25 w25L3 w25t ls H locs hq
    obtain ⟨hl, hF, hP, hS⟩ := hq
    rw [RM_keepGreatest_25] at hF
    refine lv_iload_n hx hb d_RM_keepGreatest_25 rfl (lv_at hl 0 rfl) ?_
    refine lv_bipush (v := 93) hx hb d_RM_keepGreatest_26 (by decide) ?_
    refine lv_icmp_ge hx hb d_RM_keepGreatest_28 (tgt := 49) (by decide) (fun c28 => ?_) (fun c28 => ?_)
    · replace hF := (if_pos c28).symm.trans hF
      refine lv_iload_n hx hb d_RM_keepGreatest_49 rfl (lv_at hl 3 rfl) ?_
      refine lv_ineg hx hb d_RM_keepGreatest_50 ?_
      replace hF := Option.some.inj hF
      obtain ⟨rfl, rfl⟩ := Prod.mk.inj hF
      exact ct_iret hx hb hr hlk hP hS d_RM_keepGreatest_51
    · replace hF := (if_neg c28).symm.trans hF
      refine lv_aload_n hx hb d_RM_keepGreatest_31 rfl (lv_at hl 1 rfl) ?_
      refine gf_RM_22 hx hb htb hown hK hP d_RM_keepGreatest_32 ?_
      refine lv_bipush (v := 93) hx hb d_RM_keepGreatest_35 (by decide) ?_
      refine lv_iload_n hx hb d_RM_keepGreatest_37 rfl (lv_at hl 2 rfl) ?_
      refine lv_imul hx hb d_RM_keepGreatest_38 ?_
      refine lv_iload_n hx hb d_RM_keepGreatest_39 rfl (lv_at hl 0 rfl) ?_
      refine lv_iadd hx hb d_RM_keepGreatest_40 ?_
      refine lv_iconst (v := 1) hx hb d_RM_keepGreatest_41 (by decide) ?_
      obtain ⟨b42, hF⟩ := ob_if hF
      refine rm_ast hx hb hK hP hS hi (k := 5) (by decide) (by decide) (ob_vi b42) d_RM_keepGreatest_42 (fun H locs hP hS => ?_)
      obtain ⟨t42, e42, hP⟩ := nm_st hP
      replace hF := (nm_eq e42).symm.trans hF
      obtain ⟨x43, e43⟩ := nm_ex (w25L3 + (1 : Int32))
      replace hF := (nm_eq e43).symm.trans hF
      refine lv_iinc (v := x43) (lv' := [(3, .int x43), (0, .ref (a 0)), (1, .int p0), (2, .int p1)]) hx hb d_RM_keepGreatest_43 hl (k := 0) rfl e43 (by decide) rfl (fun ls hl => ?_)
      refine lv_goto hx hb d_RM_keepGreatest_46 (tgt := 25) (by decide) ?_
      exact ih25 x43 t42 _ _ _ ⟨lv_sub hl [0, 1, 2, 3] rfl, hF, hP, hS⟩
theorem d_RM_keepLeast_0 : decode prog_6_method_7_code 0 = .ok (.aload_n 0, 1) := by decide +kernel
theorem d_RM_keepLeast_1 : decode prog_6_method_7_code 1 = .ok (.getfield 13, 3) := by decide +kernel
theorem d_RM_keepLeast_4 : decode prog_6_method_7_code 4 = .ok (.iload_n 1, 1) := by decide +kernel
theorem d_RM_keepLeast_5 : decode prog_6_method_7_code 5 = .ok (.iconst 3, 1) := by decide +kernel
theorem d_RM_keepLeast_6 : decode prog_6_method_7_code 6 = .ok (.iastore, 1) := by decide +kernel
theorem d_RM_keepLeast_7 : decode prog_6_method_7_code 7 = .ok (.aload_n 0, 1) := by decide +kernel
theorem d_RM_keepLeast_8 : decode prog_6_method_7_code 8 = .ok (.getfield 16, 3) := by decide +kernel
theorem d_RM_keepLeast_11 : decode prog_6_method_7_code 11 = .ok (.iload_n 1, 1) := by decide +kernel
theorem d_RM_keepLeast_12 : decode prog_6_method_7_code 12 = .ok (.iload_n 2, 1) := by decide +kernel
theorem d_RM_keepLeast_13 : decode prog_6_method_7_code 13 = .ok (.iastore, 1) := by decide +kernel
theorem d_RM_keepLeast_14 : decode prog_6_method_7_code 14 = .ok (.aload_n 0, 1) := by decide +kernel
theorem d_RM_keepLeast_15 : decode prog_6_method_7_code 15 = .ok (.getfield 19, 3) := by decide +kernel
theorem d_RM_keepLeast_18 : decode prog_6_method_7_code 18 = .ok (.iload_n 1, 1) := by decide +kernel
theorem d_RM_keepLeast_19 : decode prog_6_method_7_code 19 = .ok (.sipush (-200), 3) := by decide +kernel
theorem d_RM_keepLeast_22 : decode prog_6_method_7_code 22 = .ok (.iastore, 1) := by decide +kernel
theorem d_RM_keepLeast_23 : decode prog_6_method_7_code 23 = .ok (.iconst 0, 1) := by decide +kernel
theorem d_RM_keepLeast_24 : decode prog_6_method_7_code 24 = .ok (.istore_n 3, 1) := by decide +kernel
theorem d_RM_keepLeast_25 : decode prog_6_method_7_code 25 = .ok (.iload_n 3, 1) := by decide +kernel
theorem d_RM_keepLeast_26 : decode prog_6_method_7_code 26 = .ok (.bipush 93, 2) := by decide +kernel
theorem d_RM_keepLeast_28 : decode prog_6_method_7_code 28 = .ok (.if_icmp .ge 29, 3) := by decide +kernel
theorem d_RM_keepLeast_31 : decode prog_6_method_7_code 31 = .ok (.aload_n 0, 1) := by decide +kernel
theorem d_RM_keepLeast_32 : decode prog_6_method_7_code 32 = .ok (.getfield 22, 3) := by decide +kernel
theorem d_RM_keepLeast_35 : decode prog_6_method_7_code 35 = .ok (.bipush 93, 2) := by decide +kernel
theorem d_RM_keepLeast_37 : decode prog_6_method_7_code 37 = .ok (.iload_n 1, 1) := by decide +kernel
theorem d_RM_keepLeast_38 : decode prog_6_method_7_code 38 = .ok (.imul, 1) := by decide +kernel
theorem d_RM_keepLeast_39 : decode prog_6_method_7_code 39 = .ok (.iload_n 3, 1) := by decide +kernel
theorem d_RM_keepLeast_40 : decode prog_6_method_7_code 40 = .ok (.iadd, 1) := by decide +kernel
theorem d_RM_keepLeast_41 : decode prog_6_method_7_code 41 = .ok (.iload_n 3, 1) := by decide +kernel
theorem d_RM_keepLeast_42 : decode prog_6_method_7_code 42 = .ok (.ifCond .ne 7, 3) := by decide +kernel
theorem d_RM_keepLeast_45 : decode prog_6_method_7_code 45 = .ok (.iconst 1, 1) := by decide +kernel
theorem d_RM_keepLeast_46 : decode prog_6_method_7_code 46 = .ok (.goto 4, 3) := by decide +kernel
theorem d_RM_keepLeast_49 : decode prog_6_method_7_code 49 = .ok (.iconst 0, 1) := by decide +kernel
theorem d_RM_keepLeast_50 : decode prog_6_method_7_code 50 = .ok (.iastore, 1) := by decide +kernel
theorem d_RM_keepLeast_51 : decode prog_6_method_7_code 51 = .ok (.iinc 3 1, 3) := by decide +kernel
theorem d_RM_keepLeast_54 : decode prog_6_method_7_code 54 = .ok (.goto (-29), 3) := by decide +kernel
theorem d_RM_keepLeast_57 : decode prog_6_method_7_code 57 = .ok (.iload_n 2, 1) := by decide +kernel
theorem d_RM_keepLeast_58 : decode prog_6_method_7_code 58 = .ok (.ireturn, 1) := by decide +kernel
def RM_keepLeast_50 (k25 : Int32 → Int32 → Int32 → rm_S → Option (Int32 × rm_S)) (L1 : Int32) (L2 : Int32) (L3 : Int32) (s0 : Int32) (s1 : Int32) (st : rm_S) : Option (Int32 × rm_S) := (if ob_in s1 744 = true then nm (rm_up st 5 s1.toNatClampNeg s0) (fun t50 => nm (L3 + (1 : Int32)) (fun x51 => k25 L1 L2 x51 t50)) else none)
def RM_keepLeast_25 : Nat → Int32 → Int32 → Int32 → rm_S → Option (Int32 × rm_S)
  | 0, _, _, _, _ => none
  | n + 1, L1, L2, L3, st => (if (93 : Int32) ≤ L3 then some (L2, st) else (if L3 = 0 then RM_keepLeast_50 (RM_keepLeast_25 n) L1 L2 L3 (1 : Int32) (((93 : Int32) * L1) + L3) st else RM_keepLeast_50 (RM_keepLeast_25 n) L1 L2 L3 (0 : Int32) (((93 : Int32) * L1) + L3) st))
def RM_keepLeast (st : rm_S) (p0 : Int32) (p1 : Int32) : Option (Int32 × rm_S) := (if ob_in p0 8 = true then nm (rm_up st 2 p0.toNatClampNeg (3 : Int32)) (fun t6 => (if ob_in p0 8 = true then nm (rm_up t6 3 p0.toNatClampNeg p1) (fun t13 => (if ob_in p0 8 = true then nm (rm_up t13 4 p0.toNatClampNeg (-200 : Int32)) (fun t22 => RM_keepLeast_25 (2000) p0 p1 (0 : Int32) t22) else none)) else none)) else none)
set_option maxHeartbeats 4000000 in
set_option maxRecDepth 100000 in
theorem c_RM_keepLeast (l : Launch) {D : va_G} (a : Nat → Nat) (ci : ClassId) (hi : rm_inj a) (st : rm_S) (p0 : Int32) (p1 : Int32) (r0 : Int32) (t0 : rm_S) (hF : RM_keepLeast st p0 p1 = some (r0, t0)) : ct_i l ⟨"RoundedNumbersModel", "keepLeast", "(II)I"⟩ (.code ⟨"RoundedNumbersModel", "keepLeast", "(II)I"⟩ prog_6_method_7_code 4 (some .int) :: ct_T) { frames := 0, cells := 0, slots := 0, locals := 0 } D vwCl (rm_T ci) (rm_g a ci) (rm_X a) [.ref (a 0), .int p0, .int p1] st r0 t0 := by
  refine ct_i.mk (cc := prog_6_method_7_code) (maxL := 4) (by decide) rfl (Nat.le_of_ble_eq_true rfl) ?_
  intro p e s m below meth c hx hb hr hml hown hts hlk hK hN hP hS ls hl
  have hown : s.vm.findClass "RoundedNumbersModel" = some m.cls := hown
  have hl : lv_has ls 4 [(0, .ref (a 0)), (1, .int p0), (2, .int p1)] := hl
  have htb := fun w h => hts w (List.mem_cons_of_mem _ h)
  unfold RM_keepLeast at hF
  refine lv_aload_n hx hb d_RM_keepLeast_0 rfl (lv_at hl 0 rfl) ?_
  refine gf_RM_13 hx hb htb hown hK hP d_RM_keepLeast_1 ?_
  refine lv_iload_n hx hb d_RM_keepLeast_4 rfl (lv_at hl 1 rfl) ?_
  refine lv_iconst (v := 3) hx hb d_RM_keepLeast_5 (by decide) ?_
  obtain ⟨b6, hF⟩ := ob_if hF
  refine rm_ast hx hb hK hP hS hi (k := 2) (by decide) (by decide) (ob_vi b6) d_RM_keepLeast_6 (fun H locs hP hS => ?_)
  obtain ⟨t6, e6, hP⟩ := nm_st hP
  replace hF := (nm_eq e6).symm.trans hF
  refine lv_aload_n hx hb d_RM_keepLeast_7 rfl (lv_at hl 0 rfl) ?_
  refine gf_RM_16 hx hb htb hown hK hP d_RM_keepLeast_8 ?_
  refine lv_iload_n hx hb d_RM_keepLeast_11 rfl (lv_at hl 1 rfl) ?_
  refine lv_iload_n hx hb d_RM_keepLeast_12 rfl (lv_at hl 2 rfl) ?_
  obtain ⟨b13, hF⟩ := ob_if hF
  refine rm_ast hx hb hK hP hS hi (k := 3) (by decide) (by decide) (ob_vi b13) d_RM_keepLeast_13 (fun H locs hP hS => ?_)
  obtain ⟨t13, e13, hP⟩ := nm_st hP
  replace hF := (nm_eq e13).symm.trans hF
  refine lv_aload_n hx hb d_RM_keepLeast_14 rfl (lv_at hl 0 rfl) ?_
  refine gf_RM_19 hx hb htb hown hK hP d_RM_keepLeast_15 ?_
  refine lv_iload_n hx hb d_RM_keepLeast_18 rfl (lv_at hl 1 rfl) ?_
  refine lv_sipush (v := -200) hx hb d_RM_keepLeast_19 (by decide) ?_
  obtain ⟨b22, hF⟩ := ob_if hF
  refine rm_ast hx hb hK hP hS hi (k := 4) (by decide) (by decide) (ob_vi b22) d_RM_keepLeast_22 (fun H locs hP hS => ?_)
  obtain ⟨t22, e22, hP⟩ := nm_st hP
  replace hF := (nm_eq e22).symm.trans hF
  refine lv_iconst (v := 0) hx hb d_RM_keepLeast_23 (by decide) ?_
  refine lv_istore_n (lv' := [(3, .int (0 : Int32)), (0, .ref (a 0)), (1, .int p0), (2, .int p1)]) hx hb d_RM_keepLeast_24 rfl hl (by decide) rfl (fun ls hl => ?_)
  refine ct_loop2 (fun n (w25L3 : Int32) (w25t : rm_S) ls H locs => lv_has ls 4 [(3, .int w25L3), (0, .ref (a 0)), (1, .int p0), (2, .int p1)] ∧ RM_keepLeast_25 n p0 p1 w25L3 w25t = some (r0, t0) ∧ va_P D vwCl (rm_g a ci w25t) H ∧ va_S (ct_F (rm_X a) s.heap.size) s.heap H locs) 25 ?_ ?_ (2000) (0 : Int32) t22 ⟨lv_sub hl [0, 1, 2, 3] rfl, hF, hP, hS⟩
  · intro w25L3 w25t ls H locs hq
    obtain ⟨hl, hF, hP, hS⟩ := hq
    rw [RM_keepLeast_25] at hF
    cases hF
  · intro n25 ih25 w25L3 w25t ls H locs hq
    obtain ⟨hl, hF, hP, hS⟩ := hq
    rw [RM_keepLeast_25] at hF
    refine lv_iload_n hx hb d_RM_keepLeast_25 rfl (lv_at hl 0 rfl) ?_
    refine lv_bipush (v := 93) hx hb d_RM_keepLeast_26 (by decide) ?_
    refine lv_icmp_ge hx hb d_RM_keepLeast_28 (tgt := 57) (by decide) (fun c28 => ?_) (fun c28 => ?_)
    · replace hF := (if_pos c28).symm.trans hF
      refine lv_iload_n hx hb d_RM_keepLeast_57 rfl (lv_at hl 3 rfl) ?_
      replace hF := Option.some.inj hF
      obtain ⟨rfl, rfl⟩ := Prod.mk.inj hF
      exact ct_iret hx hb hr hlk hP hS d_RM_keepLeast_58
    · replace hF := (if_neg c28).symm.trans hF
      refine lv_aload_n hx hb d_RM_keepLeast_31 rfl (lv_at hl 1 rfl) ?_
      refine gf_RM_22 hx hb htb hown hK hP d_RM_keepLeast_32 ?_
      refine lv_bipush (v := 93) hx hb d_RM_keepLeast_35 (by decide) ?_
      refine lv_iload_n hx hb d_RM_keepLeast_37 rfl (lv_at hl 2 rfl) ?_
      refine lv_imul hx hb d_RM_keepLeast_38 ?_
      refine lv_iload_n hx hb d_RM_keepLeast_39 rfl (lv_at hl 0 rfl) ?_
      refine lv_iadd hx hb d_RM_keepLeast_40 ?_
      refine lv_iload_n hx hb d_RM_keepLeast_41 rfl (lv_at hl 0 rfl) ?_
      refine ct_cut1 (fun (j50s0 : Int32) ls H locs => lv_has ls 4 [(3, .int w25L3), (0, .ref (a 0)), (1, .int p0), (2, .int p1)] ∧ RM_keepLeast_50 (RM_keepLeast_25 n25) p0 p1 w25L3 j50s0 (((93 : Int32) * p0) + w25L3) w25t = some (r0, t0) ∧ va_P D vwCl (rm_g a ci w25t) H ∧ va_S (ct_F (rm_X a) s.heap.size) s.heap H locs) 50 (fun j50s0 => [.int j50s0, .int (((93 : Int32) * p0) + w25L3), .ref (a 5)]) ?_ ?_
      · intro j50s0 ls H locs hq
        obtain ⟨hl, hF, hP, hS⟩ := hq
        unfold RM_keepLeast_50 at hF
        obtain ⟨b50, hF⟩ := ob_if hF
        refine rm_ast hx hb hK hP hS hi (k := 5) (by decide) (by decide) (ob_vi b50) d_RM_keepLeast_50 (fun H locs hP hS => ?_)
        obtain ⟨t50, e50, hP⟩ := nm_st hP
        replace hF := (nm_eq e50).symm.trans hF
        obtain ⟨x51, e51⟩ := nm_ex (w25L3 + (1 : Int32))
        replace hF := (nm_eq e51).symm.trans hF
        refine lv_iinc (v := x51) (lv' := [(3, .int x51), (0, .ref (a 0)), (1, .int p0), (2, .int p1)]) hx hb d_RM_keepLeast_51 hl (k := 0) rfl e51 (by decide) rfl (fun ls hl => ?_)
        refine lv_goto hx hb d_RM_keepLeast_54 (tgt := 25) (by decide) ?_
        exact ih25 x51 t50 _ _ _ ⟨lv_sub hl [0, 1, 2, 3] rfl, hF, hP, hS⟩
      · intro kj50
        refine lv_if_ne hx hb d_RM_keepLeast_42 (tgt := 49) (by decide) (fun c42 => ?_) (fun c42 => ?_)
        · replace hF := (if_neg c42).symm.trans hF
          refine lv_iconst (v := 0) hx hb d_RM_keepLeast_49 (by decide) ?_
          exact kj50 (0 : Int32) _ _ _ ⟨lv_sub hl [0, 1, 2, 3] rfl, hF, hP, hS⟩
        · replace hF := (if_pos c42).symm.trans hF
          refine lv_iconst (v := 1) hx hb d_RM_keepLeast_45 (by decide) ?_
          refine lv_goto hx hb d_RM_keepLeast_46 (tgt := 50) (by decide) ?_
          exact kj50 (1 : Int32) _ _ _ ⟨lv_sub hl [0, 1, 2, 3] rfl, hF, hP, hS⟩
theorem d_RM_highest_0 : decode prog_6_method_8_code 0 = .ok (.sipush 1023, 3) := by decide +kernel
theorem d_RM_highest_3 : decode prog_6_method_8_code 3 = .ok (.istore_n 1, 1) := by decide +kernel
theorem d_RM_highest_4 : decode prog_6_method_8_code 4 = .ok (.iload_n 1, 1) := by decide +kernel
theorem d_RM_highest_5 : decode prog_6_method_8_code 5 = .ok (.ifCond .lt 18, 3) := by decide +kernel
theorem d_RM_highest_8 : decode prog_6_method_8_code 8 = .ok (.aload_n 0, 1) := by decide +kernel
theorem d_RM_highest_9 : decode prog_6_method_8_code 9 = .ok (.getfield 25, 3) := by decide +kernel
theorem d_RM_highest_12 : decode prog_6_method_8_code 12 = .ok (.iload_n 1, 1) := by decide +kernel
theorem d_RM_highest_13 : decode prog_6_method_8_code 13 = .ok (.iaload, 1) := by decide +kernel
theorem d_RM_highest_14 : decode prog_6_method_8_code 14 = .ok (.ifCond .ne 9, 3) := by decide +kernel
theorem d_RM_highest_17 : decode prog_6_method_8_code 17 = .ok (.iinc 1 (-1), 3) := by decide +kernel
theorem d_RM_highest_20 : decode prog_6_method_8_code 20 = .ok (.goto (-16), 3) := by decide +kernel
theorem d_RM_highest_23 : decode prog_6_method_8_code 23 = .ok (.iload_n 1, 1) := by decide +kernel
theorem d_RM_highest_24 : decode prog_6_method_8_code 24 = .ok (.ireturn, 1) := by decide +kernel
def RM_highest_4 : Nat → Int32 → rm_S → Option (Int32)
  | 0, _, _ => none
  | n + 1, L1, st => (if L1 < 0 then some L1 else (if ob_in L1 1024 = true then (if (st 6 L1.toNatClampNeg) = 0 then nm (L1 + (-1 : Int32)) (fun x17 => (RM_highest_4 n) x17 st) else some L1) else none))
def RM_highest (st : rm_S) : Option (Int32) := RM_highest_4 (2000) (1023 : Int32) st
set_option maxHeartbeats 4000000 in
set_option maxRecDepth 100000 in
theorem c_RM_highest (l : Launch) {D : va_G} (a : Nat → Nat) (ci : ClassId) (hi : rm_inj a) (st : rm_S) (r0 : Int32) (hF : RM_highest st = some r0) : ct_i l ⟨"RoundedNumbersModel", "highest", "()I"⟩ (.code ⟨"RoundedNumbersModel", "highest", "()I"⟩ prog_6_method_8_code 2 (some .int) :: ct_T) { frames := 0, cells := 0, slots := 0, locals := 0 } D vwCl (rm_T ci) (rm_g a ci) (rm_X a) [.ref (a 0)] st r0 st := by
  refine ct_i.mk (cc := prog_6_method_8_code) (maxL := 2) (by decide) rfl (Nat.le_of_ble_eq_true rfl) ?_
  intro p e s m below meth c hx hb hr hml hown hts hlk hK hN hP hS ls hl
  have hown : s.vm.findClass "RoundedNumbersModel" = some m.cls := hown
  have hl : lv_has ls 2 [(0, .ref (a 0))] := hl
  have htb := fun w h => hts w (List.mem_cons_of_mem _ h)
  unfold RM_highest at hF
  refine lv_sipush (v := 1023) hx hb d_RM_highest_0 (by decide) ?_
  refine lv_istore_n (lv' := [(1, .int (1023 : Int32)), (0, .ref (a 0))]) hx hb d_RM_highest_3 rfl hl (by decide) rfl (fun ls hl => ?_)
  refine ct_loop1 (fun n (w4L1 : Int32) ls H locs => lv_has ls 2 [(1, .int w4L1), (0, .ref (a 0))] ∧ RM_highest_4 n w4L1 st = some r0 ∧ va_P D vwCl (rm_g a ci st) H ∧ va_S (ct_F (rm_X a) s.heap.size) s.heap H locs) 4 ?_ ?_ (2000) (1023 : Int32) ⟨lv_sub hl [0, 1] rfl, hF, hP, hS⟩
  · intro w4L1 ls H locs hq
    obtain ⟨hl, hF, hP, hS⟩ := hq
    rw [RM_highest_4] at hF
    cases hF
  · intro n4 ih4 w4L1 ls H locs hq
    obtain ⟨hl, hF, hP, hS⟩ := hq
    rw [RM_highest_4] at hF
    refine lv_iload_n hx hb d_RM_highest_4 rfl (lv_at hl 0 rfl) ?_
    refine lv_if_lt hx hb d_RM_highest_5 (tgt := 23) (by decide) (fun c5 => ?_) (fun c5 => ?_)
    · replace hF := (if_pos c5).symm.trans hF
      refine lv_iload_n hx hb d_RM_highest_23 rfl (lv_at hl 0 rfl) ?_
      replace hF := Option.some.inj hF
      subst hF
      exact ct_iret hx hb hr hlk hP hS d_RM_highest_24
    · replace hF := (if_neg c5).symm.trans hF
      refine lv_aload_n hx hb d_RM_highest_8 rfl (lv_at hl 1 rfl) ?_
      refine gf_RM_25 hx hb htb hown hK hP d_RM_highest_9 ?_
      refine lv_iload_n hx hb d_RM_highest_12 rfl (lv_at hl 0 rfl) ?_
      obtain ⟨b13, hF⟩ := ob_if hF
      refine rm_ald hx hb hK hP (k := 6) (by decide) (by decide) (ob_vi b13) d_RM_highest_13 ?_
      refine lv_if_ne hx hb d_RM_highest_14 (tgt := 23) (by decide) (fun c14 => ?_) (fun c14 => ?_)
      · replace hF := (if_neg c14).symm.trans hF
        refine lv_iload_n hx hb d_RM_highest_23 rfl (lv_at hl 0 rfl) ?_
        replace hF := Option.some.inj hF
        subst hF
        exact ct_iret hx hb hr hlk hP hS d_RM_highest_24
      · replace hF := (if_pos c14).symm.trans hF
        obtain ⟨x17, e17⟩ := nm_ex (w4L1 + (-1 : Int32))
        replace hF := (nm_eq e17).symm.trans hF
        refine lv_iinc (v := x17) (lv' := [(1, .int x17), (0, .ref (a 0))]) hx hb d_RM_highest_17 hl (k := 0) rfl e17 (by decide) rfl (fun ls hl => ?_)
        refine lv_goto hx hb d_RM_highest_20 (tgt := 4) (by decide) ?_
        exact ih4 x17 _ _ _ ⟨lv_sub hl [0, 1] rfl, hF, hP, hS⟩
theorem d_RM_anyBelow_0 : decode prog_6_method_9_code 0 = .ok (.iconst 0, 1) := by decide +kernel
theorem d_RM_anyBelow_1 : decode prog_6_method_9_code 1 = .ok (.istore_n 2, 1) := by decide +kernel
theorem d_RM_anyBelow_2 : decode prog_6_method_9_code 2 = .ok (.iconst 0, 1) := by decide +kernel
theorem d_RM_anyBelow_3 : decode prog_6_method_9_code 3 = .ok (.istore_n 3, 1) := by decide +kernel
theorem d_RM_anyBelow_4 : decode prog_6_method_9_code 4 = .ok (.iload_n 3, 1) := by decide +kernel
theorem d_RM_anyBelow_5 : decode prog_6_method_9_code 5 = .ok (.iload_n 1, 1) := by decide +kernel
theorem d_RM_anyBelow_6 : decode prog_6_method_9_code 6 = .ok (.if_icmp .ge 28, 3) := by decide +kernel
theorem d_RM_anyBelow_9 : decode prog_6_method_9_code 9 = .ok (.iload_n 2, 1) := by decide +kernel
theorem d_RM_anyBelow_10 : decode prog_6_method_9_code 10 = .ok (.ifCond .ne 12, 3) := by decide +kernel
theorem d_RM_anyBelow_13 : decode prog_6_method_9_code 13 = .ok (.aload_n 0, 1) := by decide +kernel
theorem d_RM_anyBelow_14 : decode prog_6_method_9_code 14 = .ok (.getfield 25, 3) := by decide +kernel
theorem d_RM_anyBelow_17 : decode prog_6_method_9_code 17 = .ok (.iload_n 3, 1) := by decide +kernel
theorem d_RM_anyBelow_18 : decode prog_6_method_9_code 18 = .ok (.iaload, 1) := by decide +kernel
theorem d_RM_anyBelow_19 : decode prog_6_method_9_code 19 = .ok (.ifCond .eq 7, 3) := by decide +kernel
theorem d_RM_anyBelow_22 : decode prog_6_method_9_code 22 = .ok (.iconst 1, 1) := by decide +kernel
theorem d_RM_anyBelow_23 : decode prog_6_method_9_code 23 = .ok (.goto 4, 3) := by decide +kernel
theorem d_RM_anyBelow_26 : decode prog_6_method_9_code 26 = .ok (.iconst 0, 1) := by decide +kernel
theorem d_RM_anyBelow_27 : decode prog_6_method_9_code 27 = .ok (.istore_n 2, 1) := by decide +kernel
theorem d_RM_anyBelow_28 : decode prog_6_method_9_code 28 = .ok (.iinc 3 1, 3) := by decide +kernel
theorem d_RM_anyBelow_31 : decode prog_6_method_9_code 31 = .ok (.goto (-27), 3) := by decide +kernel
theorem d_RM_anyBelow_34 : decode prog_6_method_9_code 34 = .ok (.iload_n 2, 1) := by decide +kernel
theorem d_RM_anyBelow_35 : decode prog_6_method_9_code 35 = .ok (.ireturn, 1) := by decide +kernel
def RM_anyBelow_27 (k4 : Int32 → Int32 → Int32 → rm_S → Option (Int32)) (L1 : Int32) (L3 : Int32) (s0 : Int32) (st : rm_S) : Option (Int32) := nm (L3 + (1 : Int32)) (fun x28 => k4 L1 s0 x28 st)
def RM_anyBelow_22 (k4 : Int32 → Int32 → Int32 → rm_S → Option (Int32)) (L1 : Int32) (L3 : Int32) (st : rm_S) : Option (Int32) := RM_anyBelow_27 k4 L1 L3 (1 : Int32) st
def RM_anyBelow_4 : Nat → Int32 → Int32 → Int32 → rm_S → Option (Int32)
  | 0, _, _, _, _ => none
  | n + 1, L1, L2, L3, st => (if L1 ≤ L3 then (if ob_z L2 = true then some L2 else none) else (if L2 = 0 then (if ob_in L3 1024 = true then (if (st 6 L3.toNatClampNeg) = 0 then RM_anyBelow_27 (RM_anyBelow_4 n) L1 L3 (0 : Int32) st else RM_anyBelow_22 (RM_anyBelow_4 n) L1 L3 st) else none) else RM_anyBelow_22 (RM_anyBelow_4 n) L1 L3 st))
def RM_anyBelow (st : rm_S) (p0 : Int32) : Option (Int32) := RM_anyBelow_4 (2000) p0 (0 : Int32) (0 : Int32) st
set_option maxHeartbeats 4000000 in
set_option maxRecDepth 100000 in
theorem c_RM_anyBelow (l : Launch) {D : va_G} (a : Nat → Nat) (ci : ClassId) (hi : rm_inj a) (st : rm_S) (p0 : Int32) (r0 : Int32) (hF : RM_anyBelow st p0 = some r0) : ct_i l ⟨"RoundedNumbersModel", "anyBelow", "(I)Z"⟩ (.code ⟨"RoundedNumbersModel", "anyBelow", "(I)Z"⟩ prog_6_method_9_code 4 (some .boolean) :: ct_T) { frames := 0, cells := 0, slots := 0, locals := 0 } D vwCl (rm_T ci) (rm_g a ci) (rm_X a) [.ref (a 0), .int p0] st r0 st := by
  refine ct_i.mk (cc := prog_6_method_9_code) (maxL := 4) (by decide) rfl (Nat.le_of_ble_eq_true rfl) ?_
  intro p e s m below meth c hx hb hr hml hown hts hlk hK hN hP hS ls hl
  have hown : s.vm.findClass "RoundedNumbersModel" = some m.cls := hown
  have hl : lv_has ls 4 [(0, .ref (a 0)), (1, .int p0)] := hl
  have htb := fun w h => hts w (List.mem_cons_of_mem _ h)
  unfold RM_anyBelow at hF
  refine lv_iconst (v := 0) hx hb d_RM_anyBelow_0 (by decide) ?_
  refine lv_istore_n (lv' := [(2, .int (0 : Int32)), (0, .ref (a 0)), (1, .int p0)]) hx hb d_RM_anyBelow_1 rfl hl (by decide) rfl (fun ls hl => ?_)
  refine lv_iconst (v := 0) hx hb d_RM_anyBelow_2 (by decide) ?_
  refine lv_istore_n (lv' := [(3, .int (0 : Int32)), (2, .int (0 : Int32)), (0, .ref (a 0)), (1, .int p0)]) hx hb d_RM_anyBelow_3 rfl hl (by decide) rfl (fun ls hl => ?_)
  refine ct_loop2 (fun n (w4L3 : Int32) (w4L2 : Int32) ls H locs => lv_has ls 4 [(3, .int w4L3), (2, .int w4L2), (0, .ref (a 0)), (1, .int p0)] ∧ RM_anyBelow_4 n p0 w4L2 w4L3 st = some r0 ∧ va_P D vwCl (rm_g a ci st) H ∧ va_S (ct_F (rm_X a) s.heap.size) s.heap H locs) 4 ?_ ?_ (2000) (0 : Int32) (0 : Int32) ⟨lv_sub hl [0, 1, 2, 3] rfl, hF, hP, hS⟩
  · intro w4L3 w4L2 ls H locs hq
    obtain ⟨hl, hF, hP, hS⟩ := hq
    rw [RM_anyBelow_4] at hF
    cases hF
  · intro n4 ih4 w4L3 w4L2 ls H locs hq
    obtain ⟨hl, hF, hP, hS⟩ := hq
    rw [RM_anyBelow_4] at hF
    refine lv_iload_n hx hb d_RM_anyBelow_4 rfl (lv_at hl 0 rfl) ?_
    refine lv_iload_n hx hb d_RM_anyBelow_5 rfl (lv_at hl 3 rfl) ?_
    refine lv_icmp_ge hx hb d_RM_anyBelow_6 (tgt := 34) (by decide) (fun c6 => ?_) (fun c6 => ?_)
    · replace hF := (if_pos c6).symm.trans hF
      refine lv_iload_n hx hb d_RM_anyBelow_34 rfl (lv_at hl 1 rfl) ?_
      obtain ⟨bz, hF⟩ := ob_if hF
      replace hF := Option.some.inj hF
      subst hF
      exact ct_zret hx hb hr hlk (ob_zn bz) hP hS d_RM_anyBelow_35
    · replace hF := (if_neg c6).symm.trans hF
      refine lv_iload_n hx hb d_RM_anyBelow_9 rfl (lv_at hl 1 rfl) ?_
      refine ct_cut1 (fun (j27s0 : Int32) ls H locs => lv_has ls 4 [(3, .int w4L3), (0, .ref (a 0)), (1, .int p0)] ∧ RM_anyBelow_27 (RM_anyBelow_4 n4) p0 w4L3 j27s0 st = some r0 ∧ va_P D vwCl (rm_g a ci st) H ∧ va_S (ct_F (rm_X a) s.heap.size) s.heap H locs) 27 (fun j27s0 => [.int j27s0]) ?_ ?_
      · intro j27s0 ls H locs hq
        obtain ⟨hl, hF, hP, hS⟩ := hq
        unfold RM_anyBelow_27 at hF
        refine lv_istore_n (lv' := [(2, .int j27s0), (3, .int w4L3), (0, .ref (a 0)), (1, .int p0)]) hx hb d_RM_anyBelow_27 rfl hl (by decide) rfl (fun ls hl => ?_)
        obtain ⟨x28, e28⟩ := nm_ex (w4L3 + (1 : Int32))
        replace hF := (nm_eq e28).symm.trans hF
        refine lv_iinc (v := x28) (lv' := [(3, .int x28), (2, .int j27s0), (0, .ref (a 0)), (1, .int p0)]) hx hb d_RM_anyBelow_28 hl (k := 1) rfl e28 (by decide) rfl (fun ls hl => ?_)
        refine lv_goto hx hb d_RM_anyBelow_31 (tgt := 4) (by decide) ?_
        exact ih4 x28 j27s0 _ _ _ ⟨lv_sub hl [0, 1, 2, 3] rfl, hF, hP, hS⟩
      · intro kj27
        refine ct_cut0 (fun  ls H locs => lv_has ls 4 [(3, .int w4L3), (0, .ref (a 0)), (1, .int p0)] ∧ RM_anyBelow_22 (RM_anyBelow_4 n4) p0 w4L3 st = some r0 ∧ va_P D vwCl (rm_g a ci st) H ∧ va_S (ct_F (rm_X a) s.heap.size) s.heap H locs) 22 [] ?_ ?_
        · intro ls H locs hq
          obtain ⟨hl, hF, hP, hS⟩ := hq
          unfold RM_anyBelow_22 at hF
          refine lv_iconst (v := 1) hx hb d_RM_anyBelow_22 (by decide) ?_
          refine lv_goto hx hb d_RM_anyBelow_23 (tgt := 27) (by decide) ?_
          exact kj27 (1 : Int32) _ _ _ ⟨lv_sub hl [0, 1, 2] rfl, hF, hP, hS⟩
        · intro kj22
          refine lv_if_ne hx hb d_RM_anyBelow_10 (tgt := 22) (by decide) (fun c10 => ?_) (fun c10 => ?_)
          · replace hF := (if_neg c10).symm.trans hF
            exact kj22 _ _ _ ⟨lv_sub hl [0, 2, 3] rfl, hF, hP, hS⟩
          · replace hF := (if_pos c10).symm.trans hF
            refine lv_aload_n hx hb d_RM_anyBelow_13 rfl (lv_at hl 2 rfl) ?_
            refine gf_RM_25 hx hb htb hown hK hP d_RM_anyBelow_14 ?_
            refine lv_iload_n hx hb d_RM_anyBelow_17 rfl (lv_at hl 0 rfl) ?_
            obtain ⟨b18, hF⟩ := ob_if hF
            refine rm_ald hx hb hK hP (k := 6) (by decide) (by decide) (ob_vi b18) d_RM_anyBelow_18 ?_
            refine lv_if_eq hx hb d_RM_anyBelow_19 (tgt := 26) (by decide) (fun c19 => ?_) (fun c19 => ?_)
            · replace hF := (if_pos c19).symm.trans hF
              refine lv_iconst (v := 0) hx hb d_RM_anyBelow_26 (by decide) ?_
              exact kj27 (0 : Int32) _ _ _ ⟨lv_sub hl [0, 2, 3] rfl, hF, hP, hS⟩
            · replace hF := (if_neg c19).symm.trans hF
              exact kj22 _ _ _ ⟨lv_sub hl [0, 2, 3] rfl, hF, hP, hS⟩
theorem d_RM_grows_0 : decode prog_6_method_10_code 0 = .ok (.iload_n 0, 1) := by decide +kernel
theorem d_RM_grows_1 : decode prog_6_method_10_code 1 = .ok (.iconst 4, 1) := by decide +kernel
theorem d_RM_grows_2 : decode prog_6_method_10_code 2 = .ok (.if_icmp .eq 21, 3) := by decide +kernel
theorem d_RM_grows_5 : decode prog_6_method_10_code 5 = .ok (.iload_n 0, 1) := by decide +kernel
theorem d_RM_grows_6 : decode prog_6_method_10_code 6 = .ok (.iconst 2, 1) := by decide +kernel
theorem d_RM_grows_7 : decode prog_6_method_10_code 7 = .ok (.if_icmp .ne 7, 3) := by decide +kernel
theorem d_RM_grows_10 : decode prog_6_method_10_code 10 = .ok (.iload_n 1, 1) := by decide +kernel
theorem d_RM_grows_11 : decode prog_6_method_10_code 11 = .ok (.ifCond .gt 12, 3) := by decide +kernel
theorem d_RM_grows_14 : decode prog_6_method_10_code 14 = .ok (.iload_n 0, 1) := by decide +kernel
theorem d_RM_grows_15 : decode prog_6_method_10_code 15 = .ok (.iconst 3, 1) := by decide +kernel
theorem d_RM_grows_16 : decode prog_6_method_10_code 16 = .ok (.if_icmp .ne 11, 3) := by decide +kernel
theorem d_RM_grows_19 : decode prog_6_method_10_code 19 = .ok (.iload_n 1, 1) := by decide +kernel
theorem d_RM_grows_20 : decode prog_6_method_10_code 20 = .ok (.ifCond .ge 7, 3) := by decide +kernel
theorem d_RM_grows_23 : decode prog_6_method_10_code 23 = .ok (.iconst 1, 1) := by decide +kernel
theorem d_RM_grows_24 : decode prog_6_method_10_code 24 = .ok (.goto 4, 3) := by decide +kernel
theorem d_RM_grows_27 : decode prog_6_method_10_code 27 = .ok (.iconst 0, 1) := by decide +kernel
theorem d_RM_grows_28 : decode prog_6_method_10_code 28 = .ok (.ireturn, 1) := by decide +kernel
def RM_grows_23 : Int32 := (1 : Int32)
def RM_grows_14 (L0 : Int32) (L1 : Int32) : Int32 := (if L0 = (3 : Int32) then (if 0 ≤ L1 then (0 : Int32) else RM_grows_23) else (0 : Int32))
def RM_grows (p0 : Int32) (p1 : Int32) : Int32 := (if p0 = (4 : Int32) then RM_grows_23 else (if p0 = (2 : Int32) then (if 0 < p1 then RM_grows_23 else RM_grows_14 p0 p1) else RM_grows_14 p0 p1))
set_option maxHeartbeats 4000000 in
set_option maxRecDepth 100000 in
theorem c_RM_grows (l : Launch) {D : va_G} (a : Nat → Nat) (ci : ClassId) (hi : rm_inj a) (st : rm_S) (p0 : Int32) (p1 : Int32) (r0 : Int32) (hF : RM_grows p0 p1 = r0) : ct_i l ⟨"RoundedNumbersModel", "grows", "(II)Z"⟩ (.code ⟨"RoundedNumbersModel", "grows", "(II)Z"⟩ prog_6_method_10_code 2 (some .boolean) :: ct_T) { frames := 0, cells := 0, slots := 0, locals := 0 } D vwCl (rm_T ci) (rm_g a ci) (rm_X a) [.int p0, .int p1] st r0 st := by
  refine ct_i.mk (cc := prog_6_method_10_code) (maxL := 2) (by decide) rfl (Nat.le_of_ble_eq_true rfl) ?_
  intro p e s m below meth c hx hb hr hml hown hts hlk hK hN hP hS ls hl
  have hown : s.vm.findClass "RoundedNumbersModel" = some m.cls := hown
  have hl : lv_has ls 2 [(0, .int p0), (1, .int p1)] := hl
  have htb := fun w h => hts w (List.mem_cons_of_mem _ h)
  unfold RM_grows at hF
  refine lv_iload_n hx hb d_RM_grows_0 rfl (lv_at hl 0 rfl) ?_
  refine lv_iconst (v := 4) hx hb d_RM_grows_1 (by decide) ?_
  refine ct_cut0 (fun  ls H locs => lv_has ls 2 [] ∧ RM_grows_23 = r0 ∧ va_P D vwCl (rm_g a ci st) H ∧ va_S (ct_F (rm_X a) s.heap.size) s.heap H locs) 23 [] ?_ ?_
  · intro ls H locs hq
    obtain ⟨hl, hF, hP, hS⟩ := hq
    unfold RM_grows_23 at hF
    refine lv_iconst (v := 1) hx hb d_RM_grows_23 (by decide) ?_
    refine lv_goto hx hb d_RM_grows_24 (tgt := 28) (by decide) ?_
    subst hF
    exact ct_zret hx hb hr hlk (by decide) hP hS d_RM_grows_28
  · intro kj23
    refine lv_icmp_eq hx hb d_RM_grows_2 (tgt := 23) (by decide) (fun c2 => ?_) (fun c2 => ?_)
    · replace hF := (if_pos c2).symm.trans hF
      exact kj23 _ _ _ ⟨lv_sub hl [] rfl, hF, hP, hS⟩
    · replace hF := (if_neg c2).symm.trans hF
      refine lv_iload_n hx hb d_RM_grows_5 rfl (lv_at hl 0 rfl) ?_
      refine lv_iconst (v := 2) hx hb d_RM_grows_6 (by decide) ?_
      refine ct_cut0 (fun  ls H locs => lv_has ls 2 [(0, .int p0), (1, .int p1)] ∧ RM_grows_14 p0 p1 = r0 ∧ va_P D vwCl (rm_g a ci st) H ∧ va_S (ct_F (rm_X a) s.heap.size) s.heap H locs) 14 [] ?_ ?_
      · intro ls H locs hq
        obtain ⟨hl, hF, hP, hS⟩ := hq
        unfold RM_grows_14 at hF
        refine lv_iload_n hx hb d_RM_grows_14 rfl (lv_at hl 0 rfl) ?_
        refine lv_iconst (v := 3) hx hb d_RM_grows_15 (by decide) ?_
        refine lv_icmp_ne hx hb d_RM_grows_16 (tgt := 27) (by decide) (fun c16 => ?_) (fun c16 => ?_)
        · replace hF := (if_neg c16).symm.trans hF
          refine lv_iconst (v := 0) hx hb d_RM_grows_27 (by decide) ?_
          subst hF
          exact ct_zret hx hb hr hlk (by decide) hP hS d_RM_grows_28
        · replace hF := (if_pos c16).symm.trans hF
          refine lv_iload_n hx hb d_RM_grows_19 rfl (lv_at hl 1 rfl) ?_
          refine lv_if_ge hx hb d_RM_grows_20 (tgt := 27) (by decide) (fun c20 => ?_) (fun c20 => ?_)
          · replace hF := (if_pos c20).symm.trans hF
            refine lv_iconst (v := 0) hx hb d_RM_grows_27 (by decide) ?_
            subst hF
            exact ct_zret hx hb hr hlk (by decide) hP hS d_RM_grows_28
          · replace hF := (if_neg c20).symm.trans hF
            exact kj23 _ _ _ ⟨lv_sub hl [] rfl, hF, hP, hS⟩
      · intro kj14
        refine lv_icmp_ne hx hb d_RM_grows_7 (tgt := 14) (by decide) (fun c7 => ?_) (fun c7 => ?_)
        · replace hF := (if_neg c7).symm.trans hF
          exact kj14 _ _ _ ⟨lv_sub hl [0, 1] rfl, hF, hP, hS⟩
        · replace hF := (if_pos c7).symm.trans hF
          refine lv_iload_n hx hb d_RM_grows_10 rfl (lv_at hl 1 rfl) ?_
          refine lv_if_gt hx hb d_RM_grows_11 (tgt := 23) (by decide) (fun c11 => ?_) (fun c11 => ?_)
          · replace hF := (if_pos c11).symm.trans hF
            exact kj23 _ _ _ ⟨lv_sub hl [] rfl, hF, hP, hS⟩
          · replace hF := (if_neg c11).symm.trans hF
            exact kj14 _ _ _ ⟨lv_sub hl [0, 1] rfl, hF, hP, hS⟩
theorem d_RM_goesUp_0 : decode prog_6_method_11_code 0 = .ok (.aload_n 0, 1) := by decide +kernel
theorem d_RM_goesUp_1 : decode prog_6_method_11_code 1 = .ok (.getfield 25, 3) := by decide +kernel
theorem d_RM_goesUp_4 : decode prog_6_method_11_code 4 = .ok (.iload_n 1, 1) := by decide +kernel
theorem d_RM_goesUp_5 : decode prog_6_method_11_code 5 = .ok (.iload_n 2, 1) := by decide +kernel
theorem d_RM_goesUp_6 : decode prog_6_method_11_code 6 = .ok (.isub, 1) := by decide +kernel
theorem d_RM_goesUp_7 : decode prog_6_method_11_code 7 = .ok (.iaload, 1) := by decide +kernel
theorem d_RM_goesUp_8 : decode prog_6_method_11_code 8 = .ok (.iconst 1, 1) := by decide +kernel
theorem d_RM_goesUp_9 : decode prog_6_method_11_code 9 = .ok (.if_icmp .ne 7, 3) := by decide +kernel
theorem d_RM_goesUp_12 : decode prog_6_method_11_code 12 = .ok (.iconst 1, 1) := by decide +kernel
theorem d_RM_goesUp_13 : decode prog_6_method_11_code 13 = .ok (.goto 4, 3) := by decide +kernel
theorem d_RM_goesUp_16 : decode prog_6_method_11_code 16 = .ok (.iconst 0, 1) := by decide +kernel
theorem d_RM_goesUp_17 : decode prog_6_method_11_code 17 = .ok (.istore 5, 2) := by decide +kernel
theorem d_RM_goesUp_19 : decode prog_6_method_11_code 19 = .ok (.aload_n 0, 1) := by decide +kernel
theorem d_RM_goesUp_20 : decode prog_6_method_11_code 20 = .ok (.iload_n 1, 1) := by decide +kernel
theorem d_RM_goesUp_21 : decode prog_6_method_11_code 21 = .ok (.iload_n 2, 1) := by decide +kernel
theorem d_RM_goesUp_22 : decode prog_6_method_11_code 22 = .ok (.isub, 1) := by decide +kernel
theorem d_RM_goesUp_23 : decode prog_6_method_11_code 23 = .ok (.invokevirtual 44, 3) := by decide +kernel
theorem d_RM_goesUp_26 : decode prog_6_method_11_code 26 = .ok (.istore 6, 2) := by decide +kernel
theorem d_RM_goesUp_28 : decode prog_6_method_11_code 28 = .ok (.iload 5, 2) := by decide +kernel
theorem d_RM_goesUp_30 : decode prog_6_method_11_code 30 = .ok (.ifCond .ne 10, 3) := by decide +kernel
theorem d_RM_goesUp_33 : decode prog_6_method_11_code 33 = .ok (.iload 6, 2) := by decide +kernel
theorem d_RM_goesUp_35 : decode prog_6_method_11_code 35 = .ok (.ifCond .ne 5, 3) := by decide +kernel
theorem d_RM_goesUp_38 : decode prog_6_method_11_code 38 = .ok (.iconst 0, 1) := by decide +kernel
theorem d_RM_goesUp_39 : decode prog_6_method_11_code 39 = .ok (.ireturn, 1) := by decide +kernel
theorem d_RM_goesUp_40 : decode prog_6_method_11_code 40 = .ok (.iload_n 3, 1) := by decide +kernel
theorem d_RM_goesUp_41 : decode prog_6_method_11_code 41 = .ok (.ifCond .eq 10, 3) := by decide +kernel
theorem d_RM_goesUp_44 : decode prog_6_method_11_code 44 = .ok (.iload_n 3, 1) := by decide +kernel
theorem d_RM_goesUp_45 : decode prog_6_method_11_code 45 = .ok (.iload 4, 2) := by decide +kernel
theorem d_RM_goesUp_47 : decode prog_6_method_11_code 47 = .ok (.invokestatic 47, 3) := by decide +kernel
theorem d_RM_goesUp_50 : decode prog_6_method_11_code 50 = .ok (.ireturn, 1) := by decide +kernel
theorem d_RM_goesUp_51 : decode prog_6_method_11_code 51 = .ok (.iload_n 2, 1) := by decide +kernel
theorem d_RM_goesUp_52 : decode prog_6_method_11_code 52 = .ok (.iconst 1, 1) := by decide +kernel
theorem d_RM_goesUp_53 : decode prog_6_method_11_code 53 = .ok (.if_icmp .ne 23, 3) := by decide +kernel
theorem d_RM_goesUp_56 : decode prog_6_method_11_code 56 = .ok (.iload_n 1, 1) := by decide +kernel
theorem d_RM_goesUp_57 : decode prog_6_method_11_code 57 = .ok (.sipush 600, 3) := by decide +kernel
theorem d_RM_goesUp_60 : decode prog_6_method_11_code 60 = .ok (.isub, 1) := by decide +kernel
theorem d_RM_goesUp_61 : decode prog_6_method_11_code 61 = .ok (.iconst 1, 1) := by decide +kernel
theorem d_RM_goesUp_62 : decode prog_6_method_11_code 62 = .ok (.iadd, 1) := by decide +kernel
theorem d_RM_goesUp_63 : decode prog_6_method_11_code 63 = .ok (.iconst 2, 1) := by decide +kernel
theorem d_RM_goesUp_64 : decode prog_6_method_11_code 64 = .ok (.irem, 1) := by decide +kernel
theorem d_RM_goesUp_65 : decode prog_6_method_11_code 65 = .ok (.ifCond .eq 7, 3) := by decide +kernel
theorem d_RM_goesUp_68 : decode prog_6_method_11_code 68 = .ok (.iconst 1, 1) := by decide +kernel
theorem d_RM_goesUp_69 : decode prog_6_method_11_code 69 = .ok (.goto 26, 3) := by decide +kernel
theorem d_RM_goesUp_72 : decode prog_6_method_11_code 72 = .ok (.iconst 0, 1) := by decide +kernel
theorem d_RM_goesUp_73 : decode prog_6_method_11_code 73 = .ok (.goto 22, 3) := by decide +kernel
theorem d_RM_goesUp_76 : decode prog_6_method_11_code 76 = .ok (.aload_n 0, 1) := by decide +kernel
theorem d_RM_goesUp_77 : decode prog_6_method_11_code 77 = .ok (.getfield 25, 3) := by decide +kernel
theorem d_RM_goesUp_80 : decode prog_6_method_11_code 80 = .ok (.iload_n 1, 1) := by decide +kernel
theorem d_RM_goesUp_81 : decode prog_6_method_11_code 81 = .ok (.iload_n 2, 1) := by decide +kernel
theorem d_RM_goesUp_82 : decode prog_6_method_11_code 82 = .ok (.isub, 1) := by decide +kernel
theorem d_RM_goesUp_83 : decode prog_6_method_11_code 83 = .ok (.iconst 1, 1) := by decide +kernel
theorem d_RM_goesUp_84 : decode prog_6_method_11_code 84 = .ok (.iadd, 1) := by decide +kernel
theorem d_RM_goesUp_85 : decode prog_6_method_11_code 85 = .ok (.iaload, 1) := by decide +kernel
theorem d_RM_goesUp_86 : decode prog_6_method_11_code 86 = .ok (.iconst 1, 1) := by decide +kernel
theorem d_RM_goesUp_87 : decode prog_6_method_11_code 87 = .ok (.if_icmp .ne 7, 3) := by decide +kernel
theorem d_RM_goesUp_90 : decode prog_6_method_11_code 90 = .ok (.iconst 1, 1) := by decide +kernel
theorem d_RM_goesUp_91 : decode prog_6_method_11_code 91 = .ok (.goto 4, 3) := by decide +kernel
theorem d_RM_goesUp_94 : decode prog_6_method_11_code 94 = .ok (.iconst 0, 1) := by decide +kernel
theorem d_RM_goesUp_95 : decode prog_6_method_11_code 95 = .ok (.istore 7, 2) := by decide +kernel
theorem d_RM_goesUp_97 : decode prog_6_method_11_code 97 = .ok (.iload 5, 2) := by decide +kernel
theorem d_RM_goesUp_99 : decode prog_6_method_11_code 99 = .ok (.ifCond .eq 17, 3) := by decide +kernel
theorem d_RM_goesUp_102 : decode prog_6_method_11_code 102 = .ok (.iload 6, 2) := by decide +kernel
theorem d_RM_goesUp_104 : decode prog_6_method_11_code 104 = .ok (.ifCond .ne 8, 3) := by decide +kernel
theorem d_RM_goesUp_107 : decode prog_6_method_11_code 107 = .ok (.iload 7, 2) := by decide +kernel
theorem d_RM_goesUp_109 : decode prog_6_method_11_code 109 = .ok (.ifCond .eq 7, 3) := by decide +kernel
theorem d_RM_goesUp_112 : decode prog_6_method_11_code 112 = .ok (.iconst 1, 1) := by decide +kernel
theorem d_RM_goesUp_113 : decode prog_6_method_11_code 113 = .ok (.goto 4, 3) := by decide +kernel
theorem d_RM_goesUp_116 : decode prog_6_method_11_code 116 = .ok (.iconst 0, 1) := by decide +kernel
theorem d_RM_goesUp_117 : decode prog_6_method_11_code 117 = .ok (.ireturn, 1) := by decide +kernel
def RM_goesUp_112 (st : rm_S) : Option (Int32) := some (1 : Int32)
def RM_goesUp_95 (L5 : Int32) (L6 : Int32) (s0 : Int32) (st : rm_S) : Option (Int32) := (if L5 = 0 then some (0 : Int32) else (if L6 = 0 then (if s0 = 0 then some (0 : Int32) else RM_goesUp_112 st) else RM_goesUp_112 st))
def RM_goesUp_40 (L1 : Int32) (L2 : Int32) (L3 : Int32) (L4 : Int32) (L5 : Int32) (L6 : Int32) (st : rm_S) : Option (Int32) := (if L3 = 0 then (if L2 = (1 : Int32) then (if (((L1 - (600 : Int32)) + (1 : Int32)) - ((L1 - (600 : Int32)) + (1 : Int32)) / (2 : Int32) * (2 : Int32)) = 0 then RM_goesUp_95 L5 L6 (0 : Int32) st else RM_goesUp_95 L5 L6 (1 : Int32) st) else (if ob_in ((L1 - L2) + (1 : Int32)) 1024 = true then (if (st 6 ((L1 - L2) + (1 : Int32)).toNatClampNeg) = (1 : Int32) then RM_goesUp_95 L5 L6 (1 : Int32) st else RM_goesUp_95 L5 L6 (0 : Int32) st) else none)) else nm (RM_grows L3 L4) (fun r47 => (if ob_z r47 = true then some r47 else none)))
def RM_goesUp_17 (L1 : Int32) (L2 : Int32) (L3 : Int32) (L4 : Int32) (s0 : Int32) (st : rm_S) : Option (Int32) := ob1 (RM_anyBelow st (L1 - L2)) (fun r23 => (if s0 = 0 then (if r23 = 0 then some (0 : Int32) else RM_goesUp_40 L1 L2 L3 L4 s0 r23 st) else RM_goesUp_40 L1 L2 L3 L4 s0 r23 st))
def RM_goesUp (st : rm_S) (p0 : Int32) (p1 : Int32) (p2 : Int32) (p3 : Int32) : Option (Int32) := (if ob_in (p0 - p1) 1024 = true then (if (st 6 (p0 - p1).toNatClampNeg) = (1 : Int32) then RM_goesUp_17 p0 p1 p2 p3 (1 : Int32) st else RM_goesUp_17 p0 p1 p2 p3 (0 : Int32) st) else none)
set_option maxHeartbeats 4000000 in
set_option maxRecDepth 100000 in
theorem c_RM_goesUp (l : Launch) {D : va_G} (a : Nat → Nat) (ci : ClassId) (hi : rm_inj a) (st : rm_S) (p0 : Int32) (p1 : Int32) (p2 : Int32) (p3 : Int32) (r0 : Int32) (hF : RM_goesUp st p0 p1 p2 p3 = some r0) : ct_i l ⟨"RoundedNumbersModel", "goesUp", "(IIII)Z"⟩ (.code ⟨"RoundedNumbersModel", "goesUp", "(IIII)Z"⟩ prog_6_method_11_code 8 (some .boolean) :: ct_T) { frames := 1, cells := 0, slots := 0, locals := 23 } D vwCl (rm_T ci) (rm_g a ci) (rm_X a) [.ref (a 0), .int p0, .int p1, .int p2, .int p3] st r0 st := by
  refine ct_i.mk (cc := prog_6_method_11_code) (maxL := 8) (by decide) rfl (Nat.le_of_ble_eq_true rfl) ?_
  intro p e s m below meth c hx hb hr hml hown hts hlk hK hN hP hS ls hl
  have hown : s.vm.findClass "RoundedNumbersModel" = some m.cls := hown
  have hl : lv_has ls 8 [(0, .ref (a 0)), (1, .int p0), (2, .int p1), (3, .int p2), (4, .int p3)] := hl
  have htb := fun w h => hts w (List.mem_cons_of_mem _ h)
  unfold RM_goesUp at hF
  refine lv_aload_n hx hb d_RM_goesUp_0 rfl (lv_at hl 0 rfl) ?_
  refine gf_RM_25 hx hb htb hown hK hP d_RM_goesUp_1 ?_
  refine lv_iload_n hx hb d_RM_goesUp_4 rfl (lv_at hl 1 rfl) ?_
  refine lv_iload_n hx hb d_RM_goesUp_5 rfl (lv_at hl 2 rfl) ?_
  refine lv_isub hx hb d_RM_goesUp_6 ?_
  obtain ⟨b7, hF⟩ := ob_if hF
  refine rm_ald hx hb hK hP (k := 6) (by decide) (by decide) (ob_vi b7) d_RM_goesUp_7 ?_
  refine lv_iconst (v := 1) hx hb d_RM_goesUp_8 (by decide) ?_
  refine ct_cut1 (fun (j17s0 : Int32) ls H locs => lv_has ls 8 [(0, .ref (a 0)), (1, .int p0), (2, .int p1), (3, .int p2), (4, .int p3)] ∧ RM_goesUp_17 p0 p1 p2 p3 j17s0 st = some r0 ∧ va_P D vwCl (rm_g a ci st) H ∧ va_S (ct_F (rm_X a) s.heap.size) s.heap H locs) 17 (fun j17s0 => [.int j17s0]) ?_ ?_
  · intro j17s0 ls H locs hq
    obtain ⟨hl, hF, hP, hS⟩ := hq
    unfold RM_goesUp_17 at hF
    refine lv_istore (lv' := [(5, .int j17s0), (0, .ref (a 0)), (1, .int p0), (2, .int p1), (3, .int p2), (4, .int p3)]) hx hb d_RM_goesUp_17 hl (by decide) rfl (fun ls hl => ?_)
    refine lv_aload_n hx hb d_RM_goesUp_19 rfl (lv_at hl 1 rfl) ?_
    refine lv_iload_n hx hb d_RM_goesUp_20 rfl (lv_at hl 2 rfl) ?_
    refine lv_iload_n hx hb d_RM_goesUp_21 rfl (lv_at hl 3 rfl) ?_
    refine lv_isub hx hb d_RM_goesUp_22 ?_
    obtain ⟨r23, e23, hF⟩ := ob_one hF
    refine ct_calli (va_runV (As := [.int (p0 - p1)]) (rest := []) ⟨hx, hb, hml, hown, hts⟩ (c_RM_anyBelow l (D := D) a ci hi st (p0 - p1) _ e23 _) (kc_RM_44 hts ⟨by decide, by decide⟩) ⟨ct_blind, rm_rc hK hP, ct_ok hP hK hN⟩ rfl rfl hl.1 rfl (lv_room (Nat.le_of_ble_eq_true rfl)) d_RM_goesUp_23 ⟨Nat.zero_le _, Nat.zero_le _⟩) hS (fun H locs hP hS => ?_)
    refine lv_istore (lv' := [(6, .int r23), (5, .int j17s0), (0, .ref (a 0)), (1, .int p0), (2, .int p1), (3, .int p2), (4, .int p3)]) hx hb d_RM_goesUp_26 hl (by decide) rfl (fun ls hl => ?_)
    refine lv_iload hx hb d_RM_goesUp_28 (lv_at hl 1 rfl) ?_
    refine ct_cut0 (fun  ls H locs => lv_has ls 8 [(6, .int r23), (5, .int j17s0), (0, .ref (a 0)), (1, .int p0), (2, .int p1), (3, .int p2), (4, .int p3)] ∧ RM_goesUp_40 p0 p1 p2 p3 j17s0 r23 st = some r0 ∧ va_P D vwCl (rm_g a ci st) H ∧ va_S (ct_F (rm_X a) s.heap.size) s.heap H locs) 40 [] ?_ ?_
    · intro ls H locs hq
      obtain ⟨hl, hF, hP, hS⟩ := hq
      unfold RM_goesUp_40 at hF
      refine lv_iload_n hx hb d_RM_goesUp_40 rfl (lv_at hl 5 rfl) ?_
      refine lv_if_eq hx hb d_RM_goesUp_41 (tgt := 51) (by decide) (fun c41 => ?_) (fun c41 => ?_)
      · replace hF := (if_pos c41).symm.trans hF
        refine lv_iload_n hx hb d_RM_goesUp_51 rfl (lv_at hl 4 rfl) ?_
        refine lv_iconst (v := 1) hx hb d_RM_goesUp_52 (by decide) ?_
        refine ct_cut1 (fun (j95s0 : Int32) ls H locs => lv_has ls 8 [(6, .int r23), (5, .int j17s0)] ∧ RM_goesUp_95 j17s0 r23 j95s0 st = some r0 ∧ va_P D vwCl (rm_g a ci st) H ∧ va_S (ct_F (rm_X a) s.heap.size) s.heap H locs) 95 (fun j95s0 => [.int j95s0]) ?_ ?_
        · intro j95s0 ls H locs hq
          obtain ⟨hl, hF, hP, hS⟩ := hq
          unfold RM_goesUp_95 at hF
          refine lv_istore (lv' := [(7, .int j95s0), (6, .int r23), (5, .int j17s0)]) hx hb d_RM_goesUp_95 hl (by decide) rfl (fun ls hl => ?_)
          refine lv_iload hx hb d_RM_goesUp_97 (lv_at hl 2 rfl) ?_
          refine lv_if_eq hx hb d_RM_goesUp_99 (tgt := 116) (by decide) (fun c99 => ?_) (fun c99 => ?_)
          · replace hF := (if_pos c99).symm.trans hF
            refine lv_iconst (v := 0) hx hb d_RM_goesUp_116 (by decide) ?_
            replace hF := Option.some.inj hF
            subst hF
            exact ct_zret hx hb hr hlk (by decide) hP hS d_RM_goesUp_117
          · replace hF := (if_neg c99).symm.trans hF
            refine lv_iload hx hb d_RM_goesUp_102 (lv_at hl 1 rfl) ?_
            refine ct_cut0 (fun  ls H locs => lv_has ls 8 [] ∧ RM_goesUp_112 st = some r0 ∧ va_P D vwCl (rm_g a ci st) H ∧ va_S (ct_F (rm_X a) s.heap.size) s.heap H locs) 112 [] ?_ ?_
            · intro ls H locs hq
              obtain ⟨hl, hF, hP, hS⟩ := hq
              unfold RM_goesUp_112 at hF
              refine lv_iconst (v := 1) hx hb d_RM_goesUp_112 (by decide) ?_
              refine lv_goto hx hb d_RM_goesUp_113 (tgt := 117) (by decide) ?_
              replace hF := Option.some.inj hF
              subst hF
              exact ct_zret hx hb hr hlk (by decide) hP hS d_RM_goesUp_117
            · intro kj112
              refine lv_if_ne hx hb d_RM_goesUp_104 (tgt := 112) (by decide) (fun c104 => ?_) (fun c104 => ?_)
              · replace hF := (if_neg c104).symm.trans hF
                exact kj112 _ _ _ ⟨lv_sub hl [] rfl, hF, hP, hS⟩
              · replace hF := (if_pos c104).symm.trans hF
                refine lv_iload hx hb d_RM_goesUp_107 (lv_at hl 0 rfl) ?_
                refine lv_if_eq hx hb d_RM_goesUp_109 (tgt := 116) (by decide) (fun c109 => ?_) (fun c109 => ?_)
                · replace hF := (if_pos c109).symm.trans hF
                  refine lv_iconst (v := 0) hx hb d_RM_goesUp_116 (by decide) ?_
                  replace hF := Option.some.inj hF
                  subst hF
                  exact ct_zret hx hb hr hlk (by decide) hP hS d_RM_goesUp_117
                · replace hF := (if_neg c109).symm.trans hF
                  exact kj112 _ _ _ ⟨lv_sub hl [] rfl, hF, hP, hS⟩
        · intro kj95
          refine lv_icmp_ne hx hb d_RM_goesUp_53 (tgt := 76) (by decide) (fun c53 => ?_) (fun c53 => ?_)
          · replace hF := (if_neg c53).symm.trans hF
            refine lv_aload_n hx hb d_RM_goesUp_76 rfl (lv_at hl 2 rfl) ?_
            refine gf_RM_25 hx hb htb hown hK hP d_RM_goesUp_77 ?_
            refine lv_iload_n hx hb d_RM_goesUp_80 rfl (lv_at hl 3 rfl) ?_
            refine lv_iload_n hx hb d_RM_goesUp_81 rfl (lv_at hl 4 rfl) ?_
            refine lv_isub hx hb d_RM_goesUp_82 ?_
            refine lv_iconst (v := 1) hx hb d_RM_goesUp_83 (by decide) ?_
            refine lv_iadd hx hb d_RM_goesUp_84 ?_
            obtain ⟨b85, hF⟩ := ob_if hF
            refine rm_ald hx hb hK hP (k := 6) (by decide) (by decide) (ob_vi b85) d_RM_goesUp_85 ?_
            refine lv_iconst (v := 1) hx hb d_RM_goesUp_86 (by decide) ?_
            refine lv_icmp_ne hx hb d_RM_goesUp_87 (tgt := 94) (by decide) (fun c87 => ?_) (fun c87 => ?_)
            · replace hF := (if_neg c87).symm.trans hF
              refine lv_iconst (v := 0) hx hb d_RM_goesUp_94 (by decide) ?_
              exact kj95 (0 : Int32) _ _ _ ⟨lv_sub hl [0, 1] rfl, hF, hP, hS⟩
            · replace hF := (if_pos c87).symm.trans hF
              refine lv_iconst (v := 1) hx hb d_RM_goesUp_90 (by decide) ?_
              refine lv_goto hx hb d_RM_goesUp_91 (tgt := 95) (by decide) ?_
              exact kj95 (1 : Int32) _ _ _ ⟨lv_sub hl [0, 1] rfl, hF, hP, hS⟩
          · replace hF := (if_pos c53).symm.trans hF
            refine lv_iload_n hx hb d_RM_goesUp_56 rfl (lv_at hl 3 rfl) ?_
            refine lv_sipush (v := 600) hx hb d_RM_goesUp_57 (by decide) ?_
            refine lv_isub hx hb d_RM_goesUp_60 ?_
            refine lv_iconst (v := 1) hx hb d_RM_goesUp_61 (by decide) ?_
            refine lv_iadd hx hb d_RM_goesUp_62 ?_
            refine lv_iconst (v := 2) hx hb d_RM_goesUp_63 (by decide) ?_
            refine lv_irem hx hb d_RM_goesUp_64 (by decide) ?_
            refine lv_if_eq hx hb d_RM_goesUp_65 (tgt := 72) (by decide) (fun c65 => ?_) (fun c65 => ?_)
            · replace hF := (if_pos c65).symm.trans hF
              refine lv_iconst (v := 0) hx hb d_RM_goesUp_72 (by decide) ?_
              refine lv_goto hx hb d_RM_goesUp_73 (tgt := 95) (by decide) ?_
              exact kj95 (0 : Int32) _ _ _ ⟨lv_sub hl [0, 1] rfl, hF, hP, hS⟩
            · replace hF := (if_neg c65).symm.trans hF
              refine lv_iconst (v := 1) hx hb d_RM_goesUp_68 (by decide) ?_
              refine lv_goto hx hb d_RM_goesUp_69 (tgt := 95) (by decide) ?_
              exact kj95 (1 : Int32) _ _ _ ⟨lv_sub hl [0, 1] rfl, hF, hP, hS⟩
      · replace hF := (if_neg c41).symm.trans hF
        refine lv_iload_n hx hb d_RM_goesUp_44 rfl (lv_at hl 5 rfl) ?_
        refine lv_iload hx hb d_RM_goesUp_45 (lv_at hl 6 rfl) ?_
        obtain ⟨r47, e47⟩ := nm_ex (RM_grows p2 p3)
        replace hF := (nm_eq e47).symm.trans hF
        refine ct_calli (va_runS (As := [.int p2, .int p3]) (rest := []) ⟨hx, hb, hml, hown, hts⟩ (c_RM_grows l (D := D) a ci hi st p2 p3 _ e47 _) (kc_RM_47 hts ⟨by decide, by decide⟩) ⟨ct_blind, ct_ok hP hK hN⟩ rfl rfl hl.1 rfl (lv_room (Nat.le_of_ble_eq_true rfl)) d_RM_goesUp_47 ⟨Nat.zero_le _, Nat.zero_le _⟩) hS (fun H locs hP hS => ?_)
        obtain ⟨bz, hF⟩ := ob_if hF
        replace hF := Option.some.inj hF
        subst hF
        exact ct_zret hx hb hr hlk (ob_zn bz) hP hS d_RM_goesUp_50
    · intro kj40
      refine lv_if_ne hx hb d_RM_goesUp_30 (tgt := 40) (by decide) (fun c30 => ?_) (fun c30 => ?_)
      · replace hF := (if_neg c30).symm.trans hF
        exact kj40 _ _ _ ⟨lv_sub hl [0, 1, 2, 3, 4, 5, 6] rfl, hF, hP, hS⟩
      · replace hF := (if_pos c30).symm.trans hF
        refine lv_iload hx hb d_RM_goesUp_33 (lv_at hl 0 rfl) ?_
        refine lv_if_ne hx hb d_RM_goesUp_35 (tgt := 40) (by decide) (fun c35 => ?_) (fun c35 => ?_)
        · replace hF := (if_neg c35).symm.trans hF
          exact kj40 _ _ _ ⟨lv_sub hl [0, 1, 2, 3, 4, 5, 6] rfl, hF, hP, hS⟩
        · replace hF := (if_pos c35).symm.trans hF
          refine lv_iconst (v := 0) hx hb d_RM_goesUp_38 (by decide) ?_
          replace hF := Option.some.inj hF
          subst hF
          exact ct_zret hx hb hr hlk (by decide) hP hS d_RM_goesUp_39
  · intro kj17
    refine lv_icmp_ne hx hb d_RM_goesUp_9 (tgt := 16) (by decide) (fun c9 => ?_) (fun c9 => ?_)
    · replace hF := (if_neg c9).symm.trans hF
      refine lv_iconst (v := 0) hx hb d_RM_goesUp_16 (by decide) ?_
      exact kj17 (0 : Int32) _ _ _ ⟨lv_sub hl [0, 1, 2, 3, 4] rfl, hF, hP, hS⟩
    · replace hF := (if_pos c9).symm.trans hF
      refine lv_iconst (v := 1) hx hb d_RM_goesUp_12 (by decide) ?_
      refine lv_goto hx hb d_RM_goesUp_13 (tgt := 17) (by decide) ?_
      exact kj17 (1 : Int32) _ _ _ ⟨lv_sub hl [0, 1, 2, 3, 4] rfl, hF, hP, hS⟩
