theorem d_RN_setPrec_0 : decode prog_1_method_2_code 0 = .ok (.iload_n 1, 1) := by decide +kernel
theorem d_RN_setPrec_1 : decode prog_1_method_2_code 1 = .ok (.invokestatic 64, 3) := by decide +kernel
theorem d_RN_setPrec_4 : decode prog_1_method_2_code 4 = .ok (.ifCond .eq 14, 3) := by decide +kernel
theorem d_RN_setPrec_7 : decode prog_1_method_2_code 7 = .ok (.iload_n 2, 1) := by decide +kernel
theorem d_RN_setPrec_8 : decode prog_1_method_2_code 8 = .ok (.iconst 1, 1) := by decide +kernel
theorem d_RN_setPrec_9 : decode prog_1_method_2_code 9 = .ok (.if_icmp .lt 9, 3) := by decide +kernel
theorem d_RN_setPrec_12 : decode prog_1_method_2_code 12 = .ok (.iload_n 2, 1) := by decide +kernel
theorem d_RN_setPrec_13 : decode prog_1_method_2_code 13 = .ok (.bipush 93, 2) := by decide +kernel
theorem d_RN_setPrec_15 : decode prog_1_method_2_code 15 = .ok (.if_icmp .le 5, 3) := by decide +kernel
theorem d_RN_setPrec_18 : decode prog_1_method_2_code 18 = .ok (.iconst 0, 1) := by decide +kernel
theorem d_RN_setPrec_19 : decode prog_1_method_2_code 19 = .ok (.ireturn, 1) := by decide +kernel
theorem d_RN_setPrec_20 : decode prog_1_method_2_code 20 = .ok (.aload_n 0, 1) := by decide +kernel
theorem d_RN_setPrec_21 : decode prog_1_method_2_code 21 = .ok (.getfield 9, 3) := by decide +kernel
theorem d_RN_setPrec_24 : decode prog_1_method_2_code 24 = .ok (.iload_n 1, 1) := by decide +kernel
theorem d_RN_setPrec_25 : decode prog_1_method_2_code 25 = .ok (.iload_n 2, 1) := by decide +kernel
theorem d_RN_setPrec_26 : decode prog_1_method_2_code 26 = .ok (.iastore, 1) := by decide +kernel
theorem d_RN_setPrec_27 : decode prog_1_method_2_code 27 = .ok (.aload_n 0, 1) := by decide +kernel
theorem d_RN_setPrec_28 : decode prog_1_method_2_code 28 = .ok (.getfield 15, 3) := by decide +kernel
theorem d_RN_setPrec_31 : decode prog_1_method_2_code 31 = .ok (.iload_n 1, 1) := by decide +kernel
theorem d_RN_setPrec_32 : decode prog_1_method_2_code 32 = .ok (.aaload, 1) := by decide +kernel
theorem d_RN_setPrec_33 : decode prog_1_method_2_code 33 = .ok (.iconst 0, 1) := by decide +kernel
theorem d_RN_setPrec_34 : decode prog_1_method_2_code 34 = .ok (.iconst 0, 1) := by decide +kernel
theorem d_RN_setPrec_35 : decode prog_1_method_2_code 35 = .ok (.invokevirtual 68, 3) := by decide +kernel
theorem d_RN_setPrec_38 : decode prog_1_method_2_code 38 = .ok (.iconst 1, 1) := by decide +kernel
theorem d_RN_setPrec_39 : decode prog_1_method_2_code 39 = .ok (.ireturn, 1) := by decide +kernel
def RN_setPrec (st : rn_S) (p0 : Int32) (p1 : Int32) : Int32 × rn_S := nm (RN_isRegister p0) (fun r1 => (if r1 = 0 then ((0 : Int32), st) else (if p1 < (1 : Int32) then ((0 : Int32), st) else (if p1 ≤ (93 : Int32) then nm (rn_prs st p0.toNatClampNeg p1) (fun t26 => nm (RV_become t26 p0.toNatClampNeg (0 : Int32) (0 : Int32)) (fun t35 => ((1 : Int32), t35))) else ((0 : Int32), st)))))
set_option maxHeartbeats 4000000 in
set_option maxRecDepth 100000 in
theorem c_RN_setPrec (l : Launch) {D : va_G} (a : Nat → Nat) (ci co : ClassId) (hi : rn_inj a) (st : rn_S) (p0 : Int32) (p1 : Int32) (r0 : Int32) (t0 : rn_S) (hF : RN_setPrec st p0 p1 = (r0, t0)) : ct_i l ⟨"RoundedNumbers", "setPrec", "(II)Z"⟩ (.code ⟨"RoundedNumbers", "setPrec", "(II)Z"⟩ prog_1_method_2_code 3 (some .boolean) :: ct_T) { frames := 1, cells := 0, slots := 0, locals := 22 } D vwCl (rn_T ci co) (rn_g a ci co) (rn_X a) [.ref (a 0), .int p0, .int p1] st r0 t0 := by
  refine ct_i.mk (cc := prog_1_method_2_code) (maxL := 3) (by decide) rfl (Nat.le_of_ble_eq_true rfl) ?_
  intro p e s m below meth c hx hb hr hml hown hts hlk hK hN hP hS ls hl
  have hown : s.vm.findClass "RoundedNumbers" = some m.cls := hown
  have hl : lv_has ls 3 [(0, .ref (a 0)), (1, .int p0), (2, .int p1)] := hl
  have htb := fun w h => hts w (List.mem_cons_of_mem _ h)
  unfold RN_setPrec at hF
  refine lv_iload_n hx hb d_RN_setPrec_0 rfl (lv_at hl 1 rfl) ?_
  obtain ⟨r1, e1⟩ := nm_ex (RN_isRegister p0)
  replace hF := (nm_eq e1).symm.trans hF
  refine ct_calli (va_runS (As := [.int p0]) (rest := []) ⟨hx, hb, hml, hown, hts⟩ (c_RN_isRegister l (D := D) a ci co hi st p0 _ e1 _) (kc_RN_64 hts ⟨by decide, by decide⟩) ⟨ct_blind, ct_ok hP hK hN⟩ rfl rfl hl.1 rfl (lv_room (Nat.le_of_ble_eq_true rfl)) d_RN_setPrec_1 ⟨Nat.zero_le _, Nat.zero_le _⟩) hS (fun H locs hP hS => ?_)
  refine lv_if_eq hx hb d_RN_setPrec_4 (tgt := 18) (by decide) (fun c4 => ?_) (fun c4 => ?_)
  · replace hF := (if_pos c4).symm.trans hF
    refine lv_iconst (v := 0) hx hb d_RN_setPrec_18 (by decide) ?_
    obtain ⟨rfl, rfl⟩ := Prod.mk.inj hF
    exact ct_zret hx hb hr hlk (by decide) hP hS d_RN_setPrec_19
  · replace hF := (if_neg c4).symm.trans hF
    refine lv_iload_n hx hb d_RN_setPrec_7 rfl (lv_at hl 2 rfl) ?_
    refine lv_iconst (v := 1) hx hb d_RN_setPrec_8 (by decide) ?_
    refine lv_icmp_lt hx hb d_RN_setPrec_9 (tgt := 18) (by decide) (fun c9 => ?_) (fun c9 => ?_)
    · replace hF := (if_pos c9).symm.trans hF
      refine lv_iconst (v := 0) hx hb d_RN_setPrec_18 (by decide) ?_
      obtain ⟨rfl, rfl⟩ := Prod.mk.inj hF
      exact ct_zret hx hb hr hlk (by decide) hP hS d_RN_setPrec_19
    · replace hF := (if_neg c9).symm.trans hF
      refine lv_iload_n hx hb d_RN_setPrec_12 rfl (lv_at hl 2 rfl) ?_
      refine lv_bipush (v := 93) hx hb d_RN_setPrec_13 (by decide) ?_
      refine lv_icmp_le hx hb d_RN_setPrec_15 (tgt := 20) (by decide) (fun c15 => ?_) (fun c15 => ?_)
      · replace hF := (if_pos c15).symm.trans hF
        refine lv_aload_n hx hb d_RN_setPrec_20 rfl (lv_at hl 0 rfl) ?_
        refine gf_RN_9 hx hb htb hown hK hP d_RN_setPrec_21 ?_
        refine lv_iload_n hx hb d_RN_setPrec_24 rfl (lv_at hl 1 rfl) ?_
        refine lv_iload_n hx hb d_RN_setPrec_25 rfl (lv_at hl 2 rfl) ?_
        refine rn_ast_prec hx hb hK hP hS hi (rg_in e1 c4) d_RN_setPrec_26 (fun H locs hP hS => ?_)
        obtain ⟨t26, e26, hP⟩ := nm_st hP
        replace hF := (nm_eq e26).symm.trans hF
        refine lv_aload_n hx hb d_RN_setPrec_27 rfl (lv_at hl 0 rfl) ?_
        refine gf_RN_15 hx hb htb hown hK hP d_RN_setPrec_28 ?_
        refine lv_iload_n hx hb d_RN_setPrec_31 rfl (lv_at hl 1 rfl) ?_
        refine rn_ald_regs hx hb hK hP (rg_in e1 c4) d_RN_setPrec_32 ?_
        refine lv_iconst (v := 0) hx hb d_RN_setPrec_33 (by decide) ?_
        refine lv_iconst (v := 0) hx hb d_RN_setPrec_34 (by decide) ?_
        obtain ⟨t35, e35⟩ := nm_ex (RV_become t26 p0.toNatClampNeg (0 : Int32) (0 : Int32))
        replace hF := (nm_eq e35).symm.trans hF
        refine ct_callv (va_runV (As := [.int (0 : Int32), .int (0 : Int32)]) (rest := []) ⟨hx, hb, hml, hown, hts⟩ (c_RV_become l (D := D) a ci co hi t26 p0.toNatClampNeg (0 : Int32) (0 : Int32) (rn_lt10 (rg_in e1 c4)) _ e35 _) (kc_RN_68 hts ⟨by decide, by decide⟩) ⟨ct_blind, rn_rc1 hK hP (rn_lt10 (rg_in e1 c4)), ct_ok hP hK hN⟩ rfl rfl hl.1 rfl (lv_room (Nat.le_of_ble_eq_true rfl)) d_RN_setPrec_35 ⟨Nat.zero_le _, Nat.zero_le _⟩) hS (fun H locs hP hS => ?_)
        refine lv_iconst (v := 1) hx hb d_RN_setPrec_38 (by decide) ?_
        obtain ⟨rfl, rfl⟩ := Prod.mk.inj hF
        exact ct_zret hx hb hr hlk (by decide) hP hS d_RN_setPrec_39
      · replace hF := (if_neg c15).symm.trans hF
        refine lv_iconst (v := 0) hx hb d_RN_setPrec_18 (by decide) ?_
        obtain ⟨rfl, rfl⟩ := Prod.mk.inj hF
        exact ct_zret hx hb hr hlk (by decide) hP hS d_RN_setPrec_19
theorem d_RN_loadInt_0 : decode prog_1_method_3_code 0 = .ok (.iload_n 1, 1) := by decide +kernel
theorem d_RN_loadInt_1 : decode prog_1_method_3_code 1 = .ok (.iload_n 3, 1) := by decide +kernel
theorem d_RN_loadInt_2 : decode prog_1_method_3_code 2 = .ok (.invokestatic 72, 3) := by decide +kernel
theorem d_RN_loadInt_5 : decode prog_1_method_3_code 5 = .ok (.ifCond .ne 6, 3) := by decide +kernel
theorem d_RN_loadInt_8 : decode prog_1_method_3_code 8 = .ok (.bipush 9, 2) := by decide +kernel
theorem d_RN_loadInt_10 : decode prog_1_method_3_code 10 = .ok (.ireturn, 1) := by decide +kernel
theorem d_RN_loadInt_11 : decode prog_1_method_3_code 11 = .ok (.aload_n 0, 1) := by decide +kernel
theorem d_RN_loadInt_12 : decode prog_1_method_3_code 12 = .ok (.iload_n 1, 1) := by decide +kernel
theorem d_RN_loadInt_13 : decode prog_1_method_3_code 13 = .ok (.iload_n 2, 1) := by decide +kernel
theorem d_RN_loadInt_14 : decode prog_1_method_3_code 14 = .ok (.i2l, 1) := by decide +kernel
theorem d_RN_loadInt_15 : decode prog_1_method_3_code 15 = .ok (.iconst 0, 1) := by decide +kernel
theorem d_RN_loadInt_16 : decode prog_1_method_3_code 16 = .ok (.iload_n 3, 1) := by decide +kernel
theorem d_RN_loadInt_17 : decode prog_1_method_3_code 17 = .ok (.invokevirtual 76, 3) := by decide +kernel
theorem d_RN_loadInt_20 : decode prog_1_method_3_code 20 = .ok (.ireturn, 1) := by decide +kernel
def RN_loadInt (st : rn_S) (p0 : Int32) (p1 : Int32) (p2 : Int32) : Int32 × rn_S := nm (RN_isTarget p0 p2) (fun r2 => (if r2 = 0 then ((9 : Int32), st) else bd (RN_storeLoaded st p0 p1.toInt64 (0 : Int32) p2) (fun r17 t17 => (r17, t17))))
set_option maxHeartbeats 4000000 in
set_option maxRecDepth 100000 in
theorem c_RN_loadInt (l : Launch) {D : va_G} (a : Nat → Nat) (ci co : ClassId) (hi : rn_inj a) (st : rn_S) (p0 : Int32) (p1 : Int32) (p2 : Int32) (r0 : Int32) (t0 : rn_S) (hF : RN_loadInt st p0 p1 p2 = (r0, t0)) : ct_i l ⟨"RoundedNumbers", "loadInt", "(III)I"⟩ (.code ⟨"RoundedNumbers", "loadInt", "(III)I"⟩ prog_1_method_3_code 4 (some .int) :: ct_T) { frames := 7, cells := 0, slots := 0, locals := 175 } D vwCl (rn_T ci co) (rn_g a ci co) (rn_X a) [.ref (a 0), .int p0, .int p1, .int p2] st r0 t0 := by
  refine ct_i.mk (cc := prog_1_method_3_code) (maxL := 4) (by decide) rfl (Nat.le_of_ble_eq_true rfl) ?_
  intro p e s m below meth c hx hb hr hml hown hts hlk hK hN hP hS ls hl
  have hown : s.vm.findClass "RoundedNumbers" = some m.cls := hown
  have hl : lv_has ls 4 [(0, .ref (a 0)), (1, .int p0), (2, .int p1), (3, .int p2)] := hl
  have htb := fun w h => hts w (List.mem_cons_of_mem _ h)
  unfold RN_loadInt at hF
  refine lv_iload_n hx hb d_RN_loadInt_0 rfl (lv_at hl 1 rfl) ?_
  refine lv_iload_n hx hb d_RN_loadInt_1 rfl (lv_at hl 3 rfl) ?_
  obtain ⟨r2, e2⟩ := nm_ex (RN_isTarget p0 p2)
  replace hF := (nm_eq e2).symm.trans hF
  refine ct_calli (va_runS (As := [.int p0, .int p2]) (rest := []) ⟨hx, hb, hml, hown, hts⟩ (c_RN_isTarget l (D := D) a ci co hi st p0 p2 _ e2 _) (kc_RN_72 hts ⟨by decide, by decide⟩) ⟨ct_blind, ct_ok hP hK hN⟩ rfl rfl hl.1 rfl (lv_room (Nat.le_of_ble_eq_true rfl)) d_RN_loadInt_2 ⟨Nat.zero_le _, Nat.zero_le _⟩) hS (fun H locs hP hS => ?_)
  refine lv_if_ne hx hb d_RN_loadInt_5 (tgt := 11) (by decide) (fun c5 => ?_) (fun c5 => ?_)
  · replace hF := (if_neg c5).symm.trans hF
    refine lv_aload_n hx hb d_RN_loadInt_11 rfl (lv_at hl 0 rfl) ?_
    refine lv_iload_n hx hb d_RN_loadInt_12 rfl (lv_at hl 1 rfl) ?_
    refine lv_iload_n hx hb d_RN_loadInt_13 rfl (lv_at hl 2 rfl) ?_
    refine lv_i2l hx hb d_RN_loadInt_14 rfl ?_
    refine lv_iconst (v := 0) hx hb d_RN_loadInt_15 (by decide) ?_
    refine lv_iload_n hx hb d_RN_loadInt_16 rfl (lv_at hl 3 rfl) ?_
    obtain ⟨r17, t17, e17⟩ := bd_ex (RN_storeLoaded st p0 p1.toInt64 (0 : Int32) p2)
    replace hF := (bd_eq e17).symm.trans hF
    refine ct_calli (va_runV (As := [.int p0, .long p1.toInt64, .int (0 : Int32), .int p2]) (rest := []) ⟨hx, hb, hml, hown, hts⟩ (c_RN_storeLoaded l (D := D) a ci co hi st p0 p1.toInt64 (0 : Int32) p2 (tg_in e2 c5) _ _ e17 _) (kc_RN_76 hts ⟨by decide, by decide⟩) ⟨ct_blind, rn_rc0 hK hP, ct_ok hP hK hN⟩ rfl rfl hl.1 rfl (lv_room (Nat.le_of_ble_eq_true rfl)) d_RN_loadInt_17 ⟨Nat.zero_le _, Nat.zero_le _⟩) hS (fun H locs hP hS => ?_)
    obtain ⟨rfl, rfl⟩ := Prod.mk.inj hF
    exact ct_iret hx hb hr hlk hP hS d_RN_loadInt_20
  · replace hF := (if_pos c5).symm.trans hF
    refine lv_bipush (v := 9) hx hb d_RN_loadInt_8 (by decide) ?_
    obtain ⟨rfl, rfl⟩ := Prod.mk.inj hF
    exact ct_iret hx hb hr hlk hP hS d_RN_loadInt_10
theorem d_RN_loadScaled_0 : decode prog_1_method_4_code 0 = .ok (.iload_n 1, 1) := by decide +kernel
theorem d_RN_loadScaled_1 : decode prog_1_method_4_code 1 = .ok (.iload 5, 2) := by decide +kernel
theorem d_RN_loadScaled_3 : decode prog_1_method_4_code 3 = .ok (.invokestatic 72, 3) := by decide +kernel
theorem d_RN_loadScaled_6 : decode prog_1_method_4_code 6 = .ok (.ifCond .eq 19, 3) := by decide +kernel
theorem d_RN_loadScaled_9 : decode prog_1_method_4_code 9 = .ok (.iload 4, 2) := by decide +kernel
theorem d_RN_loadScaled_11 : decode prog_1_method_4_code 11 = .ok (.sipush (-300), 3) := by decide +kernel
theorem d_RN_loadScaled_14 : decode prog_1_method_4_code 14 = .ok (.if_icmp .lt 11, 3) := by decide +kernel
theorem d_RN_loadScaled_17 : decode prog_1_method_4_code 17 = .ok (.iload 4, 2) := by decide +kernel
theorem d_RN_loadScaled_19 : decode prog_1_method_4_code 19 = .ok (.sipush 300, 3) := by decide +kernel
theorem d_RN_loadScaled_22 : decode prog_1_method_4_code 22 = .ok (.if_icmp .le 6, 3) := by decide +kernel
theorem d_RN_loadScaled_25 : decode prog_1_method_4_code 25 = .ok (.bipush 9, 2) := by decide +kernel
theorem d_RN_loadScaled_27 : decode prog_1_method_4_code 27 = .ok (.ireturn, 1) := by decide +kernel
theorem d_RN_loadScaled_28 : decode prog_1_method_4_code 28 = .ok (.aload_n 0, 1) := by decide +kernel
theorem d_RN_loadScaled_29 : decode prog_1_method_4_code 29 = .ok (.iload_n 1, 1) := by decide +kernel
theorem d_RN_loadScaled_30 : decode prog_1_method_4_code 30 = .ok (.lload_n 2, 1) := by decide +kernel
theorem d_RN_loadScaled_31 : decode prog_1_method_4_code 31 = .ok (.iload 4, 2) := by decide +kernel
theorem d_RN_loadScaled_33 : decode prog_1_method_4_code 33 = .ok (.iload 5, 2) := by decide +kernel
theorem d_RN_loadScaled_35 : decode prog_1_method_4_code 35 = .ok (.invokevirtual 76, 3) := by decide +kernel
theorem d_RN_loadScaled_38 : decode prog_1_method_4_code 38 = .ok (.ireturn, 1) := by decide +kernel
def RN_loadScaled (st : rn_S) (p0 : Int32) (p1 : Int64) (p2 : Int32) (p3 : Int32) : Int32 × rn_S := nm (RN_isTarget p0 p3) (fun r3 => (if r3 = 0 then ((9 : Int32), st) else (if p2 < (-300 : Int32) then ((9 : Int32), st) else (if p2 ≤ (300 : Int32) then bd (RN_storeLoaded st p0 p1 p2 p3) (fun r35 t35 => (r35, t35)) else ((9 : Int32), st)))))
set_option maxHeartbeats 4000000 in
set_option maxRecDepth 100000 in
theorem c_RN_loadScaled (l : Launch) {D : va_G} (a : Nat → Nat) (ci co : ClassId) (hi : rn_inj a) (st : rn_S) (p0 : Int32) (p1 : Int64) (p2 : Int32) (p3 : Int32) (r0 : Int32) (t0 : rn_S) (hF : RN_loadScaled st p0 p1 p2 p3 = (r0, t0)) : ct_i l ⟨"RoundedNumbers", "loadScaled", "(IJII)I"⟩ (.code ⟨"RoundedNumbers", "loadScaled", "(IJII)I"⟩ prog_1_method_4_code 6 (some .int) :: ct_T) { frames := 7, cells := 0, slots := 0, locals := 175 } D vwCl (rn_T ci co) (rn_g a ci co) (rn_X a) [.ref (a 0), .int p0, .long p1, .int p2, .int p3] st r0 t0 := by
  refine ct_i.mk (cc := prog_1_method_4_code) (maxL := 6) (by decide) rfl (Nat.le_of_ble_eq_true rfl) ?_
  intro p e s m below meth c hx hb hr hml hown hts hlk hK hN hP hS ls hl
  have hown : s.vm.findClass "RoundedNumbers" = some m.cls := hown
  have hl : lv_has ls 6 [(0, .ref (a 0)), (1, .int p0), (2, .long p1), (4, .int p2), (5, .int p3)] := hl
  have htb := fun w h => hts w (List.mem_cons_of_mem _ h)
  unfold RN_loadScaled at hF
  refine lv_iload_n hx hb d_RN_loadScaled_0 rfl (lv_at hl 1 rfl) ?_
  refine lv_iload hx hb d_RN_loadScaled_1 (lv_at hl 4 rfl) ?_
  obtain ⟨r3, e3⟩ := nm_ex (RN_isTarget p0 p3)
  replace hF := (nm_eq e3).symm.trans hF
  refine ct_calli (va_runS (As := [.int p0, .int p3]) (rest := []) ⟨hx, hb, hml, hown, hts⟩ (c_RN_isTarget l (D := D) a ci co hi st p0 p3 _ e3 _) (kc_RN_72 hts ⟨by decide, by decide⟩) ⟨ct_blind, ct_ok hP hK hN⟩ rfl rfl hl.1 rfl (lv_room (Nat.le_of_ble_eq_true rfl)) d_RN_loadScaled_3 ⟨Nat.zero_le _, Nat.zero_le _⟩) hS (fun H locs hP hS => ?_)
  refine lv_if_eq hx hb d_RN_loadScaled_6 (tgt := 25) (by decide) (fun c6 => ?_) (fun c6 => ?_)
  · replace hF := (if_pos c6).symm.trans hF
    refine lv_bipush (v := 9) hx hb d_RN_loadScaled_25 (by decide) ?_
    obtain ⟨rfl, rfl⟩ := Prod.mk.inj hF
    exact ct_iret hx hb hr hlk hP hS d_RN_loadScaled_27
  · replace hF := (if_neg c6).symm.trans hF
    refine lv_iload hx hb d_RN_loadScaled_9 (lv_at hl 3 rfl) ?_
    refine lv_sipush (v := -300) hx hb d_RN_loadScaled_11 (by decide) ?_
    refine lv_icmp_lt hx hb d_RN_loadScaled_14 (tgt := 25) (by decide) (fun c14 => ?_) (fun c14 => ?_)
    · replace hF := (if_pos c14).symm.trans hF
      refine lv_bipush (v := 9) hx hb d_RN_loadScaled_25 (by decide) ?_
      obtain ⟨rfl, rfl⟩ := Prod.mk.inj hF
      exact ct_iret hx hb hr hlk hP hS d_RN_loadScaled_27
    · replace hF := (if_neg c14).symm.trans hF
      refine lv_iload hx hb d_RN_loadScaled_17 (lv_at hl 3 rfl) ?_
      refine lv_sipush (v := 300) hx hb d_RN_loadScaled_19 (by decide) ?_
      refine lv_icmp_le hx hb d_RN_loadScaled_22 (tgt := 28) (by decide) (fun c22 => ?_) (fun c22 => ?_)
      · replace hF := (if_pos c22).symm.trans hF
        refine lv_aload_n hx hb d_RN_loadScaled_28 rfl (lv_at hl 0 rfl) ?_
        refine lv_iload_n hx hb d_RN_loadScaled_29 rfl (lv_at hl 1 rfl) ?_
        refine lv_lload_n hx hb d_RN_loadScaled_30 rfl (lv_at hl 2 rfl) ?_
        refine lv_iload hx hb d_RN_loadScaled_31 (lv_at hl 3 rfl) ?_
        refine lv_iload hx hb d_RN_loadScaled_33 (lv_at hl 4 rfl) ?_
        obtain ⟨r35, t35, e35⟩ := bd_ex (RN_storeLoaded st p0 p1 p2 p3)
        replace hF := (bd_eq e35).symm.trans hF
        refine ct_calli (va_runV (As := [.int p0, .long p1, .int p2, .int p3]) (rest := []) ⟨hx, hb, hml, hown, hts⟩ (c_RN_storeLoaded l (D := D) a ci co hi st p0 p1 p2 p3 (tg_in e3 c6) _ _ e35 _) (kc_RN_76 hts ⟨by decide, by decide⟩) ⟨ct_blind, rn_rc0 hK hP, ct_ok hP hK hN⟩ rfl rfl hl.1 rfl (lv_room (Nat.le_of_ble_eq_true rfl)) d_RN_loadScaled_35 ⟨Nat.zero_le _, Nat.zero_le _⟩) hS (fun H locs hP hS => ?_)
        obtain ⟨rfl, rfl⟩ := Prod.mk.inj hF
        exact ct_iret hx hb hr hlk hP hS d_RN_loadScaled_38
      · replace hF := (if_neg c22).symm.trans hF
        refine lv_bipush (v := 9) hx hb d_RN_loadScaled_25 (by decide) ?_
        obtain ⟨rfl, rfl⟩ := Prod.mk.inj hF
        exact ct_iret hx hb hr hlk hP hS d_RN_loadScaled_27
theorem d_RN_copy_0 : decode prog_1_method_5_code 0 = .ok (.iload_n 1, 1) := by decide +kernel
theorem d_RN_copy_1 : decode prog_1_method_5_code 1 = .ok (.iload_n 3, 1) := by decide +kernel
theorem d_RN_copy_2 : decode prog_1_method_5_code 2 = .ok (.invokestatic 72, 3) := by decide +kernel
theorem d_RN_copy_5 : decode prog_1_method_5_code 5 = .ok (.ifCond .eq 10, 3) := by decide +kernel
theorem d_RN_copy_8 : decode prog_1_method_5_code 8 = .ok (.iload_n 2, 1) := by decide +kernel
theorem d_RN_copy_9 : decode prog_1_method_5_code 9 = .ok (.invokestatic 64, 3) := by decide +kernel
theorem d_RN_copy_12 : decode prog_1_method_5_code 12 = .ok (.ifCond .ne 6, 3) := by decide +kernel
theorem d_RN_copy_15 : decode prog_1_method_5_code 15 = .ok (.bipush 9, 2) := by decide +kernel
theorem d_RN_copy_17 : decode prog_1_method_5_code 17 = .ok (.ireturn, 1) := by decide +kernel
theorem d_RN_copy_18 : decode prog_1_method_5_code 18 = .ok (.aload_n 0, 1) := by decide +kernel
theorem d_RN_copy_19 : decode prog_1_method_5_code 19 = .ok (.iload_n 1, 1) := by decide +kernel
theorem d_RN_copy_20 : decode prog_1_method_5_code 20 = .ok (.aload_n 0, 1) := by decide +kernel
theorem d_RN_copy_21 : decode prog_1_method_5_code 21 = .ok (.getfield 15, 3) := by decide +kernel
theorem d_RN_copy_24 : decode prog_1_method_5_code 24 = .ok (.iload_n 2, 1) := by decide +kernel
theorem d_RN_copy_25 : decode prog_1_method_5_code 25 = .ok (.aaload, 1) := by decide +kernel
theorem d_RN_copy_26 : decode prog_1_method_5_code 26 = .ok (.aload_n 0, 1) := by decide +kernel
theorem d_RN_copy_27 : decode prog_1_method_5_code 27 = .ok (.getfield 15, 3) := by decide +kernel
theorem d_RN_copy_30 : decode prog_1_method_5_code 30 = .ok (.iload_n 2, 1) := by decide +kernel
theorem d_RN_copy_31 : decode prog_1_method_5_code 31 = .ok (.aaload, 1) := by decide +kernel
theorem d_RN_copy_32 : decode prog_1_method_5_code 32 = .ok (.getfield 80, 3) := by decide +kernel
theorem d_RN_copy_35 : decode prog_1_method_5_code 35 = .ok (.iload_n 3, 1) := by decide +kernel
theorem d_RN_copy_36 : decode prog_1_method_5_code 36 = .ok (.invokevirtual 84, 3) := by decide +kernel
theorem d_RN_copy_39 : decode prog_1_method_5_code 39 = .ok (.ireturn, 1) := by decide +kernel
def RN_copy (st : rn_S) (p0 : Int32) (p1 : Int32) (p2 : Int32) : Int32 × rn_S := nm (RN_isTarget p0 p2) (fun r2 => (if r2 = 0 then ((9 : Int32), st) else nm (RN_isRegister p1) (fun r9 => (if r9 = 0 then ((9 : Int32), st) else bd (RN_storeValue st p0 p1.toNatClampNeg (rn_sg st p1.toNatClampNeg) p2) (fun r36 t36 => (r36, t36))))))
set_option maxHeartbeats 4000000 in
set_option maxRecDepth 100000 in
theorem c_RN_copy (l : Launch) {D : va_G} (a : Nat → Nat) (ci co : ClassId) (hi : rn_inj a) (st : rn_S) (p0 : Int32) (p1 : Int32) (p2 : Int32) (r0 : Int32) (t0 : rn_S) (hF : RN_copy st p0 p1 p2 = (r0, t0)) : ct_i l ⟨"RoundedNumbers", "copy", "(III)I"⟩ (.code ⟨"RoundedNumbers", "copy", "(III)I"⟩ prog_1_method_5_code 4 (some .int) :: ct_T) { frames := 6, cells := 0, slots := 0, locals := 150 } D vwCl (rn_T ci co) (rn_g a ci co) (rn_X a) [.ref (a 0), .int p0, .int p1, .int p2] st r0 t0 := by
  refine ct_i.mk (cc := prog_1_method_5_code) (maxL := 4) (by decide) rfl (Nat.le_of_ble_eq_true rfl) ?_
  intro p e s m below meth c hx hb hr hml hown hts hlk hK hN hP hS ls hl
  have hown : s.vm.findClass "RoundedNumbers" = some m.cls := hown
  have hl : lv_has ls 4 [(0, .ref (a 0)), (1, .int p0), (2, .int p1), (3, .int p2)] := hl
  have htb := fun w h => hts w (List.mem_cons_of_mem _ h)
  unfold RN_copy at hF
  refine lv_iload_n hx hb d_RN_copy_0 rfl (lv_at hl 1 rfl) ?_
  refine lv_iload_n hx hb d_RN_copy_1 rfl (lv_at hl 3 rfl) ?_
  obtain ⟨r2, e2⟩ := nm_ex (RN_isTarget p0 p2)
  replace hF := (nm_eq e2).symm.trans hF
  refine ct_calli (va_runS (As := [.int p0, .int p2]) (rest := []) ⟨hx, hb, hml, hown, hts⟩ (c_RN_isTarget l (D := D) a ci co hi st p0 p2 _ e2 _) (kc_RN_72 hts ⟨by decide, by decide⟩) ⟨ct_blind, ct_ok hP hK hN⟩ rfl rfl hl.1 rfl (lv_room (Nat.le_of_ble_eq_true rfl)) d_RN_copy_2 ⟨Nat.zero_le _, Nat.zero_le _⟩) hS (fun H locs hP hS => ?_)
  refine lv_if_eq hx hb d_RN_copy_5 (tgt := 15) (by decide) (fun c5 => ?_) (fun c5 => ?_)
  · replace hF := (if_pos c5).symm.trans hF
    refine lv_bipush (v := 9) hx hb d_RN_copy_15 (by decide) ?_
    obtain ⟨rfl, rfl⟩ := Prod.mk.inj hF
    exact ct_iret hx hb hr hlk hP hS d_RN_copy_17
  · replace hF := (if_neg c5).symm.trans hF
    refine lv_iload_n hx hb d_RN_copy_8 rfl (lv_at hl 2 rfl) ?_
    obtain ⟨r9, e9⟩ := nm_ex (RN_isRegister p1)
    replace hF := (nm_eq e9).symm.trans hF
    refine ct_calli (va_runS (As := [.int p1]) (rest := []) ⟨hx, hb, hml, hown, hts⟩ (c_RN_isRegister l (D := D) a ci co hi st p1 _ e9 _) (kc_RN_64 hts ⟨by decide, by decide⟩) ⟨ct_blind, ct_ok hP hK hN⟩ rfl rfl hl.1 rfl (lv_room (Nat.le_of_ble_eq_true rfl)) d_RN_copy_9 ⟨Nat.zero_le _, Nat.zero_le _⟩) hS (fun H locs hP hS => ?_)
    refine lv_if_ne hx hb d_RN_copy_12 (tgt := 18) (by decide) (fun c12 => ?_) (fun c12 => ?_)
    · replace hF := (if_neg c12).symm.trans hF
      refine lv_aload_n hx hb d_RN_copy_18 rfl (lv_at hl 0 rfl) ?_
      refine lv_iload_n hx hb d_RN_copy_19 rfl (lv_at hl 1 rfl) ?_
      refine lv_aload_n hx hb d_RN_copy_20 rfl (lv_at hl 0 rfl) ?_
      refine gf_RN_15 hx hb htb hown hK hP d_RN_copy_21 ?_
      refine lv_iload_n hx hb d_RN_copy_24 rfl (lv_at hl 2 rfl) ?_
      refine rn_ald_regs hx hb hK hP (rg_in e9 c12) d_RN_copy_25 ?_
      refine lv_aload_n hx hb d_RN_copy_26 rfl (lv_at hl 0 rfl) ?_
      refine gf_RN_15 hx hb htb hown hK hP d_RN_copy_27 ?_
      refine lv_iload_n hx hb d_RN_copy_30 rfl (lv_at hl 2 rfl) ?_
      refine rn_ald_regs hx hb hK hP (rg_in e9 c12) d_RN_copy_31 ?_
      refine gf_RN_80 hx hb htb hown hK hP (i := p1.toNatClampNeg) (rn_lt10 (rg_in e9 c12)) d_RN_copy_32 ?_
      refine lv_iload_n hx hb d_RN_copy_35 rfl (lv_at hl 3 rfl) ?_
      obtain ⟨r36, t36, e36⟩ := bd_ex (RN_storeValue st p0 p1.toNatClampNeg (rn_sg st p1.toNatClampNeg) p2)
      replace hF := (bd_eq e36).symm.trans hF
      refine ct_calli (va_runV (As := [.int p0, .ref (a (8 + p1.toNatClampNeg)), .int (rn_sg st p1.toNatClampNeg), .int p2]) (rest := []) ⟨hx, hb, hml, hown, hts⟩ (c_RN_storeValue l (D := D) a ci co hi st p0 p1.toNatClampNeg (rn_sg st p1.toNatClampNeg) p2 (rn_lt10 (rg_in e9 c12)) (tg_in e2 c5) _ _ e36 _) (kc_RN_84 hts ⟨by decide, by decide⟩) ⟨ct_blind, rn_rc0 hK hP, ct_ok hP hK hN⟩ rfl rfl hl.1 rfl (lv_room (Nat.le_of_ble_eq_true rfl)) d_RN_copy_36 ⟨Nat.zero_le _, Nat.zero_le _⟩) hS (fun H locs hP hS => ?_)
      obtain ⟨rfl, rfl⟩ := Prod.mk.inj hF
      exact ct_iret hx hb hr hlk hP hS d_RN_copy_39
    · replace hF := (if_pos c12).symm.trans hF
      refine lv_bipush (v := 9) hx hb d_RN_copy_15 (by decide) ?_
      obtain ⟨rfl, rfl⟩ := Prod.mk.inj hF
      exact ct_iret hx hb hr hlk hP hS d_RN_copy_17
theorem d_RN_negate_0 : decode prog_1_method_6_code 0 = .ok (.iload_n 1, 1) := by decide +kernel
theorem d_RN_negate_1 : decode prog_1_method_6_code 1 = .ok (.iload_n 3, 1) := by decide +kernel
theorem d_RN_negate_2 : decode prog_1_method_6_code 2 = .ok (.invokestatic 72, 3) := by decide +kernel
theorem d_RN_negate_5 : decode prog_1_method_6_code 5 = .ok (.ifCond .eq 10, 3) := by decide +kernel
theorem d_RN_negate_8 : decode prog_1_method_6_code 8 = .ok (.iload_n 2, 1) := by decide +kernel
theorem d_RN_negate_9 : decode prog_1_method_6_code 9 = .ok (.invokestatic 64, 3) := by decide +kernel
theorem d_RN_negate_12 : decode prog_1_method_6_code 12 = .ok (.ifCond .ne 6, 3) := by decide +kernel
theorem d_RN_negate_15 : decode prog_1_method_6_code 15 = .ok (.bipush 9, 2) := by decide +kernel
theorem d_RN_negate_17 : decode prog_1_method_6_code 17 = .ok (.ireturn, 1) := by decide +kernel
theorem d_RN_negate_18 : decode prog_1_method_6_code 18 = .ok (.aload_n 0, 1) := by decide +kernel
theorem d_RN_negate_19 : decode prog_1_method_6_code 19 = .ok (.iload_n 1, 1) := by decide +kernel
theorem d_RN_negate_20 : decode prog_1_method_6_code 20 = .ok (.aload_n 0, 1) := by decide +kernel
theorem d_RN_negate_21 : decode prog_1_method_6_code 21 = .ok (.getfield 15, 3) := by decide +kernel
theorem d_RN_negate_24 : decode prog_1_method_6_code 24 = .ok (.iload_n 2, 1) := by decide +kernel
theorem d_RN_negate_25 : decode prog_1_method_6_code 25 = .ok (.aaload, 1) := by decide +kernel
theorem d_RN_negate_26 : decode prog_1_method_6_code 26 = .ok (.aload_n 0, 1) := by decide +kernel
theorem d_RN_negate_27 : decode prog_1_method_6_code 27 = .ok (.getfield 15, 3) := by decide +kernel
theorem d_RN_negate_30 : decode prog_1_method_6_code 30 = .ok (.iload_n 2, 1) := by decide +kernel
theorem d_RN_negate_31 : decode prog_1_method_6_code 31 = .ok (.aaload, 1) := by decide +kernel
theorem d_RN_negate_32 : decode prog_1_method_6_code 32 = .ok (.getfield 80, 3) := by decide +kernel
theorem d_RN_negate_35 : decode prog_1_method_6_code 35 = .ok (.ineg, 1) := by decide +kernel
theorem d_RN_negate_36 : decode prog_1_method_6_code 36 = .ok (.iload_n 3, 1) := by decide +kernel
theorem d_RN_negate_37 : decode prog_1_method_6_code 37 = .ok (.invokevirtual 84, 3) := by decide +kernel
theorem d_RN_negate_40 : decode prog_1_method_6_code 40 = .ok (.ireturn, 1) := by decide +kernel
def RN_negate (st : rn_S) (p0 : Int32) (p1 : Int32) (p2 : Int32) : Int32 × rn_S := nm (RN_isTarget p0 p2) (fun r2 => (if r2 = 0 then ((9 : Int32), st) else nm (RN_isRegister p1) (fun r9 => (if r9 = 0 then ((9 : Int32), st) else bd (RN_storeValue st p0 p1.toNatClampNeg (-(rn_sg st p1.toNatClampNeg)) p2) (fun r37 t37 => (r37, t37))))))
set_option maxHeartbeats 4000000 in
set_option maxRecDepth 100000 in
theorem c_RN_negate (l : Launch) {D : va_G} (a : Nat → Nat) (ci co : ClassId) (hi : rn_inj a) (st : rn_S) (p0 : Int32) (p1 : Int32) (p2 : Int32) (r0 : Int32) (t0 : rn_S) (hF : RN_negate st p0 p1 p2 = (r0, t0)) : ct_i l ⟨"RoundedNumbers", "negate", "(III)I"⟩ (.code ⟨"RoundedNumbers", "negate", "(III)I"⟩ prog_1_method_6_code 4 (some .int) :: ct_T) { frames := 6, cells := 0, slots := 0, locals := 150 } D vwCl (rn_T ci co) (rn_g a ci co) (rn_X a) [.ref (a 0), .int p0, .int p1, .int p2] st r0 t0 := by
  refine ct_i.mk (cc := prog_1_method_6_code) (maxL := 4) (by decide) rfl (Nat.le_of_ble_eq_true rfl) ?_
  intro p e s m below meth c hx hb hr hml hown hts hlk hK hN hP hS ls hl
  have hown : s.vm.findClass "RoundedNumbers" = some m.cls := hown
  have hl : lv_has ls 4 [(0, .ref (a 0)), (1, .int p0), (2, .int p1), (3, .int p2)] := hl
  have htb := fun w h => hts w (List.mem_cons_of_mem _ h)
  unfold RN_negate at hF
  refine lv_iload_n hx hb d_RN_negate_0 rfl (lv_at hl 1 rfl) ?_
  refine lv_iload_n hx hb d_RN_negate_1 rfl (lv_at hl 3 rfl) ?_
  obtain ⟨r2, e2⟩ := nm_ex (RN_isTarget p0 p2)
  replace hF := (nm_eq e2).symm.trans hF
  refine ct_calli (va_runS (As := [.int p0, .int p2]) (rest := []) ⟨hx, hb, hml, hown, hts⟩ (c_RN_isTarget l (D := D) a ci co hi st p0 p2 _ e2 _) (kc_RN_72 hts ⟨by decide, by decide⟩) ⟨ct_blind, ct_ok hP hK hN⟩ rfl rfl hl.1 rfl (lv_room (Nat.le_of_ble_eq_true rfl)) d_RN_negate_2 ⟨Nat.zero_le _, Nat.zero_le _⟩) hS (fun H locs hP hS => ?_)
  refine lv_if_eq hx hb d_RN_negate_5 (tgt := 15) (by decide) (fun c5 => ?_) (fun c5 => ?_)
  · replace hF := (if_pos c5).symm.trans hF
    refine lv_bipush (v := 9) hx hb d_RN_negate_15 (by decide) ?_
    obtain ⟨rfl, rfl⟩ := Prod.mk.inj hF
    exact ct_iret hx hb hr hlk hP hS d_RN_negate_17
  · replace hF := (if_neg c5).symm.trans hF
    refine lv_iload_n hx hb d_RN_negate_8 rfl (lv_at hl 2 rfl) ?_
    obtain ⟨r9, e9⟩ := nm_ex (RN_isRegister p1)
    replace hF := (nm_eq e9).symm.trans hF
    refine ct_calli (va_runS (As := [.int p1]) (rest := []) ⟨hx, hb, hml, hown, hts⟩ (c_RN_isRegister l (D := D) a ci co hi st p1 _ e9 _) (kc_RN_64 hts ⟨by decide, by decide⟩) ⟨ct_blind, ct_ok hP hK hN⟩ rfl rfl hl.1 rfl (lv_room (Nat.le_of_ble_eq_true rfl)) d_RN_negate_9 ⟨Nat.zero_le _, Nat.zero_le _⟩) hS (fun H locs hP hS => ?_)
    refine lv_if_ne hx hb d_RN_negate_12 (tgt := 18) (by decide) (fun c12 => ?_) (fun c12 => ?_)
    · replace hF := (if_neg c12).symm.trans hF
      refine lv_aload_n hx hb d_RN_negate_18 rfl (lv_at hl 0 rfl) ?_
      refine lv_iload_n hx hb d_RN_negate_19 rfl (lv_at hl 1 rfl) ?_
      refine lv_aload_n hx hb d_RN_negate_20 rfl (lv_at hl 0 rfl) ?_
      refine gf_RN_15 hx hb htb hown hK hP d_RN_negate_21 ?_
      refine lv_iload_n hx hb d_RN_negate_24 rfl (lv_at hl 2 rfl) ?_
      refine rn_ald_regs hx hb hK hP (rg_in e9 c12) d_RN_negate_25 ?_
      refine lv_aload_n hx hb d_RN_negate_26 rfl (lv_at hl 0 rfl) ?_
      refine gf_RN_15 hx hb htb hown hK hP d_RN_negate_27 ?_
      refine lv_iload_n hx hb d_RN_negate_30 rfl (lv_at hl 2 rfl) ?_
      refine rn_ald_regs hx hb hK hP (rg_in e9 c12) d_RN_negate_31 ?_
      refine gf_RN_80 hx hb htb hown hK hP (i := p1.toNatClampNeg) (rn_lt10 (rg_in e9 c12)) d_RN_negate_32 ?_
      refine lv_ineg hx hb d_RN_negate_35 ?_
      refine lv_iload_n hx hb d_RN_negate_36 rfl (lv_at hl 3 rfl) ?_
      obtain ⟨r37, t37, e37⟩ := bd_ex (RN_storeValue st p0 p1.toNatClampNeg (-(rn_sg st p1.toNatClampNeg)) p2)
      replace hF := (bd_eq e37).symm.trans hF
      refine ct_calli (va_runV (As := [.int p0, .ref (a (8 + p1.toNatClampNeg)), .int (-(rn_sg st p1.toNatClampNeg)), .int p2]) (rest := []) ⟨hx, hb, hml, hown, hts⟩ (c_RN_storeValue l (D := D) a ci co hi st p0 p1.toNatClampNeg (-(rn_sg st p1.toNatClampNeg)) p2 (rn_lt10 (rg_in e9 c12)) (tg_in e2 c5) _ _ e37 _) (kc_RN_84 hts ⟨by decide, by decide⟩) ⟨ct_blind, rn_rc0 hK hP, ct_ok hP hK hN⟩ rfl rfl hl.1 rfl (lv_room (Nat.le_of_ble_eq_true rfl)) d_RN_negate_37 ⟨Nat.zero_le _, Nat.zero_le _⟩) hS (fun H locs hP hS => ?_)
      obtain ⟨rfl, rfl⟩ := Prod.mk.inj hF
      exact ct_iret hx hb hr hlk hP hS d_RN_negate_40
    · replace hF := (if_pos c12).symm.trans hF
      refine lv_bipush (v := 9) hx hb d_RN_negate_15 (by decide) ?_
      obtain ⟨rfl, rfl⟩ := Prod.mk.inj hF
      exact ct_iret hx hb hr hlk hP hS d_RN_negate_17
theorem d_RN_add_0 : decode prog_1_method_7_code 0 = .ok (.iload_n 1, 1) := by decide +kernel
theorem d_RN_add_1 : decode prog_1_method_7_code 1 = .ok (.iload 4, 2) := by decide +kernel
theorem d_RN_add_3 : decode prog_1_method_7_code 3 = .ok (.invokestatic 72, 3) := by decide +kernel
theorem d_RN_add_6 : decode prog_1_method_7_code 6 = .ok (.ifCond .eq 17, 3) := by decide +kernel
theorem d_RN_add_9 : decode prog_1_method_7_code 9 = .ok (.iload_n 2, 1) := by decide +kernel
theorem d_RN_add_10 : decode prog_1_method_7_code 10 = .ok (.invokestatic 64, 3) := by decide +kernel
theorem d_RN_add_13 : decode prog_1_method_7_code 13 = .ok (.ifCond .eq 10, 3) := by decide +kernel
theorem d_RN_add_16 : decode prog_1_method_7_code 16 = .ok (.iload_n 3, 1) := by decide +kernel
theorem d_RN_add_17 : decode prog_1_method_7_code 17 = .ok (.invokestatic 64, 3) := by decide +kernel
theorem d_RN_add_20 : decode prog_1_method_7_code 20 = .ok (.ifCond .ne 6, 3) := by decide +kernel
theorem d_RN_add_23 : decode prog_1_method_7_code 23 = .ok (.bipush 9, 2) := by decide +kernel
theorem d_RN_add_25 : decode prog_1_method_7_code 25 = .ok (.ireturn, 1) := by decide +kernel
theorem d_RN_add_26 : decode prog_1_method_7_code 26 = .ok (.aload_n 0, 1) := by decide +kernel
theorem d_RN_add_27 : decode prog_1_method_7_code 27 = .ok (.iload_n 1, 1) := by decide +kernel
theorem d_RN_add_28 : decode prog_1_method_7_code 28 = .ok (.aload_n 0, 1) := by decide +kernel
theorem d_RN_add_29 : decode prog_1_method_7_code 29 = .ok (.getfield 15, 3) := by decide +kernel
theorem d_RN_add_32 : decode prog_1_method_7_code 32 = .ok (.iload_n 2, 1) := by decide +kernel
theorem d_RN_add_33 : decode prog_1_method_7_code 33 = .ok (.aaload, 1) := by decide +kernel
theorem d_RN_add_34 : decode prog_1_method_7_code 34 = .ok (.aload_n 0, 1) := by decide +kernel
theorem d_RN_add_35 : decode prog_1_method_7_code 35 = .ok (.getfield 15, 3) := by decide +kernel
theorem d_RN_add_38 : decode prog_1_method_7_code 38 = .ok (.iload_n 3, 1) := by decide +kernel
theorem d_RN_add_39 : decode prog_1_method_7_code 39 = .ok (.aaload, 1) := by decide +kernel
theorem d_RN_add_40 : decode prog_1_method_7_code 40 = .ok (.aload_n 0, 1) := by decide +kernel
theorem d_RN_add_41 : decode prog_1_method_7_code 41 = .ok (.getfield 15, 3) := by decide +kernel
theorem d_RN_add_44 : decode prog_1_method_7_code 44 = .ok (.iload_n 3, 1) := by decide +kernel
theorem d_RN_add_45 : decode prog_1_method_7_code 45 = .ok (.aaload, 1) := by decide +kernel
theorem d_RN_add_46 : decode prog_1_method_7_code 46 = .ok (.getfield 80, 3) := by decide +kernel
theorem d_RN_add_49 : decode prog_1_method_7_code 49 = .ok (.iload 4, 2) := by decide +kernel
theorem d_RN_add_51 : decode prog_1_method_7_code 51 = .ok (.invokevirtual 88, 3) := by decide +kernel
theorem d_RN_add_54 : decode prog_1_method_7_code 54 = .ok (.ireturn, 1) := by decide +kernel
def RN_add (st : rn_S) (p0 : Int32) (p1 : Int32) (p2 : Int32) (p3 : Int32) : Int32 × rn_S := nm (RN_isTarget p0 p3) (fun r3 => (if r3 = 0 then ((9 : Int32), st) else nm (RN_isRegister p1) (fun r10 => (if r10 = 0 then ((9 : Int32), st) else nm (RN_isRegister p2) (fun r17 => (if r17 = 0 then ((9 : Int32), st) else bd (RN_storeSum st p0 p1.toNatClampNeg p2.toNatClampNeg (rn_sg st p2.toNatClampNeg) p3) (fun r51 t51 => (r51, t51))))))))
set_option maxHeartbeats 4000000 in
set_option maxRecDepth 100000 in
theorem c_RN_add (l : Launch) {D : va_G} (a : Nat → Nat) (ci co : ClassId) (hi : rn_inj a) (st : rn_S) (p0 : Int32) (p1 : Int32) (p2 : Int32) (p3 : Int32) (r0 : Int32) (t0 : rn_S) (hF : RN_add st p0 p1 p2 p3 = (r0, t0)) : ct_i l ⟨"RoundedNumbers", "add", "(IIII)I"⟩ (.code ⟨"RoundedNumbers", "add", "(IIII)I"⟩ prog_1_method_7_code 5 (some .int) :: ct_T) { frames := 6, cells := 0, slots := 0, locals := 152 } D vwCl (rn_T ci co) (rn_g a ci co) (rn_X a) [.ref (a 0), .int p0, .int p1, .int p2, .int p3] st r0 t0 := by
  refine ct_i.mk (cc := prog_1_method_7_code) (maxL := 5) (by decide) rfl (Nat.le_of_ble_eq_true rfl) ?_
  intro p e s m below meth c hx hb hr hml hown hts hlk hK hN hP hS ls hl
  have hown : s.vm.findClass "RoundedNumbers" = some m.cls := hown
  have hl : lv_has ls 5 [(0, .ref (a 0)), (1, .int p0), (2, .int p1), (3, .int p2), (4, .int p3)] := hl
  have htb := fun w h => hts w (List.mem_cons_of_mem _ h)
  unfold RN_add at hF
  refine lv_iload_n hx hb d_RN_add_0 rfl (lv_at hl 1 rfl) ?_
  refine lv_iload hx hb d_RN_add_1 (lv_at hl 4 rfl) ?_
  obtain ⟨r3, e3⟩ := nm_ex (RN_isTarget p0 p3)
  replace hF := (nm_eq e3).symm.trans hF
  refine ct_calli (va_runS (As := [.int p0, .int p3]) (rest := []) ⟨hx, hb, hml, hown, hts⟩ (c_RN_isTarget l (D := D) a ci co hi st p0 p3 _ e3 _) (kc_RN_72 hts ⟨by decide, by decide⟩) ⟨ct_blind, ct_ok hP hK hN⟩ rfl rfl hl.1 rfl (lv_room (Nat.le_of_ble_eq_true rfl)) d_RN_add_3 ⟨Nat.zero_le _, Nat.zero_le _⟩) hS (fun H locs hP hS => ?_)
  refine lv_if_eq hx hb d_RN_add_6 (tgt := 23) (by decide) (fun c6 => ?_) (fun c6 => ?_)
  · replace hF := (if_pos c6).symm.trans hF
    refine lv_bipush (v := 9) hx hb d_RN_add_23 (by decide) ?_
    obtain ⟨rfl, rfl⟩ := Prod.mk.inj hF
    exact ct_iret hx hb hr hlk hP hS d_RN_add_25
  · replace hF := (if_neg c6).symm.trans hF
    refine lv_iload_n hx hb d_RN_add_9 rfl (lv_at hl 2 rfl) ?_
    obtain ⟨r10, e10⟩ := nm_ex (RN_isRegister p1)
    replace hF := (nm_eq e10).symm.trans hF
    refine ct_calli (va_runS (As := [.int p1]) (rest := []) ⟨hx, hb, hml, hown, hts⟩ (c_RN_isRegister l (D := D) a ci co hi st p1 _ e10 _) (kc_RN_64 hts ⟨by decide, by decide⟩) ⟨ct_blind, ct_ok hP hK hN⟩ rfl rfl hl.1 rfl (lv_room (Nat.le_of_ble_eq_true rfl)) d_RN_add_10 ⟨Nat.zero_le _, Nat.zero_le _⟩) hS (fun H locs hP hS => ?_)
    refine lv_if_eq hx hb d_RN_add_13 (tgt := 23) (by decide) (fun c13 => ?_) (fun c13 => ?_)
    · replace hF := (if_pos c13).symm.trans hF
      refine lv_bipush (v := 9) hx hb d_RN_add_23 (by decide) ?_
      obtain ⟨rfl, rfl⟩ := Prod.mk.inj hF
      exact ct_iret hx hb hr hlk hP hS d_RN_add_25
    · replace hF := (if_neg c13).symm.trans hF
      refine lv_iload_n hx hb d_RN_add_16 rfl (lv_at hl 3 rfl) ?_
      obtain ⟨r17, e17⟩ := nm_ex (RN_isRegister p2)
      replace hF := (nm_eq e17).symm.trans hF
      refine ct_calli (va_runS (As := [.int p2]) (rest := []) ⟨hx, hb, hml, hown, hts⟩ (c_RN_isRegister l (D := D) a ci co hi st p2 _ e17 _) (kc_RN_64 hts ⟨by decide, by decide⟩) ⟨ct_blind, ct_ok hP hK hN⟩ rfl rfl hl.1 rfl (lv_room (Nat.le_of_ble_eq_true rfl)) d_RN_add_17 ⟨Nat.zero_le _, Nat.zero_le _⟩) hS (fun H locs hP hS => ?_)
      refine lv_if_ne hx hb d_RN_add_20 (tgt := 26) (by decide) (fun c20 => ?_) (fun c20 => ?_)
      · replace hF := (if_neg c20).symm.trans hF
        refine lv_aload_n hx hb d_RN_add_26 rfl (lv_at hl 0 rfl) ?_
        refine lv_iload_n hx hb d_RN_add_27 rfl (lv_at hl 1 rfl) ?_
        refine lv_aload_n hx hb d_RN_add_28 rfl (lv_at hl 0 rfl) ?_
        refine gf_RN_15 hx hb htb hown hK hP d_RN_add_29 ?_
        refine lv_iload_n hx hb d_RN_add_32 rfl (lv_at hl 2 rfl) ?_
        refine rn_ald_regs hx hb hK hP (rg_in e10 c13) d_RN_add_33 ?_
        refine lv_aload_n hx hb d_RN_add_34 rfl (lv_at hl 0 rfl) ?_
        refine gf_RN_15 hx hb htb hown hK hP d_RN_add_35 ?_
        refine lv_iload_n hx hb d_RN_add_38 rfl (lv_at hl 3 rfl) ?_
        refine rn_ald_regs hx hb hK hP (rg_in e17 c20) d_RN_add_39 ?_
        refine lv_aload_n hx hb d_RN_add_40 rfl (lv_at hl 0 rfl) ?_
        refine gf_RN_15 hx hb htb hown hK hP d_RN_add_41 ?_
        refine lv_iload_n hx hb d_RN_add_44 rfl (lv_at hl 3 rfl) ?_
        refine rn_ald_regs hx hb hK hP (rg_in e17 c20) d_RN_add_45 ?_
        refine gf_RN_80 hx hb htb hown hK hP (i := p2.toNatClampNeg) (rn_lt10 (rg_in e17 c20)) d_RN_add_46 ?_
        refine lv_iload hx hb d_RN_add_49 (lv_at hl 4 rfl) ?_
        obtain ⟨r51, t51, e51⟩ := bd_ex (RN_storeSum st p0 p1.toNatClampNeg p2.toNatClampNeg (rn_sg st p2.toNatClampNeg) p3)
        replace hF := (bd_eq e51).symm.trans hF
        refine ct_calli (va_runV (As := [.int p0, .ref (a (8 + p1.toNatClampNeg)), .ref (a (8 + p2.toNatClampNeg)), .int (rn_sg st p2.toNatClampNeg), .int p3]) (rest := []) ⟨hx, hb, hml, hown, hts⟩ (c_RN_storeSum l (D := D) a ci co hi st p0 p1.toNatClampNeg p2.toNatClampNeg (rn_sg st p2.toNatClampNeg) p3 (rn_lt10 (rg_in e10 c13)) (rn_lt10 (rg_in e17 c20)) (tg_in e3 c6) _ _ e51 _) (kc_RN_88 hts ⟨by decide, by decide⟩) ⟨ct_blind, rn_rc0 hK hP, ct_ok hP hK hN⟩ rfl rfl hl.1 rfl (lv_room (Nat.le_of_ble_eq_true rfl)) d_RN_add_51 ⟨Nat.zero_le _, Nat.zero_le _⟩) hS (fun H locs hP hS => ?_)
        obtain ⟨rfl, rfl⟩ := Prod.mk.inj hF
        exact ct_iret hx hb hr hlk hP hS d_RN_add_54
      · replace hF := (if_pos c20).symm.trans hF
        refine lv_bipush (v := 9) hx hb d_RN_add_23 (by decide) ?_
        obtain ⟨rfl, rfl⟩ := Prod.mk.inj hF
        exact ct_iret hx hb hr hlk hP hS d_RN_add_25
theorem d_RN_sub_0 : decode prog_1_method_8_code 0 = .ok (.iload_n 1, 1) := by decide +kernel
theorem d_RN_sub_1 : decode prog_1_method_8_code 1 = .ok (.iload 4, 2) := by decide +kernel
theorem d_RN_sub_3 : decode prog_1_method_8_code 3 = .ok (.invokestatic 72, 3) := by decide +kernel
theorem d_RN_sub_6 : decode prog_1_method_8_code 6 = .ok (.ifCond .eq 17, 3) := by decide +kernel
theorem d_RN_sub_9 : decode prog_1_method_8_code 9 = .ok (.iload_n 2, 1) := by decide +kernel
theorem d_RN_sub_10 : decode prog_1_method_8_code 10 = .ok (.invokestatic 64, 3) := by decide +kernel
theorem d_RN_sub_13 : decode prog_1_method_8_code 13 = .ok (.ifCond .eq 10, 3) := by decide +kernel
theorem d_RN_sub_16 : decode prog_1_method_8_code 16 = .ok (.iload_n 3, 1) := by decide +kernel
theorem d_RN_sub_17 : decode prog_1_method_8_code 17 = .ok (.invokestatic 64, 3) := by decide +kernel
theorem d_RN_sub_20 : decode prog_1_method_8_code 20 = .ok (.ifCond .ne 6, 3) := by decide +kernel
theorem d_RN_sub_23 : decode prog_1_method_8_code 23 = .ok (.bipush 9, 2) := by decide +kernel
theorem d_RN_sub_25 : decode prog_1_method_8_code 25 = .ok (.ireturn, 1) := by decide +kernel
theorem d_RN_sub_26 : decode prog_1_method_8_code 26 = .ok (.aload_n 0, 1) := by decide +kernel
theorem d_RN_sub_27 : decode prog_1_method_8_code 27 = .ok (.iload_n 1, 1) := by decide +kernel
theorem d_RN_sub_28 : decode prog_1_method_8_code 28 = .ok (.aload_n 0, 1) := by decide +kernel
theorem d_RN_sub_29 : decode prog_1_method_8_code 29 = .ok (.getfield 15, 3) := by decide +kernel
theorem d_RN_sub_32 : decode prog_1_method_8_code 32 = .ok (.iload_n 2, 1) := by decide +kernel
theorem d_RN_sub_33 : decode prog_1_method_8_code 33 = .ok (.aaload, 1) := by decide +kernel
theorem d_RN_sub_34 : decode prog_1_method_8_code 34 = .ok (.aload_n 0, 1) := by decide +kernel
theorem d_RN_sub_35 : decode prog_1_method_8_code 35 = .ok (.getfield 15, 3) := by decide +kernel
theorem d_RN_sub_38 : decode prog_1_method_8_code 38 = .ok (.iload_n 3, 1) := by decide +kernel
theorem d_RN_sub_39 : decode prog_1_method_8_code 39 = .ok (.aaload, 1) := by decide +kernel
theorem d_RN_sub_40 : decode prog_1_method_8_code 40 = .ok (.aload_n 0, 1) := by decide +kernel
theorem d_RN_sub_41 : decode prog_1_method_8_code 41 = .ok (.getfield 15, 3) := by decide +kernel
theorem d_RN_sub_44 : decode prog_1_method_8_code 44 = .ok (.iload_n 3, 1) := by decide +kernel
theorem d_RN_sub_45 : decode prog_1_method_8_code 45 = .ok (.aaload, 1) := by decide +kernel
theorem d_RN_sub_46 : decode prog_1_method_8_code 46 = .ok (.getfield 80, 3) := by decide +kernel
theorem d_RN_sub_49 : decode prog_1_method_8_code 49 = .ok (.ineg, 1) := by decide +kernel
theorem d_RN_sub_50 : decode prog_1_method_8_code 50 = .ok (.iload 4, 2) := by decide +kernel
theorem d_RN_sub_52 : decode prog_1_method_8_code 52 = .ok (.invokevirtual 88, 3) := by decide +kernel
theorem d_RN_sub_55 : decode prog_1_method_8_code 55 = .ok (.ireturn, 1) := by decide +kernel
def RN_sub (st : rn_S) (p0 : Int32) (p1 : Int32) (p2 : Int32) (p3 : Int32) : Int32 × rn_S := nm (RN_isTarget p0 p3) (fun r3 => (if r3 = 0 then ((9 : Int32), st) else nm (RN_isRegister p1) (fun r10 => (if r10 = 0 then ((9 : Int32), st) else nm (RN_isRegister p2) (fun r17 => (if r17 = 0 then ((9 : Int32), st) else bd (RN_storeSum st p0 p1.toNatClampNeg p2.toNatClampNeg (-(rn_sg st p2.toNatClampNeg)) p3) (fun r52 t52 => (r52, t52))))))))
set_option maxHeartbeats 4000000 in
set_option maxRecDepth 100000 in
theorem c_RN_sub (l : Launch) {D : va_G} (a : Nat → Nat) (ci co : ClassId) (hi : rn_inj a) (st : rn_S) (p0 : Int32) (p1 : Int32) (p2 : Int32) (p3 : Int32) (r0 : Int32) (t0 : rn_S) (hF : RN_sub st p0 p1 p2 p3 = (r0, t0)) : ct_i l ⟨"RoundedNumbers", "sub", "(IIII)I"⟩ (.code ⟨"RoundedNumbers", "sub", "(IIII)I"⟩ prog_1_method_8_code 5 (some .int) :: ct_T) { frames := 6, cells := 0, slots := 0, locals := 152 } D vwCl (rn_T ci co) (rn_g a ci co) (rn_X a) [.ref (a 0), .int p0, .int p1, .int p2, .int p3] st r0 t0 := by
  refine ct_i.mk (cc := prog_1_method_8_code) (maxL := 5) (by decide) rfl (Nat.le_of_ble_eq_true rfl) ?_
  intro p e s m below meth c hx hb hr hml hown hts hlk hK hN hP hS ls hl
  have hown : s.vm.findClass "RoundedNumbers" = some m.cls := hown
  have hl : lv_has ls 5 [(0, .ref (a 0)), (1, .int p0), (2, .int p1), (3, .int p2), (4, .int p3)] := hl
  have htb := fun w h => hts w (List.mem_cons_of_mem _ h)
  unfold RN_sub at hF
  refine lv_iload_n hx hb d_RN_sub_0 rfl (lv_at hl 1 rfl) ?_
  refine lv_iload hx hb d_RN_sub_1 (lv_at hl 4 rfl) ?_
  obtain ⟨r3, e3⟩ := nm_ex (RN_isTarget p0 p3)
  replace hF := (nm_eq e3).symm.trans hF
  refine ct_calli (va_runS (As := [.int p0, .int p3]) (rest := []) ⟨hx, hb, hml, hown, hts⟩ (c_RN_isTarget l (D := D) a ci co hi st p0 p3 _ e3 _) (kc_RN_72 hts ⟨by decide, by decide⟩) ⟨ct_blind, ct_ok hP hK hN⟩ rfl rfl hl.1 rfl (lv_room (Nat.le_of_ble_eq_true rfl)) d_RN_sub_3 ⟨Nat.zero_le _, Nat.zero_le _⟩) hS (fun H locs hP hS => ?_)
  refine lv_if_eq hx hb d_RN_sub_6 (tgt := 23) (by decide) (fun c6 => ?_) (fun c6 => ?_)
  · replace hF := (if_pos c6).symm.trans hF
    refine lv_bipush (v := 9) hx hb d_RN_sub_23 (by decide) ?_
    obtain ⟨rfl, rfl⟩ := Prod.mk.inj hF
    exact ct_iret hx hb hr hlk hP hS d_RN_sub_25
  · replace hF := (if_neg c6).symm.trans hF
    refine lv_iload_n hx hb d_RN_sub_9 rfl (lv_at hl 2 rfl) ?_
    obtain ⟨r10, e10⟩ := nm_ex (RN_isRegister p1)
    replace hF := (nm_eq e10).symm.trans hF
    refine ct_calli (va_runS (As := [.int p1]) (rest := []) ⟨hx, hb, hml, hown, hts⟩ (c_RN_isRegister l (D := D) a ci co hi st p1 _ e10 _) (kc_RN_64 hts ⟨by decide, by decide⟩) ⟨ct_blind, ct_ok hP hK hN⟩ rfl rfl hl.1 rfl (lv_room (Nat.le_of_ble_eq_true rfl)) d_RN_sub_10 ⟨Nat.zero_le _, Nat.zero_le _⟩) hS (fun H locs hP hS => ?_)
    refine lv_if_eq hx hb d_RN_sub_13 (tgt := 23) (by decide) (fun c13 => ?_) (fun c13 => ?_)
    · replace hF := (if_pos c13).symm.trans hF
      refine lv_bipush (v := 9) hx hb d_RN_sub_23 (by decide) ?_
      obtain ⟨rfl, rfl⟩ := Prod.mk.inj hF
      exact ct_iret hx hb hr hlk hP hS d_RN_sub_25
    · replace hF := (if_neg c13).symm.trans hF
      refine lv_iload_n hx hb d_RN_sub_16 rfl (lv_at hl 3 rfl) ?_
      obtain ⟨r17, e17⟩ := nm_ex (RN_isRegister p2)
      replace hF := (nm_eq e17).symm.trans hF
      refine ct_calli (va_runS (As := [.int p2]) (rest := []) ⟨hx, hb, hml, hown, hts⟩ (c_RN_isRegister l (D := D) a ci co hi st p2 _ e17 _) (kc_RN_64 hts ⟨by decide, by decide⟩) ⟨ct_blind, ct_ok hP hK hN⟩ rfl rfl hl.1 rfl (lv_room (Nat.le_of_ble_eq_true rfl)) d_RN_sub_17 ⟨Nat.zero_le _, Nat.zero_le _⟩) hS (fun H locs hP hS => ?_)
      refine lv_if_ne hx hb d_RN_sub_20 (tgt := 26) (by decide) (fun c20 => ?_) (fun c20 => ?_)
      · replace hF := (if_neg c20).symm.trans hF
        refine lv_aload_n hx hb d_RN_sub_26 rfl (lv_at hl 0 rfl) ?_
        refine lv_iload_n hx hb d_RN_sub_27 rfl (lv_at hl 1 rfl) ?_
        refine lv_aload_n hx hb d_RN_sub_28 rfl (lv_at hl 0 rfl) ?_
        refine gf_RN_15 hx hb htb hown hK hP d_RN_sub_29 ?_
        refine lv_iload_n hx hb d_RN_sub_32 rfl (lv_at hl 2 rfl) ?_
        refine rn_ald_regs hx hb hK hP (rg_in e10 c13) d_RN_sub_33 ?_
        refine lv_aload_n hx hb d_RN_sub_34 rfl (lv_at hl 0 rfl) ?_
        refine gf_RN_15 hx hb htb hown hK hP d_RN_sub_35 ?_
        refine lv_iload_n hx hb d_RN_sub_38 rfl (lv_at hl 3 rfl) ?_
        refine rn_ald_regs hx hb hK hP (rg_in e17 c20) d_RN_sub_39 ?_
        refine lv_aload_n hx hb d_RN_sub_40 rfl (lv_at hl 0 rfl) ?_
        refine gf_RN_15 hx hb htb hown hK hP d_RN_sub_41 ?_
        refine lv_iload_n hx hb d_RN_sub_44 rfl (lv_at hl 3 rfl) ?_
        refine rn_ald_regs hx hb hK hP (rg_in e17 c20) d_RN_sub_45 ?_
        refine gf_RN_80 hx hb htb hown hK hP (i := p2.toNatClampNeg) (rn_lt10 (rg_in e17 c20)) d_RN_sub_46 ?_
        refine lv_ineg hx hb d_RN_sub_49 ?_
        refine lv_iload hx hb d_RN_sub_50 (lv_at hl 4 rfl) ?_
        obtain ⟨r52, t52, e52⟩ := bd_ex (RN_storeSum st p0 p1.toNatClampNeg p2.toNatClampNeg (-(rn_sg st p2.toNatClampNeg)) p3)
        replace hF := (bd_eq e52).symm.trans hF
        refine ct_calli (va_runV (As := [.int p0, .ref (a (8 + p1.toNatClampNeg)), .ref (a (8 + p2.toNatClampNeg)), .int (-(rn_sg st p2.toNatClampNeg)), .int p3]) (rest := []) ⟨hx, hb, hml, hown, hts⟩ (c_RN_storeSum l (D := D) a ci co hi st p0 p1.toNatClampNeg p2.toNatClampNeg (-(rn_sg st p2.toNatClampNeg)) p3 (rn_lt10 (rg_in e10 c13)) (rn_lt10 (rg_in e17 c20)) (tg_in e3 c6) _ _ e52 _) (kc_RN_88 hts ⟨by decide, by decide⟩) ⟨ct_blind, rn_rc0 hK hP, ct_ok hP hK hN⟩ rfl rfl hl.1 rfl (lv_room (Nat.le_of_ble_eq_true rfl)) d_RN_sub_52 ⟨Nat.zero_le _, Nat.zero_le _⟩) hS (fun H locs hP hS => ?_)
        obtain ⟨rfl, rfl⟩ := Prod.mk.inj hF
        exact ct_iret hx hb hr hlk hP hS d_RN_sub_55
      · replace hF := (if_pos c20).symm.trans hF
        refine lv_bipush (v := 9) hx hb d_RN_sub_23 (by decide) ?_
        obtain ⟨rfl, rfl⟩ := Prod.mk.inj hF
        exact ct_iret hx hb hr hlk hP hS d_RN_sub_25
theorem d_RN_mul_0 : decode prog_1_method_9_code 0 = .ok (.iload_n 1, 1) := by decide +kernel
theorem d_RN_mul_1 : decode prog_1_method_9_code 1 = .ok (.iload 4, 2) := by decide +kernel
theorem d_RN_mul_3 : decode prog_1_method_9_code 3 = .ok (.invokestatic 72, 3) := by decide +kernel
theorem d_RN_mul_6 : decode prog_1_method_9_code 6 = .ok (.ifCond .eq 17, 3) := by decide +kernel
theorem d_RN_mul_9 : decode prog_1_method_9_code 9 = .ok (.iload_n 2, 1) := by decide +kernel
theorem d_RN_mul_10 : decode prog_1_method_9_code 10 = .ok (.invokestatic 64, 3) := by decide +kernel
theorem d_RN_mul_13 : decode prog_1_method_9_code 13 = .ok (.ifCond .eq 10, 3) := by decide +kernel
theorem d_RN_mul_16 : decode prog_1_method_9_code 16 = .ok (.iload_n 3, 1) := by decide +kernel
theorem d_RN_mul_17 : decode prog_1_method_9_code 17 = .ok (.invokestatic 64, 3) := by decide +kernel
theorem d_RN_mul_20 : decode prog_1_method_9_code 20 = .ok (.ifCond .ne 6, 3) := by decide +kernel
theorem d_RN_mul_23 : decode prog_1_method_9_code 23 = .ok (.bipush 9, 2) := by decide +kernel
theorem d_RN_mul_25 : decode prog_1_method_9_code 25 = .ok (.ireturn, 1) := by decide +kernel
theorem d_RN_mul_26 : decode prog_1_method_9_code 26 = .ok (.aload_n 0, 1) := by decide +kernel
theorem d_RN_mul_27 : decode prog_1_method_9_code 27 = .ok (.getfield 26, 3) := by decide +kernel
theorem d_RN_mul_30 : decode prog_1_method_9_code 30 = .ok (.aload_n 0, 1) := by decide +kernel
theorem d_RN_mul_31 : decode prog_1_method_9_code 31 = .ok (.getfield 15, 3) := by decide +kernel
theorem d_RN_mul_34 : decode prog_1_method_9_code 34 = .ok (.iload_n 2, 1) := by decide +kernel
theorem d_RN_mul_35 : decode prog_1_method_9_code 35 = .ok (.aaload, 1) := by decide +kernel
theorem d_RN_mul_36 : decode prog_1_method_9_code 36 = .ok (.aload_n 0, 1) := by decide +kernel
theorem d_RN_mul_37 : decode prog_1_method_9_code 37 = .ok (.getfield 15, 3) := by decide +kernel
theorem d_RN_mul_40 : decode prog_1_method_9_code 40 = .ok (.iload_n 3, 1) := by decide +kernel
theorem d_RN_mul_41 : decode prog_1_method_9_code 41 = .ok (.aaload, 1) := by decide +kernel
theorem d_RN_mul_42 : decode prog_1_method_9_code 42 = .ok (.invokevirtual 92, 3) := by decide +kernel
theorem d_RN_mul_45 : decode prog_1_method_9_code 45 = .ok (.aload_n 0, 1) := by decide +kernel
theorem d_RN_mul_46 : decode prog_1_method_9_code 46 = .ok (.iload_n 1, 1) := by decide +kernel
theorem d_RN_mul_47 : decode prog_1_method_9_code 47 = .ok (.aload_n 0, 1) := by decide +kernel
theorem d_RN_mul_48 : decode prog_1_method_9_code 48 = .ok (.getfield 26, 3) := by decide +kernel
theorem d_RN_mul_51 : decode prog_1_method_9_code 51 = .ok (.aload_n 0, 1) := by decide +kernel
theorem d_RN_mul_52 : decode prog_1_method_9_code 52 = .ok (.getfield 26, 3) := by decide +kernel
theorem d_RN_mul_55 : decode prog_1_method_9_code 55 = .ok (.getfield 80, 3) := by decide +kernel
theorem d_RN_mul_58 : decode prog_1_method_9_code 58 = .ok (.iload 4, 2) := by decide +kernel
theorem d_RN_mul_60 : decode prog_1_method_9_code 60 = .ok (.invokevirtual 84, 3) := by decide +kernel
theorem d_RN_mul_63 : decode prog_1_method_9_code 63 = .ok (.ireturn, 1) := by decide +kernel
def RN_mul (st : rn_S) (p0 : Int32) (p1 : Int32) (p2 : Int32) (p3 : Int32) : Int32 × rn_S := nm (RN_isTarget p0 p3) (fun r3 => (if r3 = 0 then ((9 : Int32), st) else nm (RN_isRegister p1) (fun r10 => (if r10 = 0 then ((9 : Int32), st) else nm (RN_isRegister p2) (fun r17 => (if r17 = 0 then ((9 : Int32), st) else nm (RV_takeProduct st 9 p1.toNatClampNeg p2.toNatClampNeg) (fun t42 => bd (RN_storeValue t42 p0 9 (rn_sg t42 9) p3) (fun r60 t60 => (r60, t60)))))))))
set_option maxHeartbeats 4000000 in
set_option maxRecDepth 100000 in
theorem c_RN_mul (l : Launch) {D : va_G} (a : Nat → Nat) (ci co : ClassId) (hi : rn_inj a) (st : rn_S) (p0 : Int32) (p1 : Int32) (p2 : Int32) (p3 : Int32) (r0 : Int32) (t0 : rn_S) (hF : RN_mul st p0 p1 p2 p3 = (r0, t0)) : ct_i l ⟨"RoundedNumbers", "mul", "(IIII)I"⟩ (.code ⟨"RoundedNumbers", "mul", "(IIII)I"⟩ prog_1_method_9_code 5 (some .int) :: ct_T) { frames := 6, cells := 0, slots := 0, locals := 150 } D vwCl (rn_T ci co) (rn_g a ci co) (rn_X a) [.ref (a 0), .int p0, .int p1, .int p2, .int p3] st r0 t0 := by
  refine ct_i.mk (cc := prog_1_method_9_code) (maxL := 5) (by decide) rfl (Nat.le_of_ble_eq_true rfl) ?_
  intro p e s m below meth c hx hb hr hml hown hts hlk hK hN hP hS ls hl
  have hown : s.vm.findClass "RoundedNumbers" = some m.cls := hown
  have hl : lv_has ls 5 [(0, .ref (a 0)), (1, .int p0), (2, .int p1), (3, .int p2), (4, .int p3)] := hl
  have htb := fun w h => hts w (List.mem_cons_of_mem _ h)
  unfold RN_mul at hF
  refine lv_iload_n hx hb d_RN_mul_0 rfl (lv_at hl 1 rfl) ?_
  refine lv_iload hx hb d_RN_mul_1 (lv_at hl 4 rfl) ?_
  obtain ⟨r3, e3⟩ := nm_ex (RN_isTarget p0 p3)
  replace hF := (nm_eq e3).symm.trans hF
  refine ct_calli (va_runS (As := [.int p0, .int p3]) (rest := []) ⟨hx, hb, hml, hown, hts⟩ (c_RN_isTarget l (D := D) a ci co hi st p0 p3 _ e3 _) (kc_RN_72 hts ⟨by decide, by decide⟩) ⟨ct_blind, ct_ok hP hK hN⟩ rfl rfl hl.1 rfl (lv_room (Nat.le_of_ble_eq_true rfl)) d_RN_mul_3 ⟨Nat.zero_le _, Nat.zero_le _⟩) hS (fun H locs hP hS => ?_)
  refine lv_if_eq hx hb d_RN_mul_6 (tgt := 23) (by decide) (fun c6 => ?_) (fun c6 => ?_)
  · replace hF := (if_pos c6).symm.trans hF
    refine lv_bipush (v := 9) hx hb d_RN_mul_23 (by decide) ?_
    obtain ⟨rfl, rfl⟩ := Prod.mk.inj hF
    exact ct_iret hx hb hr hlk hP hS d_RN_mul_25
  · replace hF := (if_neg c6).symm.trans hF
    refine lv_iload_n hx hb d_RN_mul_9 rfl (lv_at hl 2 rfl) ?_
    obtain ⟨r10, e10⟩ := nm_ex (RN_isRegister p1)
    replace hF := (nm_eq e10).symm.trans hF
    refine ct_calli (va_runS (As := [.int p1]) (rest := []) ⟨hx, hb, hml, hown, hts⟩ (c_RN_isRegister l (D := D) a ci co hi st p1 _ e10 _) (kc_RN_64 hts ⟨by decide, by decide⟩) ⟨ct_blind, ct_ok hP hK hN⟩ rfl rfl hl.1 rfl (lv_room (Nat.le_of_ble_eq_true rfl)) d_RN_mul_10 ⟨Nat.zero_le _, Nat.zero_le _⟩) hS (fun H locs hP hS => ?_)
    refine lv_if_eq hx hb d_RN_mul_13 (tgt := 23) (by decide) (fun c13 => ?_) (fun c13 => ?_)
    · replace hF := (if_pos c13).symm.trans hF
      refine lv_bipush (v := 9) hx hb d_RN_mul_23 (by decide) ?_
      obtain ⟨rfl, rfl⟩ := Prod.mk.inj hF
      exact ct_iret hx hb hr hlk hP hS d_RN_mul_25
    · replace hF := (if_neg c13).symm.trans hF
      refine lv_iload_n hx hb d_RN_mul_16 rfl (lv_at hl 3 rfl) ?_
      obtain ⟨r17, e17⟩ := nm_ex (RN_isRegister p2)
      replace hF := (nm_eq e17).symm.trans hF
      refine ct_calli (va_runS (As := [.int p2]) (rest := []) ⟨hx, hb, hml, hown, hts⟩ (c_RN_isRegister l (D := D) a ci co hi st p2 _ e17 _) (kc_RN_64 hts ⟨by decide, by decide⟩) ⟨ct_blind, ct_ok hP hK hN⟩ rfl rfl hl.1 rfl (lv_room (Nat.le_of_ble_eq_true rfl)) d_RN_mul_17 ⟨Nat.zero_le _, Nat.zero_le _⟩) hS (fun H locs hP hS => ?_)
      refine lv_if_ne hx hb d_RN_mul_20 (tgt := 26) (by decide) (fun c20 => ?_) (fun c20 => ?_)
      · replace hF := (if_neg c20).symm.trans hF
        refine lv_aload_n hx hb d_RN_mul_26 rfl (lv_at hl 0 rfl) ?_
        refine gf_RN_26 hx hb htb hown hK hP d_RN_mul_27 ?_
        refine lv_aload_n hx hb d_RN_mul_30 rfl (lv_at hl 0 rfl) ?_
        refine gf_RN_15 hx hb htb hown hK hP d_RN_mul_31 ?_
        refine lv_iload_n hx hb d_RN_mul_34 rfl (lv_at hl 2 rfl) ?_
        refine rn_ald_regs hx hb hK hP (rg_in e10 c13) d_RN_mul_35 ?_
        refine lv_aload_n hx hb d_RN_mul_36 rfl (lv_at hl 0 rfl) ?_
        refine gf_RN_15 hx hb htb hown hK hP d_RN_mul_37 ?_
        refine lv_iload_n hx hb d_RN_mul_40 rfl (lv_at hl 3 rfl) ?_
        refine rn_ald_regs hx hb hK hP (rg_in e17 c20) d_RN_mul_41 ?_
        obtain ⟨t42, e42⟩ := nm_ex (RV_takeProduct st 9 p1.toNatClampNeg p2.toNatClampNeg)
        replace hF := (nm_eq e42).symm.trans hF
        refine ct_callv (va_runV (As := [.ref (a (8 + p1.toNatClampNeg)), .ref (a (8 + p2.toNatClampNeg))]) (rest := []) ⟨hx, hb, hml, hown, hts⟩ (c_RV_takeProduct l (D := D) a ci co hi st 9 p1.toNatClampNeg p2.toNatClampNeg (by decide) (rn_lt10 (rg_in e10 c13)) (rn_lt10 (rg_in e17 c20)) rfl _ e42 _) (kc_RN_92 hts ⟨by decide, by decide⟩) ⟨ct_blind, rn_rc1 hK hP (by decide), ct_ok hP hK hN⟩ rfl rfl hl.1 rfl (lv_room (Nat.le_of_ble_eq_true rfl)) d_RN_mul_42 ⟨Nat.zero_le _, Nat.zero_le _⟩) hS (fun H locs hP hS => ?_)
        refine lv_aload_n hx hb d_RN_mul_45 rfl (lv_at hl 0 rfl) ?_
        refine lv_iload_n hx hb d_RN_mul_46 rfl (lv_at hl 1 rfl) ?_
        refine lv_aload_n hx hb d_RN_mul_47 rfl (lv_at hl 0 rfl) ?_
        refine gf_RN_26 hx hb htb hown hK hP d_RN_mul_48 ?_
        refine lv_aload_n hx hb d_RN_mul_51 rfl (lv_at hl 0 rfl) ?_
        refine gf_RN_26 hx hb htb hown hK hP d_RN_mul_52 ?_
        refine gf_RN_80 hx hb htb hown hK hP (i := 9) (by decide) d_RN_mul_55 ?_
        refine lv_iload hx hb d_RN_mul_58 (lv_at hl 4 rfl) ?_
        obtain ⟨r60, t60, e60⟩ := bd_ex (RN_storeValue t42 p0 9 (rn_sg t42 9) p3)
        replace hF := (bd_eq e60).symm.trans hF
        refine ct_calli (va_runV (As := [.int p0, .ref (a (8 + 9)), .int (rn_sg t42 9), .int p3]) (rest := []) ⟨hx, hb, hml, hown, hts⟩ (c_RN_storeValue l (D := D) a ci co hi t42 p0 9 (rn_sg t42 9) p3 (by decide) (tg_in e3 c6) _ _ e60 _) (kc_RN_84 hts ⟨by decide, by decide⟩) ⟨ct_blind, rn_rc0 hK hP, ct_ok hP hK hN⟩ rfl rfl hl.1 rfl (lv_room (Nat.le_of_ble_eq_true rfl)) d_RN_mul_60 ⟨Nat.zero_le _, Nat.zero_le _⟩) hS (fun H locs hP hS => ?_)
        obtain ⟨rfl, rfl⟩ := Prod.mk.inj hF
        exact ct_iret hx hb hr hlk hP hS d_RN_mul_63
      · replace hF := (if_pos c20).symm.trans hF
        refine lv_bipush (v := 9) hx hb d_RN_mul_23 (by decide) ?_
        obtain ⟨rfl, rfl⟩ := Prod.mk.inj hF
        exact ct_iret hx hb hr hlk hP hS d_RN_mul_25
theorem d_RN_div_0 : decode prog_1_method_10_code 0 = .ok (.iload_n 1, 1) := by decide +kernel
theorem d_RN_div_1 : decode prog_1_method_10_code 1 = .ok (.iload 4, 2) := by decide +kernel
theorem d_RN_div_3 : decode prog_1_method_10_code 3 = .ok (.invokestatic 72, 3) := by decide +kernel
theorem d_RN_div_6 : decode prog_1_method_10_code 6 = .ok (.ifCond .eq 17, 3) := by decide +kernel
theorem d_RN_div_9 : decode prog_1_method_10_code 9 = .ok (.iload_n 2, 1) := by decide +kernel
theorem d_RN_div_10 : decode prog_1_method_10_code 10 = .ok (.invokestatic 64, 3) := by decide +kernel
theorem d_RN_div_13 : decode prog_1_method_10_code 13 = .ok (.ifCond .eq 10, 3) := by decide +kernel
theorem d_RN_div_16 : decode prog_1_method_10_code 16 = .ok (.iload_n 3, 1) := by decide +kernel
theorem d_RN_div_17 : decode prog_1_method_10_code 17 = .ok (.invokestatic 64, 3) := by decide +kernel
theorem d_RN_div_20 : decode prog_1_method_10_code 20 = .ok (.ifCond .ne 6, 3) := by decide +kernel
theorem d_RN_div_23 : decode prog_1_method_10_code 23 = .ok (.bipush 9, 2) := by decide +kernel
theorem d_RN_div_25 : decode prog_1_method_10_code 25 = .ok (.ireturn, 1) := by decide +kernel
theorem d_RN_div_26 : decode prog_1_method_10_code 26 = .ok (.aload_n 0, 1) := by decide +kernel
theorem d_RN_div_27 : decode prog_1_method_10_code 27 = .ok (.getfield 15, 3) := by decide +kernel
theorem d_RN_div_30 : decode prog_1_method_10_code 30 = .ok (.iload_n 2, 1) := by decide +kernel
theorem d_RN_div_31 : decode prog_1_method_10_code 31 = .ok (.aaload, 1) := by decide +kernel
theorem d_RN_div_32 : decode prog_1_method_10_code 32 = .ok (.astore 5, 2) := by decide +kernel
theorem d_RN_div_34 : decode prog_1_method_10_code 34 = .ok (.aload_n 0, 1) := by decide +kernel
theorem d_RN_div_35 : decode prog_1_method_10_code 35 = .ok (.getfield 15, 3) := by decide +kernel
theorem d_RN_div_38 : decode prog_1_method_10_code 38 = .ok (.iload_n 3, 1) := by decide +kernel
theorem d_RN_div_39 : decode prog_1_method_10_code 39 = .ok (.aaload, 1) := by decide +kernel
theorem d_RN_div_40 : decode prog_1_method_10_code 40 = .ok (.astore 6, 2) := by decide +kernel
theorem d_RN_div_42 : decode prog_1_method_10_code 42 = .ok (.aload 5, 2) := by decide +kernel
theorem d_RN_div_44 : decode prog_1_method_10_code 44 = .ok (.getfield 96, 3) := by decide +kernel
theorem d_RN_div_47 : decode prog_1_method_10_code 47 = .ok (.aload 6, 2) := by decide +kernel
theorem d_RN_div_49 : decode prog_1_method_10_code 49 = .ok (.getfield 96, 3) := by decide +kernel
theorem d_RN_div_52 : decode prog_1_method_10_code 52 = .ok (.invokestatic 99, 3) := by decide +kernel
theorem d_RN_div_55 : decode prog_1_method_10_code 55 = .ok (.istore 7, 2) := by decide +kernel
theorem d_RN_div_57 : decode prog_1_method_10_code 57 = .ok (.aload 5, 2) := by decide +kernel
theorem d_RN_div_59 : decode prog_1_method_10_code 59 = .ok (.getfield 80, 3) := by decide +kernel
theorem d_RN_div_62 : decode prog_1_method_10_code 62 = .ok (.aload 6, 2) := by decide +kernel
theorem d_RN_div_64 : decode prog_1_method_10_code 64 = .ok (.getfield 80, 3) := by decide +kernel
theorem d_RN_div_67 : decode prog_1_method_10_code 67 = .ok (.imul, 1) := by decide +kernel
theorem d_RN_div_68 : decode prog_1_method_10_code 68 = .ok (.istore 8, 2) := by decide +kernel
theorem d_RN_div_70 : decode prog_1_method_10_code 70 = .ok (.iload 7, 2) := by decide +kernel
theorem d_RN_div_72 : decode prog_1_method_10_code 72 = .ok (.iconst 3, 1) := by decide +kernel
theorem d_RN_div_73 : decode prog_1_method_10_code 73 = .ok (.if_icmp .eq 13, 3) := by decide +kernel
theorem d_RN_div_76 : decode prog_1_method_10_code 76 = .ok (.aload_n 0, 1) := by decide +kernel
theorem d_RN_div_77 : decode prog_1_method_10_code 77 = .ok (.iload_n 1, 1) := by decide +kernel
theorem d_RN_div_78 : decode prog_1_method_10_code 78 = .ok (.iload 7, 2) := by decide +kernel
theorem d_RN_div_80 : decode prog_1_method_10_code 80 = .ok (.iload 8, 2) := by decide +kernel
theorem d_RN_div_82 : decode prog_1_method_10_code 82 = .ok (.invokevirtual 102, 3) := by decide +kernel
theorem d_RN_div_85 : decode prog_1_method_10_code 85 = .ok (.ireturn, 1) := by decide +kernel
theorem d_RN_div_86 : decode prog_1_method_10_code 86 = .ok (.aload_n 0, 1) := by decide +kernel
theorem d_RN_div_87 : decode prog_1_method_10_code 87 = .ok (.aload 5, 2) := by decide +kernel
theorem d_RN_div_89 : decode prog_1_method_10_code 89 = .ok (.aload 6, 2) := by decide +kernel
theorem d_RN_div_91 : decode prog_1_method_10_code 91 = .ok (.invokevirtual 106, 3) := by decide +kernel
theorem d_RN_div_94 : decode prog_1_method_10_code 94 = .ok (.aload_n 0, 1) := by decide +kernel
theorem d_RN_div_95 : decode prog_1_method_10_code 95 = .ok (.iload_n 1, 1) := by decide +kernel
theorem d_RN_div_96 : decode prog_1_method_10_code 96 = .ok (.iload 8, 2) := by decide +kernel
theorem d_RN_div_98 : decode prog_1_method_10_code 98 = .ok (.iload 4, 2) := by decide +kernel
theorem d_RN_div_100 : decode prog_1_method_10_code 100 = .ok (.invokevirtual 109, 3) := by decide +kernel
theorem d_RN_div_103 : decode prog_1_method_10_code 103 = .ok (.ireturn, 1) := by decide +kernel
def RN_div (st : rn_S) (p0 : Int32) (p1 : Int32) (p2 : Int32) (p3 : Int32) : Int32 × rn_S := nm (RN_isTarget p0 p3) (fun r3 => (if r3 = 0 then ((9 : Int32), st) else nm (RN_isRegister p1) (fun r10 => (if r10 = 0 then ((9 : Int32), st) else nm (RN_isRegister p2) (fun r17 => (if r17 = 0 then ((9 : Int32), st) else nm (RN_quotientKind (rn_kd st p1.toNatClampNeg) (rn_kd st p2.toNatClampNeg)) (fun r52 => nm ((rn_sg st p1.toNatClampNeg) * (rn_sg st p2.toNatClampNeg)) (fun x68 => (if r52 = (3 : Int32) then nm (RN_workOutQuotient st p1.toNatClampNeg p2.toNatClampNeg) (fun t91 => bd (RN_storeExact t91 p0 x68 p3) (fun r100 t100 => (r100, t100))) else bd (RN_storePlain st p0 r52 x68) (fun r82 t82 => (r82, t82)))))))))))
set_option maxHeartbeats 4000000 in
set_option maxRecDepth 100000 in
theorem c_RN_div (l : Launch) {D : va_G} (a : Nat → Nat) (ci co : ClassId) (hi : rn_inj a) (st : rn_S) (p0 : Int32) (p1 : Int32) (p2 : Int32) (p3 : Int32) (r0 : Int32) (t0 : rn_S) (hF : RN_div st p0 p1 p2 p3 = (r0, t0)) : ct_i l ⟨"RoundedNumbers", "div", "(IIII)I"⟩ (.code ⟨"RoundedNumbers", "div", "(IIII)I"⟩ prog_1_method_10_code 9 (some .int) :: ct_T) { frames := 5, cells := 0, slots := 0, locals := 126 } D vwCl (rn_T ci co) (rn_g a ci co) (rn_X a) [.ref (a 0), .int p0, .int p1, .int p2, .int p3] st r0 t0 := by
  refine ct_i.mk (cc := prog_1_method_10_code) (maxL := 9) (by decide) rfl (Nat.le_of_ble_eq_true rfl) ?_
  intro p e s m below meth c hx hb hr hml hown hts hlk hK hN hP hS ls hl
  have hown : s.vm.findClass "RoundedNumbers" = some m.cls := hown
  have hl : lv_has ls 9 [(0, .ref (a 0)), (1, .int p0), (2, .int p1), (3, .int p2), (4, .int p3)] := hl
  have htb := fun w h => hts w (List.mem_cons_of_mem _ h)
  unfold RN_div at hF
  refine lv_iload_n hx hb d_RN_div_0 rfl (lv_at hl 1 rfl) ?_
  refine lv_iload hx hb d_RN_div_1 (lv_at hl 4 rfl) ?_
  obtain ⟨r3, e3⟩ := nm_ex (RN_isTarget p0 p3)
  replace hF := (nm_eq e3).symm.trans hF
  refine ct_calli (va_runS (As := [.int p0, .int p3]) (rest := []) ⟨hx, hb, hml, hown, hts⟩ (c_RN_isTarget l (D := D) a ci co hi st p0 p3 _ e3 _) (kc_RN_72 hts ⟨by decide, by decide⟩) ⟨ct_blind, ct_ok hP hK hN⟩ rfl rfl hl.1 rfl (lv_room (Nat.le_of_ble_eq_true rfl)) d_RN_div_3 ⟨Nat.zero_le _, Nat.zero_le _⟩) hS (fun H locs hP hS => ?_)
  refine lv_if_eq hx hb d_RN_div_6 (tgt := 23) (by decide) (fun c6 => ?_) (fun c6 => ?_)
  · replace hF := (if_pos c6).symm.trans hF
    refine lv_bipush (v := 9) hx hb d_RN_div_23 (by decide) ?_
    obtain ⟨rfl, rfl⟩ := Prod.mk.inj hF
    exact ct_iret hx hb hr hlk hP hS d_RN_div_25
  · replace hF := (if_neg c6).symm.trans hF
    refine lv_iload_n hx hb d_RN_div_9 rfl (lv_at hl 2 rfl) ?_
    obtain ⟨r10, e10⟩ := nm_ex (RN_isRegister p1)
    replace hF := (nm_eq e10).symm.trans hF
    refine ct_calli (va_runS (As := [.int p1]) (rest := []) ⟨hx, hb, hml, hown, hts⟩ (c_RN_isRegister l (D := D) a ci co hi st p1 _ e10 _) (kc_RN_64 hts ⟨by decide, by decide⟩) ⟨ct_blind, ct_ok hP hK hN⟩ rfl rfl hl.1 rfl (lv_room (Nat.le_of_ble_eq_true rfl)) d_RN_div_10 ⟨Nat.zero_le _, Nat.zero_le _⟩) hS (fun H locs hP hS => ?_)
    refine lv_if_eq hx hb d_RN_div_13 (tgt := 23) (by decide) (fun c13 => ?_) (fun c13 => ?_)
    · replace hF := (if_pos c13).symm.trans hF
      refine lv_bipush (v := 9) hx hb d_RN_div_23 (by decide) ?_
      obtain ⟨rfl, rfl⟩ := Prod.mk.inj hF
      exact ct_iret hx hb hr hlk hP hS d_RN_div_25
    · replace hF := (if_neg c13).symm.trans hF
      refine lv_iload_n hx hb d_RN_div_16 rfl (lv_at hl 3 rfl) ?_
      obtain ⟨r17, e17⟩ := nm_ex (RN_isRegister p2)
      replace hF := (nm_eq e17).symm.trans hF
      refine ct_calli (va_runS (As := [.int p2]) (rest := []) ⟨hx, hb, hml, hown, hts⟩ (c_RN_isRegister l (D := D) a ci co hi st p2 _ e17 _) (kc_RN_64 hts ⟨by decide, by decide⟩) ⟨ct_blind, ct_ok hP hK hN⟩ rfl rfl hl.1 rfl (lv_room (Nat.le_of_ble_eq_true rfl)) d_RN_div_17 ⟨Nat.zero_le _, Nat.zero_le _⟩) hS (fun H locs hP hS => ?_)
      refine lv_if_ne hx hb d_RN_div_20 (tgt := 26) (by decide) (fun c20 => ?_) (fun c20 => ?_)
      · replace hF := (if_neg c20).symm.trans hF
        refine lv_aload_n hx hb d_RN_div_26 rfl (lv_at hl 0 rfl) ?_
        refine gf_RN_15 hx hb htb hown hK hP d_RN_div_27 ?_
        refine lv_iload_n hx hb d_RN_div_30 rfl (lv_at hl 2 rfl) ?_
        refine rn_ald_regs hx hb hK hP (rg_in e10 c13) d_RN_div_31 ?_
        refine lv_astore (lv' := [(5, .ref (a (8 + p1.toNatClampNeg))), (0, .ref (a 0)), (1, .int p0), (2, .int p1), (3, .int p2), (4, .int p3)]) hx hb d_RN_div_32 hl (by decide) rfl (fun ls hl => ?_)
        refine lv_aload_n hx hb d_RN_div_34 rfl (lv_at hl 1 rfl) ?_
        refine gf_RN_15 hx hb htb hown hK hP d_RN_div_35 ?_
        refine lv_iload_n hx hb d_RN_div_38 rfl (lv_at hl 4 rfl) ?_
        refine rn_ald_regs hx hb hK hP (rg_in e17 c20) d_RN_div_39 ?_
        refine lv_astore (lv' := [(6, .ref (a (8 + p2.toNatClampNeg))), (5, .ref (a (8 + p1.toNatClampNeg))), (0, .ref (a 0)), (1, .int p0), (2, .int p1), (3, .int p2), (4, .int p3)]) hx hb d_RN_div_40 hl (by decide) rfl (fun ls hl => ?_)
        refine lv_aload hx hb d_RN_div_42 (lv_at hl 1 rfl) ?_
        refine gf_RN_96 hx hb htb hown hK hP (i := p1.toNatClampNeg) (rn_lt10 (rg_in e10 c13)) d_RN_div_44 ?_
        refine lv_aload hx hb d_RN_div_47 (lv_at hl 0 rfl) ?_
        refine gf_RN_96 hx hb htb hown hK hP (i := p2.toNatClampNeg) (rn_lt10 (rg_in e17 c20)) d_RN_div_49 ?_
        obtain ⟨r52, e52⟩ := nm_ex (RN_quotientKind (rn_kd st p1.toNatClampNeg) (rn_kd st p2.toNatClampNeg))
        replace hF := (nm_eq e52).symm.trans hF
        refine ct_calli (va_runS (As := [.int (rn_kd st p1.toNatClampNeg), .int (rn_kd st p2.toNatClampNeg)]) (rest := []) ⟨hx, hb, hml, hown, hts⟩ (c_RN_quotientKind l (D := D) a ci co hi st (rn_kd st p1.toNatClampNeg) (rn_kd st p2.toNatClampNeg) _ e52 _) (kc_RN_99 hts ⟨by decide, by decide⟩) ⟨ct_blind, ct_ok hP hK hN⟩ rfl rfl hl.1 rfl (lv_room (Nat.le_of_ble_eq_true rfl)) d_RN_div_52 ⟨Nat.zero_le _, Nat.zero_le _⟩) hS (fun H locs hP hS => ?_)
        refine lv_istore (lv' := [(7, .int r52), (6, .ref (a (8 + p2.toNatClampNeg))), (5, .ref (a (8 + p1.toNatClampNeg))), (0, .ref (a 0)), (1, .int p0), (2, .int p1), (3, .int p2), (4, .int p3)]) hx hb d_RN_div_55 hl (by decide) rfl (fun ls hl => ?_)
        refine lv_aload hx hb d_RN_div_57 (lv_at hl 2 rfl) ?_
        refine gf_RN_80 hx hb htb hown hK hP (i := p1.toNatClampNeg) (rn_lt10 (rg_in e10 c13)) d_RN_div_59 ?_
        refine lv_aload hx hb d_RN_div_62 (lv_at hl 1 rfl) ?_
        refine gf_RN_80 hx hb htb hown hK hP (i := p2.toNatClampNeg) (rn_lt10 (rg_in e17 c20)) d_RN_div_64 ?_
        refine lv_imul hx hb d_RN_div_67 ?_
        refine lv_topi (fun x68 e68 => ?_)
        replace hF := (nm_eq e68.symm).symm.trans hF
        refine lv_istore (lv' := [(8, .int x68), (7, .int r52), (6, .ref (a (8 + p2.toNatClampNeg))), (5, .ref (a (8 + p1.toNatClampNeg))), (0, .ref (a 0)), (1, .int p0), (2, .int p1), (3, .int p2), (4, .int p3)]) hx hb d_RN_div_68 hl (by decide) rfl (fun ls hl => ?_)
        refine lv_iload hx hb d_RN_div_70 (lv_at hl 1 rfl) ?_
        refine lv_iconst (v := 3) hx hb d_RN_div_72 (by decide) ?_
        refine lv_icmp_eq hx hb d_RN_div_73 (tgt := 86) (by decide) (fun c73 => ?_) (fun c73 => ?_)
        · replace hF := (if_pos c73).symm.trans hF
          refine lv_aload_n hx hb d_RN_div_86 rfl (lv_at hl 4 rfl) ?_
          refine lv_aload hx hb d_RN_div_87 (lv_at hl 3 rfl) ?_
          refine lv_aload hx hb d_RN_div_89 (lv_at hl 2 rfl) ?_
          obtain ⟨t91, e91⟩ := nm_ex (RN_workOutQuotient st p1.toNatClampNeg p2.toNatClampNeg)
          replace hF := (nm_eq e91).symm.trans hF
          refine ct_callv (va_runV (As := [.ref (a (8 + p1.toNatClampNeg)), .ref (a (8 + p2.toNatClampNeg))]) (rest := []) ⟨hx, hb, hml, hown, hts⟩ (c_RN_workOutQuotient l (D := D) a ci co hi st p1.toNatClampNeg p2.toNatClampNeg (rn_lt10 (rg_in e10 c13)) (rn_lt10 (rg_in e17 c20)) _ e91 _) (kc_RN_106 hts ⟨by decide, by decide⟩) ⟨ct_blind, rn_rc0 hK hP, ct_ok hP hK hN⟩ rfl rfl hl.1 rfl (lv_room (Nat.le_of_ble_eq_true rfl)) d_RN_div_91 ⟨Nat.zero_le _, Nat.zero_le _⟩) hS (fun H locs hP hS => ?_)
          refine lv_aload_n hx hb d_RN_div_94 rfl (lv_at hl 4 rfl) ?_
          refine lv_iload_n hx hb d_RN_div_95 rfl (lv_at hl 5 rfl) ?_
          refine lv_iload hx hb d_RN_div_96 (lv_at hl 0 rfl) ?_
          refine lv_iload hx hb d_RN_div_98 (lv_at hl 8 rfl) ?_
          obtain ⟨r100, t100, e100⟩ := bd_ex (RN_storeExact t91 p0 x68 p3)
          replace hF := (bd_eq e100).symm.trans hF
          refine ct_calli (va_runV (As := [.int p0, .int x68, .int p3]) (rest := []) ⟨hx, hb, hml, hown, hts⟩ (c_RN_storeExact l (D := D) a ci co hi t91 p0 x68 p3 (tg_in e3 c6) _ _ e100 _) (kc_RN_109 hts ⟨by decide, by decide⟩) ⟨ct_blind, rn_rc0 hK hP, ct_ok hP hK hN⟩ rfl rfl hl.1 rfl (lv_room (Nat.le_of_ble_eq_true rfl)) d_RN_div_100 ⟨Nat.zero_le _, Nat.zero_le _⟩) hS (fun H locs hP hS => ?_)
          obtain ⟨rfl, rfl⟩ := Prod.mk.inj hF
          exact ct_iret hx hb hr hlk hP hS d_RN_div_103
        · replace hF := (if_neg c73).symm.trans hF
          refine lv_aload_n hx hb d_RN_div_76 rfl (lv_at hl 4 rfl) ?_
          refine lv_iload_n hx hb d_RN_div_77 rfl (lv_at hl 5 rfl) ?_
          refine lv_iload hx hb d_RN_div_78 (lv_at hl 1 rfl) ?_
          refine lv_iload hx hb d_RN_div_80 (lv_at hl 0 rfl) ?_
          obtain ⟨r82, t82, e82⟩ := bd_ex (RN_storePlain st p0 r52 x68)
          replace hF := (bd_eq e82).symm.trans hF
          refine ct_calli (va_runV (As := [.int p0, .int r52, .int x68]) (rest := []) ⟨hx, hb, hml, hown, hts⟩ (c_RN_storePlain l (D := D) a ci co hi st p0 r52 x68 (tg_in e3 c6) _ _ e82 _) (kc_RN_102 hts ⟨by decide, by decide⟩) ⟨ct_blind, rn_rc0 hK hP, ct_ok hP hK hN⟩ rfl rfl hl.1 rfl (lv_room (Nat.le_of_ble_eq_true rfl)) d_RN_div_82 ⟨Nat.zero_le _, Nat.zero_le _⟩) hS (fun H locs hP hS => ?_)
          obtain ⟨rfl, rfl⟩ := Prod.mk.inj hF
          exact ct_iret hx hb hr hlk hP hS d_RN_div_85
      · replace hF := (if_pos c20).symm.trans hF
        refine lv_bipush (v := 9) hx hb d_RN_div_23 (by decide) ?_
        obtain ⟨rfl, rfl⟩ := Prod.mk.inj hF
        exact ct_iret hx hb hr hlk hP hS d_RN_div_25
theorem d_RN_sqrt_0 : decode prog_1_method_11_code 0 = .ok (.iload_n 1, 1) := by decide +kernel
theorem d_RN_sqrt_1 : decode prog_1_method_11_code 1 = .ok (.iload_n 3, 1) := by decide +kernel
theorem d_RN_sqrt_2 : decode prog_1_method_11_code 2 = .ok (.invokestatic 72, 3) := by decide +kernel
theorem d_RN_sqrt_5 : decode prog_1_method_11_code 5 = .ok (.ifCond .eq 10, 3) := by decide +kernel
theorem d_RN_sqrt_8 : decode prog_1_method_11_code 8 = .ok (.iload_n 2, 1) := by decide +kernel
theorem d_RN_sqrt_9 : decode prog_1_method_11_code 9 = .ok (.invokestatic 64, 3) := by decide +kernel
theorem d_RN_sqrt_12 : decode prog_1_method_11_code 12 = .ok (.ifCond .ne 6, 3) := by decide +kernel
theorem d_RN_sqrt_15 : decode prog_1_method_11_code 15 = .ok (.bipush 9, 2) := by decide +kernel
theorem d_RN_sqrt_17 : decode prog_1_method_11_code 17 = .ok (.ireturn, 1) := by decide +kernel
theorem d_RN_sqrt_18 : decode prog_1_method_11_code 18 = .ok (.aload_n 0, 1) := by decide +kernel
theorem d_RN_sqrt_19 : decode prog_1_method_11_code 19 = .ok (.getfield 15, 3) := by decide +kernel
theorem d_RN_sqrt_22 : decode prog_1_method_11_code 22 = .ok (.iload_n 2, 1) := by decide +kernel
theorem d_RN_sqrt_23 : decode prog_1_method_11_code 23 = .ok (.aaload, 1) := by decide +kernel
theorem d_RN_sqrt_24 : decode prog_1_method_11_code 24 = .ok (.astore 4, 2) := by decide +kernel
theorem d_RN_sqrt_26 : decode prog_1_method_11_code 26 = .ok (.aload 4, 2) := by decide +kernel
theorem d_RN_sqrt_28 : decode prog_1_method_11_code 28 = .ok (.getfield 96, 3) := by decide +kernel
theorem d_RN_sqrt_31 : decode prog_1_method_11_code 31 = .ok (.ifCond .eq 12, 3) := by decide +kernel
theorem d_RN_sqrt_34 : decode prog_1_method_11_code 34 = .ok (.aload 4, 2) := by decide +kernel
theorem d_RN_sqrt_36 : decode prog_1_method_11_code 36 = .ok (.getfield 96, 3) := by decide +kernel
theorem d_RN_sqrt_39 : decode prog_1_method_11_code 39 = .ok (.iconst 2, 1) := by decide +kernel
theorem d_RN_sqrt_40 : decode prog_1_method_11_code 40 = .ok (.if_icmp .ne 19, 3) := by decide +kernel
theorem d_RN_sqrt_43 : decode prog_1_method_11_code 43 = .ok (.aload_n 0, 1) := by decide +kernel
theorem d_RN_sqrt_44 : decode prog_1_method_11_code 44 = .ok (.iload_n 1, 1) := by decide +kernel
theorem d_RN_sqrt_45 : decode prog_1_method_11_code 45 = .ok (.aload 4, 2) := by decide +kernel
theorem d_RN_sqrt_47 : decode prog_1_method_11_code 47 = .ok (.getfield 96, 3) := by decide +kernel
theorem d_RN_sqrt_50 : decode prog_1_method_11_code 50 = .ok (.aload 4, 2) := by decide +kernel
theorem d_RN_sqrt_52 : decode prog_1_method_11_code 52 = .ok (.getfield 80, 3) := by decide +kernel
theorem d_RN_sqrt_55 : decode prog_1_method_11_code 55 = .ok (.invokevirtual 102, 3) := by decide +kernel
theorem d_RN_sqrt_58 : decode prog_1_method_11_code 58 = .ok (.ireturn, 1) := by decide +kernel
theorem d_RN_sqrt_59 : decode prog_1_method_11_code 59 = .ok (.aload 4, 2) := by decide +kernel
theorem d_RN_sqrt_61 : decode prog_1_method_11_code 61 = .ok (.getfield 80, 3) := by decide +kernel
theorem d_RN_sqrt_64 : decode prog_1_method_11_code 64 = .ok (.ifCond .ge 11, 3) := by decide +kernel
theorem d_RN_sqrt_67 : decode prog_1_method_11_code 67 = .ok (.aload_n 0, 1) := by decide +kernel
theorem d_RN_sqrt_68 : decode prog_1_method_11_code 68 = .ok (.iload_n 1, 1) := by decide +kernel
theorem d_RN_sqrt_69 : decode prog_1_method_11_code 69 = .ok (.iconst 0, 1) := by decide +kernel
theorem d_RN_sqrt_70 : decode prog_1_method_11_code 70 = .ok (.iconst 0, 1) := by decide +kernel
theorem d_RN_sqrt_71 : decode prog_1_method_11_code 71 = .ok (.invokevirtual 102, 3) := by decide +kernel
theorem d_RN_sqrt_74 : decode prog_1_method_11_code 74 = .ok (.ireturn, 1) := by decide +kernel
theorem d_RN_sqrt_75 : decode prog_1_method_11_code 75 = .ok (.aload 4, 2) := by decide +kernel
theorem d_RN_sqrt_77 : decode prog_1_method_11_code 77 = .ok (.getfield 96, 3) := by decide +kernel
theorem d_RN_sqrt_80 : decode prog_1_method_11_code 80 = .ok (.iconst 1, 1) := by decide +kernel
theorem d_RN_sqrt_81 : decode prog_1_method_11_code 81 = .ok (.if_icmp .ne 15, 3) := by decide +kernel
theorem d_RN_sqrt_84 : decode prog_1_method_11_code 84 = .ok (.aload_n 0, 1) := by decide +kernel
theorem d_RN_sqrt_85 : decode prog_1_method_11_code 85 = .ok (.iload_n 1, 1) := by decide +kernel
theorem d_RN_sqrt_86 : decode prog_1_method_11_code 86 = .ok (.iconst 1, 1) := by decide +kernel
theorem d_RN_sqrt_87 : decode prog_1_method_11_code 87 = .ok (.aload 4, 2) := by decide +kernel
theorem d_RN_sqrt_89 : decode prog_1_method_11_code 89 = .ok (.getfield 80, 3) := by decide +kernel
theorem d_RN_sqrt_92 : decode prog_1_method_11_code 92 = .ok (.invokevirtual 102, 3) := by decide +kernel
theorem d_RN_sqrt_95 : decode prog_1_method_11_code 95 = .ok (.ireturn, 1) := by decide +kernel
theorem d_RN_sqrt_96 : decode prog_1_method_11_code 96 = .ok (.aload_n 0, 1) := by decide +kernel
theorem d_RN_sqrt_97 : decode prog_1_method_11_code 97 = .ok (.aload 4, 2) := by decide +kernel
theorem d_RN_sqrt_99 : decode prog_1_method_11_code 99 = .ok (.invokevirtual 112, 3) := by decide +kernel
theorem d_RN_sqrt_102 : decode prog_1_method_11_code 102 = .ok (.aload_n 0, 1) := by decide +kernel
theorem d_RN_sqrt_103 : decode prog_1_method_11_code 103 = .ok (.iload_n 1, 1) := by decide +kernel
theorem d_RN_sqrt_104 : decode prog_1_method_11_code 104 = .ok (.iconst 1, 1) := by decide +kernel
theorem d_RN_sqrt_105 : decode prog_1_method_11_code 105 = .ok (.iload_n 3, 1) := by decide +kernel
theorem d_RN_sqrt_106 : decode prog_1_method_11_code 106 = .ok (.invokevirtual 109, 3) := by decide +kernel
theorem d_RN_sqrt_109 : decode prog_1_method_11_code 109 = .ok (.ireturn, 1) := by decide +kernel
def RN_sqrt_43 (L1 : Int32) (L4 : Nat) (st : rn_S) : Int32 × rn_S := bd (RN_storePlain st L1 (rn_kd st L4) (rn_sg st L4)) (fun r55 t55 => (r55, t55))
def RN_sqrt (st : rn_S) (p0 : Int32) (p1 : Int32) (p2 : Int32) : Int32 × rn_S := nm (RN_isTarget p0 p2) (fun r2 => (if r2 = 0 then ((9 : Int32), st) else nm (RN_isRegister p1) (fun r9 => (if r9 = 0 then ((9 : Int32), st) else (if (rn_kd st p1.toNatClampNeg) = 0 then RN_sqrt_43 p0 p1.toNatClampNeg st else (if (rn_kd st p1.toNatClampNeg) = (2 : Int32) then RN_sqrt_43 p0 p1.toNatClampNeg st else (if 0 ≤ (rn_sg st p1.toNatClampNeg) then (if (rn_kd st p1.toNatClampNeg) = (1 : Int32) then bd (RN_storePlain st p0 (1 : Int32) (rn_sg st p1.toNatClampNeg)) (fun r92 t92 => (r92, t92)) else nm (RN_workOutRoot st p1.toNatClampNeg) (fun t99 => bd (RN_storeExact t99 p0 (1 : Int32) p2) (fun r106 t106 => (r106, t106)))) else bd (RN_storePlain st p0 (0 : Int32) (0 : Int32)) (fun r71 t71 => (r71, t71)))))))))
set_option maxHeartbeats 4000000 in
set_option maxRecDepth 100000 in
theorem c_RN_sqrt (l : Launch) {D : va_G} (a : Nat → Nat) (ci co : ClassId) (hi : rn_inj a) (st : rn_S) (p0 : Int32) (p1 : Int32) (p2 : Int32) (r0 : Int32) (t0 : rn_S) (hF : RN_sqrt st p0 p1 p2 = (r0, t0)) : ct_i l ⟨"RoundedNumbers", "sqrt", "(III)I"⟩ (.code ⟨"RoundedNumbers", "sqrt", "(III)I"⟩ prog_1_method_11_code 5 (some .int) :: ct_T) { frames := 5, cells := 0, slots := 0, locals := 126 } D vwCl (rn_T ci co) (rn_g a ci co) (rn_X a) [.ref (a 0), .int p0, .int p1, .int p2] st r0 t0 := by
  refine ct_i.mk (cc := prog_1_method_11_code) (maxL := 5) (by decide) rfl (Nat.le_of_ble_eq_true rfl) ?_
  intro p e s m below meth c hx hb hr hml hown hts hlk hK hN hP hS ls hl
  have hown : s.vm.findClass "RoundedNumbers" = some m.cls := hown
  have hl : lv_has ls 5 [(0, .ref (a 0)), (1, .int p0), (2, .int p1), (3, .int p2)] := hl
  have htb := fun w h => hts w (List.mem_cons_of_mem _ h)
  unfold RN_sqrt at hF
  refine lv_iload_n hx hb d_RN_sqrt_0 rfl (lv_at hl 1 rfl) ?_
  refine lv_iload_n hx hb d_RN_sqrt_1 rfl (lv_at hl 3 rfl) ?_
  obtain ⟨r2, e2⟩ := nm_ex (RN_isTarget p0 p2)
  replace hF := (nm_eq e2).symm.trans hF
  refine ct_calli (va_runS (As := [.int p0, .int p2]) (rest := []) ⟨hx, hb, hml, hown, hts⟩ (c_RN_isTarget l (D := D) a ci co hi st p0 p2 _ e2 _) (kc_RN_72 hts ⟨by decide, by decide⟩) ⟨ct_blind, ct_ok hP hK hN⟩ rfl rfl hl.1 rfl (lv_room (Nat.le_of_ble_eq_true rfl)) d_RN_sqrt_2 ⟨Nat.zero_le _, Nat.zero_le _⟩) hS (fun H locs hP hS => ?_)
  refine lv_if_eq hx hb d_RN_sqrt_5 (tgt := 15) (by decide) (fun c5 => ?_) (fun c5 => ?_)
  · replace hF := (if_pos c5).symm.trans hF
    refine lv_bipush (v := 9) hx hb d_RN_sqrt_15 (by decide) ?_
    obtain ⟨rfl, rfl⟩ := Prod.mk.inj hF
    exact ct_iret hx hb hr hlk hP hS d_RN_sqrt_17
  · replace hF := (if_neg c5).symm.trans hF
    refine lv_iload_n hx hb d_RN_sqrt_8 rfl (lv_at hl 2 rfl) ?_
    obtain ⟨r9, e9⟩ := nm_ex (RN_isRegister p1)
    replace hF := (nm_eq e9).symm.trans hF
    refine ct_calli (va_runS (As := [.int p1]) (rest := []) ⟨hx, hb, hml, hown, hts⟩ (c_RN_isRegister l (D := D) a ci co hi st p1 _ e9 _) (kc_RN_64 hts ⟨by decide, by decide⟩) ⟨ct_blind, ct_ok hP hK hN⟩ rfl rfl hl.1 rfl (lv_room (Nat.le_of_ble_eq_true rfl)) d_RN_sqrt_9 ⟨Nat.zero_le _, Nat.zero_le _⟩) hS (fun H locs hP hS => ?_)
    refine lv_if_ne hx hb d_RN_sqrt_12 (tgt := 18) (by decide) (fun c12 => ?_) (fun c12 => ?_)
    · replace hF := (if_neg c12).symm.trans hF
      refine lv_aload_n hx hb d_RN_sqrt_18 rfl (lv_at hl 0 rfl) ?_
      refine gf_RN_15 hx hb htb hown hK hP d_RN_sqrt_19 ?_
      refine lv_iload_n hx hb d_RN_sqrt_22 rfl (lv_at hl 2 rfl) ?_
      refine rn_ald_regs hx hb hK hP (rg_in e9 c12) d_RN_sqrt_23 ?_
      refine lv_astore (lv' := [(4, .ref (a (8 + p1.toNatClampNeg))), (0, .ref (a 0)), (1, .int p0), (2, .int p1), (3, .int p2)]) hx hb d_RN_sqrt_24 hl (by decide) rfl (fun ls hl => ?_)
      refine lv_aload hx hb d_RN_sqrt_26 (lv_at hl 0 rfl) ?_
      refine gf_RN_96 hx hb htb hown hK hP (i := p1.toNatClampNeg) (rn_lt10 (rg_in e9 c12)) d_RN_sqrt_28 ?_
      refine ct_cut0 (fun  ls H locs => lv_has ls 5 [(4, .ref (a (8 + p1.toNatClampNeg))), (0, .ref (a 0)), (1, .int p0)] ∧ RN_sqrt_43 p0 p1.toNatClampNeg st = (r0, t0) ∧ va_P D vwCl (rn_g a ci co st) H ∧ va_S (ct_F (rn_X a) s.heap.size) s.heap H locs) 43 [] ?_ ?_
      · intro ls H locs hq
        obtain ⟨hl, hF, hP, hS⟩ := hq
        unfold RN_sqrt_43 at hF
        refine lv_aload_n hx hb d_RN_sqrt_43 rfl (lv_at hl 1 rfl) ?_
        refine lv_iload_n hx hb d_RN_sqrt_44 rfl (lv_at hl 2 rfl) ?_
        refine lv_aload hx hb d_RN_sqrt_45 (lv_at hl 0 rfl) ?_
        refine gf_RN_96 hx hb htb hown hK hP (i := p1.toNatClampNeg) (rn_lt10 (rg_in e9 c12)) d_RN_sqrt_47 ?_
        refine lv_aload hx hb d_RN_sqrt_50 (lv_at hl 0 rfl) ?_
        refine gf_RN_80 hx hb htb hown hK hP (i := p1.toNatClampNeg) (rn_lt10 (rg_in e9 c12)) d_RN_sqrt_52 ?_
        obtain ⟨r55, t55, e55⟩ := bd_ex (RN_storePlain st p0 (rn_kd st p1.toNatClampNeg) (rn_sg st p1.toNatClampNeg))
        replace hF := (bd_eq e55).symm.trans hF
        refine ct_calli (va_runV (As := [.int p0, .int (rn_kd st p1.toNatClampNeg), .int (rn_sg st p1.toNatClampNeg)]) (rest := []) ⟨hx, hb, hml, hown, hts⟩ (c_RN_storePlain l (D := D) a ci co hi st p0 (rn_kd st p1.toNatClampNeg) (rn_sg st p1.toNatClampNeg) (tg_in e2 c5) _ _ e55 _) (kc_RN_102 hts ⟨by decide, by decide⟩) ⟨ct_blind, rn_rc0 hK hP, ct_ok hP hK hN⟩ rfl rfl hl.1 rfl (lv_room (Nat.le_of_ble_eq_true rfl)) d_RN_sqrt_55 ⟨Nat.zero_le _, Nat.zero_le _⟩) hS (fun H locs hP hS => ?_)
        obtain ⟨rfl, rfl⟩ := Prod.mk.inj hF
        exact ct_iret hx hb hr hlk hP hS d_RN_sqrt_58
      · intro kj43
        refine lv_if_eq hx hb d_RN_sqrt_31 (tgt := 43) (by decide) (fun c31 => ?_) (fun c31 => ?_)
        · replace hF := (if_pos c31).symm.trans hF
          exact kj43 _ _ _ ⟨lv_sub hl [0, 1, 2] rfl, hF, hP, hS⟩
        · replace hF := (if_neg c31).symm.trans hF
          refine lv_aload hx hb d_RN_sqrt_34 (lv_at hl 0 rfl) ?_
          refine gf_RN_96 hx hb htb hown hK hP (i := p1.toNatClampNeg) (rn_lt10 (rg_in e9 c12)) d_RN_sqrt_36 ?_
          refine lv_iconst (v := 2) hx hb d_RN_sqrt_39 (by decide) ?_
          refine lv_icmp_ne hx hb d_RN_sqrt_40 (tgt := 59) (by decide) (fun c40 => ?_) (fun c40 => ?_)
          · replace hF := (if_neg c40).symm.trans hF
            refine lv_aload hx hb d_RN_sqrt_59 (lv_at hl 0 rfl) ?_
            refine gf_RN_80 hx hb htb hown hK hP (i := p1.toNatClampNeg) (rn_lt10 (rg_in e9 c12)) d_RN_sqrt_61 ?_
            refine lv_if_ge hx hb d_RN_sqrt_64 (tgt := 75) (by decide) (fun c64 => ?_) (fun c64 => ?_)
            · replace hF := (if_pos c64).symm.trans hF
              refine lv_aload hx hb d_RN_sqrt_75 (lv_at hl 0 rfl) ?_
              refine gf_RN_96 hx hb htb hown hK hP (i := p1.toNatClampNeg) (rn_lt10 (rg_in e9 c12)) d_RN_sqrt_77 ?_
              refine lv_iconst (v := 1) hx hb d_RN_sqrt_80 (by decide) ?_
              refine lv_icmp_ne hx hb d_RN_sqrt_81 (tgt := 96) (by decide) (fun c81 => ?_) (fun c81 => ?_)
              · replace hF := (if_neg c81).symm.trans hF
                refine lv_aload_n hx hb d_RN_sqrt_96 rfl (lv_at hl 1 rfl) ?_
                refine lv_aload hx hb d_RN_sqrt_97 (lv_at hl 0 rfl) ?_
                obtain ⟨t99, e99⟩ := nm_ex (RN_workOutRoot st p1.toNatClampNeg)
                replace hF := (nm_eq e99).symm.trans hF
                refine ct_callv (va_runV (As := [.ref (a (8 + p1.toNatClampNeg))]) (rest := []) ⟨hx, hb, hml, hown, hts⟩ (c_RN_workOutRoot l (D := D) a ci co hi st p1.toNatClampNeg (rn_lt10 (rg_in e9 c12)) _ e99 _) (kc_RN_112 hts ⟨by decide, by decide⟩) ⟨ct_blind, rn_rc0 hK hP, ct_ok hP hK hN⟩ rfl rfl hl.1 rfl (lv_room (Nat.le_of_ble_eq_true rfl)) d_RN_sqrt_99 ⟨Nat.zero_le _, Nat.zero_le _⟩) hS (fun H locs hP hS => ?_)
                refine lv_aload_n hx hb d_RN_sqrt_102 rfl (lv_at hl 1 rfl) ?_
                refine lv_iload_n hx hb d_RN_sqrt_103 rfl (lv_at hl 2 rfl) ?_
                refine lv_iconst (v := 1) hx hb d_RN_sqrt_104 (by decide) ?_
                refine lv_iload_n hx hb d_RN_sqrt_105 rfl (lv_at hl 4 rfl) ?_
                obtain ⟨r106, t106, e106⟩ := bd_ex (RN_storeExact t99 p0 (1 : Int32) p2)
                replace hF := (bd_eq e106).symm.trans hF
                refine ct_calli (va_runV (As := [.int p0, .int (1 : Int32), .int p2]) (rest := []) ⟨hx, hb, hml, hown, hts⟩ (c_RN_storeExact l (D := D) a ci co hi t99 p0 (1 : Int32) p2 (tg_in e2 c5) _ _ e106 _) (kc_RN_109 hts ⟨by decide, by decide⟩) ⟨ct_blind, rn_rc0 hK hP, ct_ok hP hK hN⟩ rfl rfl hl.1 rfl (lv_room (Nat.le_of_ble_eq_true rfl)) d_RN_sqrt_106 ⟨Nat.zero_le _, Nat.zero_le _⟩) hS (fun H locs hP hS => ?_)
                obtain ⟨rfl, rfl⟩ := Prod.mk.inj hF
                exact ct_iret hx hb hr hlk hP hS d_RN_sqrt_109
              · replace hF := (if_pos c81).symm.trans hF
                refine lv_aload_n hx hb d_RN_sqrt_84 rfl (lv_at hl 1 rfl) ?_
                refine lv_iload_n hx hb d_RN_sqrt_85 rfl (lv_at hl 2 rfl) ?_
                refine lv_iconst (v := 1) hx hb d_RN_sqrt_86 (by decide) ?_
                refine lv_aload hx hb d_RN_sqrt_87 (lv_at hl 0 rfl) ?_
                refine gf_RN_80 hx hb htb hown hK hP (i := p1.toNatClampNeg) (rn_lt10 (rg_in e9 c12)) d_RN_sqrt_89 ?_
                obtain ⟨r92, t92, e92⟩ := bd_ex (RN_storePlain st p0 (1 : Int32) (rn_sg st p1.toNatClampNeg))
                replace hF := (bd_eq e92).symm.trans hF
                refine ct_calli (va_runV (As := [.int p0, .int (1 : Int32), .int (rn_sg st p1.toNatClampNeg)]) (rest := []) ⟨hx, hb, hml, hown, hts⟩ (c_RN_storePlain l (D := D) a ci co hi st p0 (1 : Int32) (rn_sg st p1.toNatClampNeg) (tg_in e2 c5) _ _ e92 _) (kc_RN_102 hts ⟨by decide, by decide⟩) ⟨ct_blind, rn_rc0 hK hP, ct_ok hP hK hN⟩ rfl rfl hl.1 rfl (lv_room (Nat.le_of_ble_eq_true rfl)) d_RN_sqrt_92 ⟨Nat.zero_le _, Nat.zero_le _⟩) hS (fun H locs hP hS => ?_)
                obtain ⟨rfl, rfl⟩ := Prod.mk.inj hF
                exact ct_iret hx hb hr hlk hP hS d_RN_sqrt_95
            · replace hF := (if_neg c64).symm.trans hF
              refine lv_aload_n hx hb d_RN_sqrt_67 rfl (lv_at hl 1 rfl) ?_
              refine lv_iload_n hx hb d_RN_sqrt_68 rfl (lv_at hl 2 rfl) ?_
              refine lv_iconst (v := 0) hx hb d_RN_sqrt_69 (by decide) ?_
              refine lv_iconst (v := 0) hx hb d_RN_sqrt_70 (by decide) ?_
              obtain ⟨r71, t71, e71⟩ := bd_ex (RN_storePlain st p0 (0 : Int32) (0 : Int32))
              replace hF := (bd_eq e71).symm.trans hF
              refine ct_calli (va_runV (As := [.int p0, .int (0 : Int32), .int (0 : Int32)]) (rest := []) ⟨hx, hb, hml, hown, hts⟩ (c_RN_storePlain l (D := D) a ci co hi st p0 (0 : Int32) (0 : Int32) (tg_in e2 c5) _ _ e71 _) (kc_RN_102 hts ⟨by decide, by decide⟩) ⟨ct_blind, rn_rc0 hK hP, ct_ok hP hK hN⟩ rfl rfl hl.1 rfl (lv_room (Nat.le_of_ble_eq_true rfl)) d_RN_sqrt_71 ⟨Nat.zero_le _, Nat.zero_le _⟩) hS (fun H locs hP hS => ?_)
              obtain ⟨rfl, rfl⟩ := Prod.mk.inj hF
              exact ct_iret hx hb hr hlk hP hS d_RN_sqrt_74
          · replace hF := (if_pos c40).symm.trans hF
            exact kj43 _ _ _ ⟨lv_sub hl [0, 1, 2] rfl, hF, hP, hS⟩
    · replace hF := (if_pos c12).symm.trans hF
      refine lv_bipush (v := 9) hx hb d_RN_sqrt_15 (by decide) ?_
      obtain ⟨rfl, rfl⟩ := Prod.mk.inj hF
      exact ct_iret hx hb hr hlk hP hS d_RN_sqrt_17
theorem d_RN_fma_0 : decode prog_1_method_12_code 0 = .ok (.iload_n 1, 1) := by decide +kernel
theorem d_RN_fma_1 : decode prog_1_method_12_code 1 = .ok (.iload 5, 2) := by decide +kernel
theorem d_RN_fma_3 : decode prog_1_method_12_code 3 = .ok (.invokestatic 72, 3) := by decide +kernel
theorem d_RN_fma_6 : decode prog_1_method_12_code 6 = .ok (.ifCond .eq 25, 3) := by decide +kernel
theorem d_RN_fma_9 : decode prog_1_method_12_code 9 = .ok (.iload_n 2, 1) := by decide +kernel
theorem d_RN_fma_10 : decode prog_1_method_12_code 10 = .ok (.invokestatic 64, 3) := by decide +kernel
theorem d_RN_fma_13 : decode prog_1_method_12_code 13 = .ok (.ifCond .eq 18, 3) := by decide +kernel
theorem d_RN_fma_16 : decode prog_1_method_12_code 16 = .ok (.iload_n 3, 1) := by decide +kernel
theorem d_RN_fma_17 : decode prog_1_method_12_code 17 = .ok (.invokestatic 64, 3) := by decide +kernel
theorem d_RN_fma_20 : decode prog_1_method_12_code 20 = .ok (.ifCond .eq 11, 3) := by decide +kernel
theorem d_RN_fma_23 : decode prog_1_method_12_code 23 = .ok (.iload 4, 2) := by decide +kernel
theorem d_RN_fma_25 : decode prog_1_method_12_code 25 = .ok (.invokestatic 64, 3) := by decide +kernel
theorem d_RN_fma_28 : decode prog_1_method_12_code 28 = .ok (.ifCond .ne 6, 3) := by decide +kernel
theorem d_RN_fma_31 : decode prog_1_method_12_code 31 = .ok (.bipush 9, 2) := by decide +kernel
theorem d_RN_fma_33 : decode prog_1_method_12_code 33 = .ok (.ireturn, 1) := by decide +kernel
theorem d_RN_fma_34 : decode prog_1_method_12_code 34 = .ok (.aload_n 0, 1) := by decide +kernel
theorem d_RN_fma_35 : decode prog_1_method_12_code 35 = .ok (.getfield 26, 3) := by decide +kernel
theorem d_RN_fma_38 : decode prog_1_method_12_code 38 = .ok (.aload_n 0, 1) := by decide +kernel
theorem d_RN_fma_39 : decode prog_1_method_12_code 39 = .ok (.getfield 15, 3) := by decide +kernel
theorem d_RN_fma_42 : decode prog_1_method_12_code 42 = .ok (.iload_n 2, 1) := by decide +kernel
theorem d_RN_fma_43 : decode prog_1_method_12_code 43 = .ok (.aaload, 1) := by decide +kernel
theorem d_RN_fma_44 : decode prog_1_method_12_code 44 = .ok (.aload_n 0, 1) := by decide +kernel
theorem d_RN_fma_45 : decode prog_1_method_12_code 45 = .ok (.getfield 15, 3) := by decide +kernel
theorem d_RN_fma_48 : decode prog_1_method_12_code 48 = .ok (.iload_n 3, 1) := by decide +kernel
theorem d_RN_fma_49 : decode prog_1_method_12_code 49 = .ok (.aaload, 1) := by decide +kernel
theorem d_RN_fma_50 : decode prog_1_method_12_code 50 = .ok (.invokevirtual 92, 3) := by decide +kernel
theorem d_RN_fma_53 : decode prog_1_method_12_code 53 = .ok (.aload_n 0, 1) := by decide +kernel
theorem d_RN_fma_54 : decode prog_1_method_12_code 54 = .ok (.iload_n 1, 1) := by decide +kernel
theorem d_RN_fma_55 : decode prog_1_method_12_code 55 = .ok (.aload_n 0, 1) := by decide +kernel
theorem d_RN_fma_56 : decode prog_1_method_12_code 56 = .ok (.getfield 26, 3) := by decide +kernel
theorem d_RN_fma_59 : decode prog_1_method_12_code 59 = .ok (.aload_n 0, 1) := by decide +kernel
theorem d_RN_fma_60 : decode prog_1_method_12_code 60 = .ok (.getfield 15, 3) := by decide +kernel
theorem d_RN_fma_63 : decode prog_1_method_12_code 63 = .ok (.iload 4, 2) := by decide +kernel
theorem d_RN_fma_65 : decode prog_1_method_12_code 65 = .ok (.aaload, 1) := by decide +kernel
theorem d_RN_fma_66 : decode prog_1_method_12_code 66 = .ok (.aload_n 0, 1) := by decide +kernel
theorem d_RN_fma_67 : decode prog_1_method_12_code 67 = .ok (.getfield 15, 3) := by decide +kernel
theorem d_RN_fma_70 : decode prog_1_method_12_code 70 = .ok (.iload 4, 2) := by decide +kernel
theorem d_RN_fma_72 : decode prog_1_method_12_code 72 = .ok (.aaload, 1) := by decide +kernel
theorem d_RN_fma_73 : decode prog_1_method_12_code 73 = .ok (.getfield 80, 3) := by decide +kernel
theorem d_RN_fma_76 : decode prog_1_method_12_code 76 = .ok (.iload 5, 2) := by decide +kernel
theorem d_RN_fma_78 : decode prog_1_method_12_code 78 = .ok (.invokevirtual 88, 3) := by decide +kernel
theorem d_RN_fma_81 : decode prog_1_method_12_code 81 = .ok (.ireturn, 1) := by decide +kernel
def RN_fma (st : rn_S) (p0 : Int32) (p1 : Int32) (p2 : Int32) (p3 : Int32) (p4 : Int32) : Int32 × rn_S := nm (RN_isTarget p0 p4) (fun r3 => (if r3 = 0 then ((9 : Int32), st) else nm (RN_isRegister p1) (fun r10 => (if r10 = 0 then ((9 : Int32), st) else nm (RN_isRegister p2) (fun r17 => (if r17 = 0 then ((9 : Int32), st) else nm (RN_isRegister p3) (fun r25 => (if r25 = 0 then ((9 : Int32), st) else nm (RV_takeProduct st 9 p1.toNatClampNeg p2.toNatClampNeg) (fun t50 => bd (RN_storeSum t50 p0 9 p3.toNatClampNeg (rn_sg t50 p3.toNatClampNeg) p4) (fun r78 t78 => (r78, t78)))))))))))
set_option maxHeartbeats 4000000 in
set_option maxRecDepth 100000 in
theorem c_RN_fma (l : Launch) {D : va_G} (a : Nat → Nat) (ci co : ClassId) (hi : rn_inj a) (st : rn_S) (p0 : Int32) (p1 : Int32) (p2 : Int32) (p3 : Int32) (p4 : Int32) (r0 : Int32) (t0 : rn_S) (hF : RN_fma st p0 p1 p2 p3 p4 = (r0, t0)) : ct_i l ⟨"RoundedNumbers", "fma", "(IIIII)I"⟩ (.code ⟨"RoundedNumbers", "fma", "(IIIII)I"⟩ prog_1_method_12_code 6 (some .int) :: ct_T) { frames := 6, cells := 0, slots := 0, locals := 152 } D vwCl (rn_T ci co) (rn_g a ci co) (rn_X a) [.ref (a 0), .int p0, .int p1, .int p2, .int p3, .int p4] st r0 t0 := by
  refine ct_i.mk (cc := prog_1_method_12_code) (maxL := 6) (by decide) rfl (Nat.le_of_ble_eq_true rfl) ?_
  intro p e s m below meth c hx hb hr hml hown hts hlk hK hN hP hS ls hl
  have hown : s.vm.findClass "RoundedNumbers" = some m.cls := hown
  have hl : lv_has ls 6 [(0, .ref (a 0)), (1, .int p0), (2, .int p1), (3, .int p2), (4, .int p3), (5, .int p4)] := hl
  have htb := fun w h => hts w (List.mem_cons_of_mem _ h)
  unfold RN_fma at hF
  refine lv_iload_n hx hb d_RN_fma_0 rfl (lv_at hl 1 rfl) ?_
  refine lv_iload hx hb d_RN_fma_1 (lv_at hl 5 rfl) ?_
  obtain ⟨r3, e3⟩ := nm_ex (RN_isTarget p0 p4)
  replace hF := (nm_eq e3).symm.trans hF
  refine ct_calli (va_runS (As := [.int p0, .int p4]) (rest := []) ⟨hx, hb, hml, hown, hts⟩ (c_RN_isTarget l (D := D) a ci co hi st p0 p4 _ e3 _) (kc_RN_72 hts ⟨by decide, by decide⟩) ⟨ct_blind, ct_ok hP hK hN⟩ rfl rfl hl.1 rfl (lv_room (Nat.le_of_ble_eq_true rfl)) d_RN_fma_3 ⟨Nat.zero_le _, Nat.zero_le _⟩) hS (fun H locs hP hS => ?_)
  refine lv_if_eq hx hb d_RN_fma_6 (tgt := 31) (by decide) (fun c6 => ?_) (fun c6 => ?_)
  · replace hF := (if_pos c6).symm.trans hF
    refine lv_bipush (v := 9) hx hb d_RN_fma_31 (by decide) ?_
    obtain ⟨rfl, rfl⟩ := Prod.mk.inj hF
    exact ct_iret hx hb hr hlk hP hS d_RN_fma_33
  · replace hF := (if_neg c6).symm.trans hF
    refine lv_iload_n hx hb d_RN_fma_9 rfl (lv_at hl 2 rfl) ?_
    obtain ⟨r10, e10⟩ := nm_ex (RN_isRegister p1)
    replace hF := (nm_eq e10).symm.trans hF
    refine ct_calli (va_runS (As := [.int p1]) (rest := []) ⟨hx, hb, hml, hown, hts⟩ (c_RN_isRegister l (D := D) a ci co hi st p1 _ e10 _) (kc_RN_64 hts ⟨by decide, by decide⟩) ⟨ct_blind, ct_ok hP hK hN⟩ rfl rfl hl.1 rfl (lv_room (Nat.le_of_ble_eq_true rfl)) d_RN_fma_10 ⟨Nat.zero_le _, Nat.zero_le _⟩) hS (fun H locs hP hS => ?_)
    refine lv_if_eq hx hb d_RN_fma_13 (tgt := 31) (by decide) (fun c13 => ?_) (fun c13 => ?_)
    · replace hF := (if_pos c13).symm.trans hF
      refine lv_bipush (v := 9) hx hb d_RN_fma_31 (by decide) ?_
      obtain ⟨rfl, rfl⟩ := Prod.mk.inj hF
      exact ct_iret hx hb hr hlk hP hS d_RN_fma_33
    · replace hF := (if_neg c13).symm.trans hF
      refine lv_iload_n hx hb d_RN_fma_16 rfl (lv_at hl 3 rfl) ?_
      obtain ⟨r17, e17⟩ := nm_ex (RN_isRegister p2)
      replace hF := (nm_eq e17).symm.trans hF
      refine ct_calli (va_runS (As := [.int p2]) (rest := []) ⟨hx, hb, hml, hown, hts⟩ (c_RN_isRegister l (D := D) a ci co hi st p2 _ e17 _) (kc_RN_64 hts ⟨by decide, by decide⟩) ⟨ct_blind, ct_ok hP hK hN⟩ rfl rfl hl.1 rfl (lv_room (Nat.le_of_ble_eq_true rfl)) d_RN_fma_17 ⟨Nat.zero_le _, Nat.zero_le _⟩) hS (fun H locs hP hS => ?_)
      refine lv_if_eq hx hb d_RN_fma_20 (tgt := 31) (by decide) (fun c20 => ?_) (fun c20 => ?_)
      · replace hF := (if_pos c20).symm.trans hF
        refine lv_bipush (v := 9) hx hb d_RN_fma_31 (by decide) ?_
        obtain ⟨rfl, rfl⟩ := Prod.mk.inj hF
        exact ct_iret hx hb hr hlk hP hS d_RN_fma_33
      · replace hF := (if_neg c20).symm.trans hF
        refine lv_iload hx hb d_RN_fma_23 (lv_at hl 4 rfl) ?_
        obtain ⟨r25, e25⟩ := nm_ex (RN_isRegister p3)
        replace hF := (nm_eq e25).symm.trans hF
        refine ct_calli (va_runS (As := [.int p3]) (rest := []) ⟨hx, hb, hml, hown, hts⟩ (c_RN_isRegister l (D := D) a ci co hi st p3 _ e25 _) (kc_RN_64 hts ⟨by decide, by decide⟩) ⟨ct_blind, ct_ok hP hK hN⟩ rfl rfl hl.1 rfl (lv_room (Nat.le_of_ble_eq_true rfl)) d_RN_fma_25 ⟨Nat.zero_le _, Nat.zero_le _⟩) hS (fun H locs hP hS => ?_)
        refine lv_if_ne hx hb d_RN_fma_28 (tgt := 34) (by decide) (fun c28 => ?_) (fun c28 => ?_)
        · replace hF := (if_neg c28).symm.trans hF
          refine lv_aload_n hx hb d_RN_fma_34 rfl (lv_at hl 0 rfl) ?_
          refine gf_RN_26 hx hb htb hown hK hP d_RN_fma_35 ?_
          refine lv_aload_n hx hb d_RN_fma_38 rfl (lv_at hl 0 rfl) ?_
          refine gf_RN_15 hx hb htb hown hK hP d_RN_fma_39 ?_
          refine lv_iload_n hx hb d_RN_fma_42 rfl (lv_at hl 2 rfl) ?_
          refine rn_ald_regs hx hb hK hP (rg_in e10 c13) d_RN_fma_43 ?_
          refine lv_aload_n hx hb d_RN_fma_44 rfl (lv_at hl 0 rfl) ?_
          refine gf_RN_15 hx hb htb hown hK hP d_RN_fma_45 ?_
          refine lv_iload_n hx hb d_RN_fma_48 rfl (lv_at hl 3 rfl) ?_
          refine rn_ald_regs hx hb hK hP (rg_in e17 c20) d_RN_fma_49 ?_
          obtain ⟨t50, e50⟩ := nm_ex (RV_takeProduct st 9 p1.toNatClampNeg p2.toNatClampNeg)
          replace hF := (nm_eq e50).symm.trans hF
          refine ct_callv (va_runV (As := [.ref (a (8 + p1.toNatClampNeg)), .ref (a (8 + p2.toNatClampNeg))]) (rest := []) ⟨hx, hb, hml, hown, hts⟩ (c_RV_takeProduct l (D := D) a ci co hi st 9 p1.toNatClampNeg p2.toNatClampNeg (by decide) (rn_lt10 (rg_in e10 c13)) (rn_lt10 (rg_in e17 c20)) rfl _ e50 _) (kc_RN_92 hts ⟨by decide, by decide⟩) ⟨ct_blind, rn_rc1 hK hP (by decide), ct_ok hP hK hN⟩ rfl rfl hl.1 rfl (lv_room (Nat.le_of_ble_eq_true rfl)) d_RN_fma_50 ⟨Nat.zero_le _, Nat.zero_le _⟩) hS (fun H locs hP hS => ?_)
          refine lv_aload_n hx hb d_RN_fma_53 rfl (lv_at hl 0 rfl) ?_
          refine lv_iload_n hx hb d_RN_fma_54 rfl (lv_at hl 1 rfl) ?_
          refine lv_aload_n hx hb d_RN_fma_55 rfl (lv_at hl 0 rfl) ?_
          refine gf_RN_26 hx hb htb hown hK hP d_RN_fma_56 ?_
          refine lv_aload_n hx hb d_RN_fma_59 rfl (lv_at hl 0 rfl) ?_
          refine gf_RN_15 hx hb htb hown hK hP d_RN_fma_60 ?_
          refine lv_iload hx hb d_RN_fma_63 (lv_at hl 4 rfl) ?_
          refine rn_ald_regs hx hb hK hP (rg_in e25 c28) d_RN_fma_65 ?_
          refine lv_aload_n hx hb d_RN_fma_66 rfl (lv_at hl 0 rfl) ?_
          refine gf_RN_15 hx hb htb hown hK hP d_RN_fma_67 ?_
          refine lv_iload hx hb d_RN_fma_70 (lv_at hl 4 rfl) ?_
          refine rn_ald_regs hx hb hK hP (rg_in e25 c28) d_RN_fma_72 ?_
          refine gf_RN_80 hx hb htb hown hK hP (i := p3.toNatClampNeg) (rn_lt10 (rg_in e25 c28)) d_RN_fma_73 ?_
          refine lv_iload hx hb d_RN_fma_76 (lv_at hl 5 rfl) ?_
          obtain ⟨r78, t78, e78⟩ := bd_ex (RN_storeSum t50 p0 9 p3.toNatClampNeg (rn_sg t50 p3.toNatClampNeg) p4)
          replace hF := (bd_eq e78).symm.trans hF
          refine ct_calli (va_runV (As := [.int p0, .ref (a (8 + 9)), .ref (a (8 + p3.toNatClampNeg)), .int (rn_sg t50 p3.toNatClampNeg), .int p4]) (rest := []) ⟨hx, hb, hml, hown, hts⟩ (c_RN_storeSum l (D := D) a ci co hi t50 p0 9 p3.toNatClampNeg (rn_sg t50 p3.toNatClampNeg) p4 (by decide) (rn_lt10 (rg_in e25 c28)) (tg_in e3 c6) _ _ e78 _) (kc_RN_88 hts ⟨by decide, by decide⟩) ⟨ct_blind, rn_rc0 hK hP, ct_ok hP hK hN⟩ rfl rfl hl.1 rfl (lv_room (Nat.le_of_ble_eq_true rfl)) d_RN_fma_78 ⟨Nat.zero_le _, Nat.zero_le _⟩) hS (fun H locs hP hS => ?_)
          obtain ⟨rfl, rfl⟩ := Prod.mk.inj hF
          exact ct_iret hx hb hr hlk hP hS d_RN_fma_81
        · replace hF := (if_pos c28).symm.trans hF
          refine lv_bipush (v := 9) hx hb d_RN_fma_31 (by decide) ?_
          obtain ⟨rfl, rfl⟩ := Prod.mk.inj hF
          exact ct_iret hx hb hr hlk hP hS d_RN_fma_33
theorem d_RN_cmp_0 : decode prog_1_method_13_code 0 = .ok (.iload_n 1, 1) := by decide +kernel
theorem d_RN_cmp_1 : decode prog_1_method_13_code 1 = .ok (.invokestatic 64, 3) := by decide +kernel
theorem d_RN_cmp_4 : decode prog_1_method_13_code 4 = .ok (.ifCond .eq 10, 3) := by decide +kernel
theorem d_RN_cmp_7 : decode prog_1_method_13_code 7 = .ok (.iload_n 2, 1) := by decide +kernel
theorem d_RN_cmp_8 : decode prog_1_method_13_code 8 = .ok (.invokestatic 64, 3) := by decide +kernel
theorem d_RN_cmp_11 : decode prog_1_method_13_code 11 = .ok (.ifCond .ne 5, 3) := by decide +kernel
theorem d_RN_cmp_14 : decode prog_1_method_13_code 14 = .ok (.iconst 2, 1) := by decide +kernel
theorem d_RN_cmp_15 : decode prog_1_method_13_code 15 = .ok (.ireturn, 1) := by decide +kernel
theorem d_RN_cmp_16 : decode prog_1_method_13_code 16 = .ok (.aload_n 0, 1) := by decide +kernel
theorem d_RN_cmp_17 : decode prog_1_method_13_code 17 = .ok (.getfield 15, 3) := by decide +kernel
theorem d_RN_cmp_20 : decode prog_1_method_13_code 20 = .ok (.iload_n 1, 1) := by decide +kernel
theorem d_RN_cmp_21 : decode prog_1_method_13_code 21 = .ok (.aaload, 1) := by decide +kernel
theorem d_RN_cmp_22 : decode prog_1_method_13_code 22 = .ok (.astore_n 3, 1) := by decide +kernel
theorem d_RN_cmp_23 : decode prog_1_method_13_code 23 = .ok (.aload_n 0, 1) := by decide +kernel
theorem d_RN_cmp_24 : decode prog_1_method_13_code 24 = .ok (.getfield 15, 3) := by decide +kernel
theorem d_RN_cmp_27 : decode prog_1_method_13_code 27 = .ok (.iload_n 2, 1) := by decide +kernel
theorem d_RN_cmp_28 : decode prog_1_method_13_code 28 = .ok (.aaload, 1) := by decide +kernel
theorem d_RN_cmp_29 : decode prog_1_method_13_code 29 = .ok (.astore 4, 2) := by decide +kernel
theorem d_RN_cmp_31 : decode prog_1_method_13_code 31 = .ok (.aload_n 3, 1) := by decide +kernel
theorem d_RN_cmp_32 : decode prog_1_method_13_code 32 = .ok (.getfield 96, 3) := by decide +kernel
theorem d_RN_cmp_35 : decode prog_1_method_13_code 35 = .ok (.ifCond .eq 11, 3) := by decide +kernel
theorem d_RN_cmp_38 : decode prog_1_method_13_code 38 = .ok (.aload 4, 2) := by decide +kernel
theorem d_RN_cmp_40 : decode prog_1_method_13_code 40 = .ok (.getfield 96, 3) := by decide +kernel
theorem d_RN_cmp_43 : decode prog_1_method_13_code 43 = .ok (.ifCond .ne 5, 3) := by decide +kernel
theorem d_RN_cmp_46 : decode prog_1_method_13_code 46 = .ok (.iconst 2, 1) := by decide +kernel
theorem d_RN_cmp_47 : decode prog_1_method_13_code 47 = .ok (.ireturn, 1) := by decide +kernel
theorem d_RN_cmp_48 : decode prog_1_method_13_code 48 = .ok (.aload_n 3, 1) := by decide +kernel
theorem d_RN_cmp_49 : decode prog_1_method_13_code 49 = .ok (.getfield 96, 3) := by decide +kernel
theorem d_RN_cmp_52 : decode prog_1_method_13_code 52 = .ok (.iconst 1, 1) := by decide +kernel
theorem d_RN_cmp_53 : decode prog_1_method_13_code 53 = .ok (.if_icmp .eq 12, 3) := by decide +kernel
theorem d_RN_cmp_56 : decode prog_1_method_13_code 56 = .ok (.aload 4, 2) := by decide +kernel
theorem d_RN_cmp_58 : decode prog_1_method_13_code 58 = .ok (.getfield 96, 3) := by decide +kernel
theorem d_RN_cmp_61 : decode prog_1_method_13_code 61 = .ok (.iconst 1, 1) := by decide +kernel
theorem d_RN_cmp_62 : decode prog_1_method_13_code 62 = .ok (.if_icmp .ne 16, 3) := by decide +kernel
theorem d_RN_cmp_65 : decode prog_1_method_13_code 65 = .ok (.aload_n 3, 1) := by decide +kernel
theorem d_RN_cmp_66 : decode prog_1_method_13_code 66 = .ok (.invokevirtual 116, 3) := by decide +kernel
theorem d_RN_cmp_69 : decode prog_1_method_13_code 69 = .ok (.aload 4, 2) := by decide +kernel
theorem d_RN_cmp_71 : decode prog_1_method_13_code 71 = .ok (.invokevirtual 116, 3) := by decide +kernel
theorem d_RN_cmp_74 : decode prog_1_method_13_code 74 = .ok (.invokestatic 120, 3) := by decide +kernel
theorem d_RN_cmp_77 : decode prog_1_method_13_code 77 = .ok (.ireturn, 1) := by decide +kernel
theorem d_RN_cmp_78 : decode prog_1_method_13_code 78 = .ok (.aload_n 0, 1) := by decide +kernel
theorem d_RN_cmp_79 : decode prog_1_method_13_code 79 = .ok (.getfield 32, 3) := by decide +kernel
theorem d_RN_cmp_82 : decode prog_1_method_13_code 82 = .ok (.invokevirtual 125, 3) := by decide +kernel
theorem d_RN_cmp_85 : decode prog_1_method_13_code 85 = .ok (.aload_n 0, 1) := by decide +kernel
theorem d_RN_cmp_86 : decode prog_1_method_13_code 86 = .ok (.getfield 32, 3) := by decide +kernel
theorem d_RN_cmp_89 : decode prog_1_method_13_code 89 = .ok (.aload_n 3, 1) := by decide +kernel
theorem d_RN_cmp_90 : decode prog_1_method_13_code 90 = .ok (.aload_n 3, 1) := by decide +kernel
theorem d_RN_cmp_91 : decode prog_1_method_13_code 91 = .ok (.getfield 80, 3) := by decide +kernel
theorem d_RN_cmp_94 : decode prog_1_method_13_code 94 = .ok (.invokevirtual 128, 3) := by decide +kernel
theorem d_RN_cmp_97 : decode prog_1_method_13_code 97 = .ok (.aload_n 0, 1) := by decide +kernel
theorem d_RN_cmp_98 : decode prog_1_method_13_code 98 = .ok (.getfield 32, 3) := by decide +kernel
theorem d_RN_cmp_101 : decode prog_1_method_13_code 101 = .ok (.aload 4, 2) := by decide +kernel
theorem d_RN_cmp_103 : decode prog_1_method_13_code 103 = .ok (.aload 4, 2) := by decide +kernel
theorem d_RN_cmp_105 : decode prog_1_method_13_code 105 = .ok (.getfield 80, 3) := by decide +kernel
theorem d_RN_cmp_108 : decode prog_1_method_13_code 108 = .ok (.ineg, 1) := by decide +kernel
theorem d_RN_cmp_109 : decode prog_1_method_13_code 109 = .ok (.invokevirtual 128, 3) := by decide +kernel
theorem d_RN_cmp_112 : decode prog_1_method_13_code 112 = .ok (.aload_n 0, 1) := by decide +kernel
theorem d_RN_cmp_113 : decode prog_1_method_13_code 113 = .ok (.getfield 32, 3) := by decide +kernel
theorem d_RN_cmp_116 : decode prog_1_method_13_code 116 = .ok (.invokevirtual 132, 3) := by decide +kernel
theorem d_RN_cmp_119 : decode prog_1_method_13_code 119 = .ok (.ireturn, 1) := by decide +kernel
def RN_cmp_65 (L3 : Nat) (L4 : Nat) (st : rn_S) : Int32 × rn_S := nm (RV_infiniteSign st L3) (fun r66 => nm (RV_infiniteSign st L4) (fun r71 => nm (JI_compare r66 r71) (fun r74 => (r74, st))))
def RN_cmp (st : rn_S) (p0 : Int32) (p1 : Int32) : Int32 × rn_S := nm (RN_isRegister p0) (fun r1 => (if r1 = 0 then ((2 : Int32), st) else nm (RN_isRegister p1) (fun r8 => (if r8 = 0 then ((2 : Int32), st) else (if (rn_kd st p0.toNatClampNeg) = 0 then ((2 : Int32), st) else (if (rn_kd st p1.toNatClampNeg) = 0 then ((2 : Int32), st) else (if (rn_kd st p0.toNatClampNeg) = (1 : Int32) then RN_cmp_65 p0.toNatClampNeg p1.toNatClampNeg st else (if (rn_kd st p1.toNatClampNeg) = (1 : Int32) then RN_cmp_65 p0.toNatClampNeg p1.toNatClampNeg st else nm (RE_clear st) (fun t82 => nm (RE_gather t82 p0.toNatClampNeg (rn_sg t82 p0.toNatClampNeg)) (fun t94 => nm (RE_gather t94 p1.toNatClampNeg (-(rn_sg t94 p1.toNatClampNeg))) (fun t109 => bd (RE_splitSign t109) (fun r116 t116 => (r116, t116)))))))))))))
set_option maxHeartbeats 4000000 in
set_option maxRecDepth 100000 in
theorem c_RN_cmp (l : Launch) {D : va_G} (a : Nat → Nat) (ci co : ClassId) (hi : rn_inj a) (st : rn_S) (p0 : Int32) (p1 : Int32) (r0 : Int32) (t0 : rn_S) (hF : RN_cmp st p0 p1 = (r0, t0)) : ct_i l ⟨"RoundedNumbers", "cmp", "(II)I"⟩ (.code ⟨"RoundedNumbers", "cmp", "(II)I"⟩ prog_1_method_13_code 5 (some .int) :: ct_T) { frames := 3, cells := 0, slots := 0, locals := 63 } D vwCl (rn_T ci co) (rn_g a ci co) (rn_X a) [.ref (a 0), .int p0, .int p1] st r0 t0 := by
  refine ct_i.mk (cc := prog_1_method_13_code) (maxL := 5) (by decide) rfl (Nat.le_of_ble_eq_true rfl) ?_
  intro p e s m below meth c hx hb hr hml hown hts hlk hK hN hP hS ls hl
  have hown : s.vm.findClass "RoundedNumbers" = some m.cls := hown
  have hl : lv_has ls 5 [(0, .ref (a 0)), (1, .int p0), (2, .int p1)] := hl
  have htb := fun w h => hts w (List.mem_cons_of_mem _ h)
  unfold RN_cmp at hF
  refine lv_iload_n hx hb d_RN_cmp_0 rfl (lv_at hl 1 rfl) ?_
  obtain ⟨r1, e1⟩ := nm_ex (RN_isRegister p0)
  replace hF := (nm_eq e1).symm.trans hF
  refine ct_calli (va_runS (As := [.int p0]) (rest := []) ⟨hx, hb, hml, hown, hts⟩ (c_RN_isRegister l (D := D) a ci co hi st p0 _ e1 _) (kc_RN_64 hts ⟨by decide, by decide⟩) ⟨ct_blind, ct_ok hP hK hN⟩ rfl rfl hl.1 rfl (lv_room (Nat.le_of_ble_eq_true rfl)) d_RN_cmp_1 ⟨Nat.zero_le _, Nat.zero_le _⟩) hS (fun H locs hP hS => ?_)
  refine lv_if_eq hx hb d_RN_cmp_4 (tgt := 14) (by decide) (fun c4 => ?_) (fun c4 => ?_)
  · replace hF := (if_pos c4).symm.trans hF
    refine lv_iconst (v := 2) hx hb d_RN_cmp_14 (by decide) ?_
    obtain ⟨rfl, rfl⟩ := Prod.mk.inj hF
    exact ct_iret hx hb hr hlk hP hS d_RN_cmp_15
  · replace hF := (if_neg c4).symm.trans hF
    refine lv_iload_n hx hb d_RN_cmp_7 rfl (lv_at hl 2 rfl) ?_
    obtain ⟨r8, e8⟩ := nm_ex (RN_isRegister p1)
    replace hF := (nm_eq e8).symm.trans hF
    refine ct_calli (va_runS (As := [.int p1]) (rest := []) ⟨hx, hb, hml, hown, hts⟩ (c_RN_isRegister l (D := D) a ci co hi st p1 _ e8 _) (kc_RN_64 hts ⟨by decide, by decide⟩) ⟨ct_blind, ct_ok hP hK hN⟩ rfl rfl hl.1 rfl (lv_room (Nat.le_of_ble_eq_true rfl)) d_RN_cmp_8 ⟨Nat.zero_le _, Nat.zero_le _⟩) hS (fun H locs hP hS => ?_)
    refine lv_if_ne hx hb d_RN_cmp_11 (tgt := 16) (by decide) (fun c11 => ?_) (fun c11 => ?_)
    · replace hF := (if_neg c11).symm.trans hF
      refine lv_aload_n hx hb d_RN_cmp_16 rfl (lv_at hl 0 rfl) ?_
      refine gf_RN_15 hx hb htb hown hK hP d_RN_cmp_17 ?_
      refine lv_iload_n hx hb d_RN_cmp_20 rfl (lv_at hl 1 rfl) ?_
      refine rn_ald_regs hx hb hK hP (rg_in e1 c4) d_RN_cmp_21 ?_
      refine lv_astore_n (lv' := [(3, .ref (a (8 + p0.toNatClampNeg))), (0, .ref (a 0)), (1, .int p0), (2, .int p1)]) hx hb d_RN_cmp_22 rfl hl (by decide) rfl (fun ls hl => ?_)
      refine lv_aload_n hx hb d_RN_cmp_23 rfl (lv_at hl 1 rfl) ?_
      refine gf_RN_15 hx hb htb hown hK hP d_RN_cmp_24 ?_
      refine lv_iload_n hx hb d_RN_cmp_27 rfl (lv_at hl 3 rfl) ?_
      refine rn_ald_regs hx hb hK hP (rg_in e8 c11) d_RN_cmp_28 ?_
      refine lv_astore (lv' := [(4, .ref (a (8 + p1.toNatClampNeg))), (3, .ref (a (8 + p0.toNatClampNeg))), (0, .ref (a 0)), (1, .int p0), (2, .int p1)]) hx hb d_RN_cmp_29 hl (by decide) rfl (fun ls hl => ?_)
      refine lv_aload_n hx hb d_RN_cmp_31 rfl (lv_at hl 1 rfl) ?_
      refine gf_RN_96 hx hb htb hown hK hP (i := p0.toNatClampNeg) (rn_lt10 (rg_in e1 c4)) d_RN_cmp_32 ?_
      refine lv_if_eq hx hb d_RN_cmp_35 (tgt := 46) (by decide) (fun c35 => ?_) (fun c35 => ?_)
      · replace hF := (if_pos c35).symm.trans hF
        refine lv_iconst (v := 2) hx hb d_RN_cmp_46 (by decide) ?_
        obtain ⟨rfl, rfl⟩ := Prod.mk.inj hF
        exact ct_iret hx hb hr hlk hP hS d_RN_cmp_47
      · replace hF := (if_neg c35).symm.trans hF
        refine lv_aload hx hb d_RN_cmp_38 (lv_at hl 0 rfl) ?_
        refine gf_RN_96 hx hb htb hown hK hP (i := p1.toNatClampNeg) (rn_lt10 (rg_in e8 c11)) d_RN_cmp_40 ?_
        refine lv_if_ne hx hb d_RN_cmp_43 (tgt := 48) (by decide) (fun c43 => ?_) (fun c43 => ?_)
        · replace hF := (if_neg c43).symm.trans hF
          refine lv_aload_n hx hb d_RN_cmp_48 rfl (lv_at hl 1 rfl) ?_
          refine gf_RN_96 hx hb htb hown hK hP (i := p0.toNatClampNeg) (rn_lt10 (rg_in e1 c4)) d_RN_cmp_49 ?_
          refine lv_iconst (v := 1) hx hb d_RN_cmp_52 (by decide) ?_
          refine ct_cut0 (fun  ls H locs => lv_has ls 5 [(4, .ref (a (8 + p1.toNatClampNeg))), (3, .ref (a (8 + p0.toNatClampNeg)))] ∧ RN_cmp_65 p0.toNatClampNeg p1.toNatClampNeg st = (r0, t0) ∧ va_P D vwCl (rn_g a ci co st) H ∧ va_S (ct_F (rn_X a) s.heap.size) s.heap H locs) 65 [] ?_ ?_
          · intro ls H locs hq
            obtain ⟨hl, hF, hP, hS⟩ := hq
            unfold RN_cmp_65 at hF
            refine lv_aload_n hx hb d_RN_cmp_65 rfl (lv_at hl 1 rfl) ?_
            obtain ⟨r66, e66⟩ := nm_ex (RV_infiniteSign st p0.toNatClampNeg)
            replace hF := (nm_eq e66).symm.trans hF
            refine ct_calli (va_runV (As := []) (rest := []) ⟨hx, hb, hml, hown, hts⟩ (c_RV_infiniteSign l (D := D) a ci co hi st p0.toNatClampNeg (rn_lt10 (rg_in e1 c4)) _ e66 _) (kc_RN_116 hts ⟨by decide, by decide⟩) ⟨ct_blind, rn_rc1 hK hP (rn_lt10 (rg_in e1 c4)), ct_ok hP hK hN⟩ rfl rfl hl.1 rfl (lv_room (Nat.le_of_ble_eq_true rfl)) d_RN_cmp_66 ⟨Nat.zero_le _, Nat.zero_le _⟩) hS (fun H locs hP hS => ?_)
            refine lv_aload hx hb d_RN_cmp_69 (lv_at hl 0 rfl) ?_
            obtain ⟨r71, e71⟩ := nm_ex (RV_infiniteSign st p1.toNatClampNeg)
            replace hF := (nm_eq e71).symm.trans hF
            refine ct_calli (va_runV (As := []) (rest := [.int r66]) ⟨hx, hb, hml, hown, hts⟩ (c_RV_infiniteSign l (D := D) a ci co hi st p1.toNatClampNeg (rn_lt10 (rg_in e8 c11)) _ e71 _) (kc_RN_116 hts ⟨by decide, by decide⟩) ⟨ct_blind, rn_rc1 hK hP (rn_lt10 (rg_in e8 c11)), ct_ok hP hK hN⟩ rfl rfl hl.1 rfl (lv_room (Nat.le_of_ble_eq_true rfl)) d_RN_cmp_71 ⟨Nat.zero_le _, Nat.zero_le _⟩) hS (fun H locs hP hS => ?_)
            obtain ⟨r74, e74⟩ := nm_ex (JI_compare r66 r71)
            replace hF := (nm_eq e74).symm.trans hF
            refine ct_calli (va_runS (As := [.int r66, .int r71]) (rest := []) ⟨hx, hb, hml, hown, hts⟩ (c_JI_compare l (D := D) a ci co hi st r66 r71 _ e74 _) (kc_RN_120 hts ⟨by decide, by decide⟩) ⟨ct_blind, ct_ok hP hK hN⟩ rfl rfl hl.1 rfl (lv_room (Nat.le_of_ble_eq_true rfl)) d_RN_cmp_74 ⟨Nat.zero_le _, Nat.zero_le _⟩) hS (fun H locs hP hS => ?_)
            obtain ⟨rfl, rfl⟩ := Prod.mk.inj hF
            exact ct_iret hx hb hr hlk hP hS d_RN_cmp_77
          · intro kj65
            refine lv_icmp_eq hx hb d_RN_cmp_53 (tgt := 65) (by decide) (fun c53 => ?_) (fun c53 => ?_)
            · replace hF := (if_pos c53).symm.trans hF
              exact kj65 _ _ _ ⟨lv_sub hl [0, 1] rfl, hF, hP, hS⟩
            · replace hF := (if_neg c53).symm.trans hF
              refine lv_aload hx hb d_RN_cmp_56 (lv_at hl 0 rfl) ?_
              refine gf_RN_96 hx hb htb hown hK hP (i := p1.toNatClampNeg) (rn_lt10 (rg_in e8 c11)) d_RN_cmp_58 ?_
              refine lv_iconst (v := 1) hx hb d_RN_cmp_61 (by decide) ?_
              refine lv_icmp_ne hx hb d_RN_cmp_62 (tgt := 78) (by decide) (fun c62 => ?_) (fun c62 => ?_)
              · replace hF := (if_neg c62).symm.trans hF
                refine lv_aload_n hx hb d_RN_cmp_78 rfl (lv_at hl 2 rfl) ?_
                refine gf_RN_32 hx hb htb hown hK hP d_RN_cmp_79 ?_
                obtain ⟨t82, e82⟩ := nm_ex (RE_clear st)
                replace hF := (nm_eq e82).symm.trans hF
                refine ct_callv (va_runV (As := []) (rest := []) ⟨hx, hb, hml, hown, hts⟩ (c_RE_clear l (D := D) a ci co hi st _ e82 _) (kc_RN_125 hts ⟨by decide, by decide⟩) ⟨ct_blind, rn_rc2 hK hP, ct_ok hP hK hN⟩ rfl rfl hl.1 rfl (lv_room (Nat.le_of_ble_eq_true rfl)) d_RN_cmp_82 ⟨Nat.zero_le _, Nat.zero_le _⟩) hS (fun H locs hP hS => ?_)
                refine lv_aload_n hx hb d_RN_cmp_85 rfl (lv_at hl 2 rfl) ?_
                refine gf_RN_32 hx hb htb hown hK hP d_RN_cmp_86 ?_
                refine lv_aload_n hx hb d_RN_cmp_89 rfl (lv_at hl 1 rfl) ?_
                refine lv_aload_n hx hb d_RN_cmp_90 rfl (lv_at hl 1 rfl) ?_
                refine gf_RN_80 hx hb htb hown hK hP (i := p0.toNatClampNeg) (rn_lt10 (rg_in e1 c4)) d_RN_cmp_91 ?_
                obtain ⟨t94, e94⟩ := nm_ex (RE_gather t82 p0.toNatClampNeg (rn_sg t82 p0.toNatClampNeg))
                replace hF := (nm_eq e94).symm.trans hF
                refine ct_callv (va_runV (As := [.ref (a (8 + p0.toNatClampNeg)), .int (rn_sg t82 p0.toNatClampNeg)]) (rest := []) ⟨hx, hb, hml, hown, hts⟩ (c_RE_gather l (D := D) a ci co hi t82 p0.toNatClampNeg (rn_sg t82 p0.toNatClampNeg) (rn_lt10 (rg_in e1 c4)) _ e94 _) (kc_RN_128 hts ⟨by decide, by decide⟩) ⟨ct_blind, rn_rc2 hK hP, ct_ok hP hK hN⟩ rfl rfl hl.1 rfl (lv_room (Nat.le_of_ble_eq_true rfl)) d_RN_cmp_94 ⟨Nat.zero_le _, Nat.zero_le _⟩) hS (fun H locs hP hS => ?_)
                refine lv_aload_n hx hb d_RN_cmp_97 rfl (lv_at hl 2 rfl) ?_
                refine gf_RN_32 hx hb htb hown hK hP d_RN_cmp_98 ?_
                refine lv_aload hx hb d_RN_cmp_101 (lv_at hl 0 rfl) ?_
                refine lv_aload hx hb d_RN_cmp_103 (lv_at hl 0 rfl) ?_
                refine gf_RN_80 hx hb htb hown hK hP (i := p1.toNatClampNeg) (rn_lt10 (rg_in e8 c11)) d_RN_cmp_105 ?_
                refine lv_ineg hx hb d_RN_cmp_108 ?_
                obtain ⟨t109, e109⟩ := nm_ex (RE_gather t94 p1.toNatClampNeg (-(rn_sg t94 p1.toNatClampNeg)))
                replace hF := (nm_eq e109).symm.trans hF
                refine ct_callv (va_runV (As := [.ref (a (8 + p1.toNatClampNeg)), .int (-(rn_sg t94 p1.toNatClampNeg))]) (rest := []) ⟨hx, hb, hml, hown, hts⟩ (c_RE_gather l (D := D) a ci co hi t94 p1.toNatClampNeg (-(rn_sg t94 p1.toNatClampNeg)) (rn_lt10 (rg_in e8 c11)) _ e109 _) (kc_RN_128 hts ⟨by decide, by decide⟩) ⟨ct_blind, rn_rc2 hK hP, ct_ok hP hK hN⟩ rfl rfl hl.1 rfl (lv_room (Nat.le_of_ble_eq_true rfl)) d_RN_cmp_109 ⟨Nat.zero_le _, Nat.zero_le _⟩) hS (fun H locs hP hS => ?_)
                refine lv_aload_n hx hb d_RN_cmp_112 rfl (lv_at hl 2 rfl) ?_
                refine gf_RN_32 hx hb htb hown hK hP d_RN_cmp_113 ?_
                obtain ⟨r116, t116, e116⟩ := bd_ex (RE_splitSign t109)
                replace hF := (bd_eq e116).symm.trans hF
                refine ct_calli (va_runV (As := []) (rest := []) ⟨hx, hb, hml, hown, hts⟩ (c_RE_splitSign l (D := D) a ci co hi t109 _ _ e116 _) (kc_RN_132 hts ⟨by decide, by decide⟩) ⟨ct_blind, rn_rc2 hK hP, ct_ok hP hK hN⟩ rfl rfl hl.1 rfl (lv_room (Nat.le_of_ble_eq_true rfl)) d_RN_cmp_116 ⟨Nat.zero_le _, Nat.zero_le _⟩) hS (fun H locs hP hS => ?_)
                obtain ⟨rfl, rfl⟩ := Prod.mk.inj hF
                exact ct_iret hx hb hr hlk hP hS d_RN_cmp_119
              · replace hF := (if_pos c62).symm.trans hF
                exact kj65 _ _ _ ⟨lv_sub hl [0, 1] rfl, hF, hP, hS⟩
        · replace hF := (if_pos c43).symm.trans hF
          refine lv_iconst (v := 2) hx hb d_RN_cmp_46 (by decide) ?_
          obtain ⟨rfl, rfl⟩ := Prod.mk.inj hF
          exact ct_iret hx hb hr hlk hP hS d_RN_cmp_47
    · replace hF := (if_pos c11).symm.trans hF
      refine lv_iconst (v := 2) hx hb d_RN_cmp_14 (by decide) ?_
      obtain ⟨rfl, rfl⟩ := Prod.mk.inj hF
      exact ct_iret hx hb hr hlk hP hS d_RN_cmp_15
theorem d_RN_kindOf_0 : decode prog_1_method_14_code 0 = .ok (.iload_n 1, 1) := by decide +kernel
theorem d_RN_kindOf_1 : decode prog_1_method_14_code 1 = .ok (.invokestatic 64, 3) := by decide +kernel
theorem d_RN_kindOf_4 : decode prog_1_method_14_code 4 = .ok (.ifCond .eq 15, 3) := by decide +kernel
theorem d_RN_kindOf_7 : decode prog_1_method_14_code 7 = .ok (.aload_n 0, 1) := by decide +kernel
theorem d_RN_kindOf_8 : decode prog_1_method_14_code 8 = .ok (.getfield 15, 3) := by decide +kernel
theorem d_RN_kindOf_11 : decode prog_1_method_14_code 11 = .ok (.iload_n 1, 1) := by decide +kernel
theorem d_RN_kindOf_12 : decode prog_1_method_14_code 12 = .ok (.aaload, 1) := by decide +kernel
theorem d_RN_kindOf_13 : decode prog_1_method_14_code 13 = .ok (.getfield 96, 3) := by decide +kernel
theorem d_RN_kindOf_16 : decode prog_1_method_14_code 16 = .ok (.goto 4, 3) := by decide +kernel
theorem d_RN_kindOf_19 : decode prog_1_method_14_code 19 = .ok (.iconst (-1), 1) := by decide +kernel
theorem d_RN_kindOf_20 : decode prog_1_method_14_code 20 = .ok (.ireturn, 1) := by decide +kernel
def RN_kindOf (st : rn_S) (p0 : Int32) : Int32 := nm (RN_isRegister p0) (fun r1 => (if r1 = 0 then (-1 : Int32) else (rn_kd st p0.toNatClampNeg)))
set_option maxHeartbeats 4000000 in
set_option maxRecDepth 100000 in
theorem c_RN_kindOf (l : Launch) {D : va_G} (a : Nat → Nat) (ci co : ClassId) (hi : rn_inj a) (st : rn_S) (p0 : Int32) (r0 : Int32) (hF : RN_kindOf st p0 = r0) : ct_i l ⟨"RoundedNumbers", "kindOf", "(I)I"⟩ (.code ⟨"RoundedNumbers", "kindOf", "(I)I"⟩ prog_1_method_14_code 2 (some .int) :: ct_T) { frames := 1, cells := 0, slots := 0, locals := 20 } D vwCl (rn_T ci co) (rn_g a ci co) (rn_X a) [.ref (a 0), .int p0] st r0 st := by
  refine ct_i.mk (cc := prog_1_method_14_code) (maxL := 2) (by decide) rfl (Nat.le_of_ble_eq_true rfl) ?_
  intro p e s m below meth c hx hb hr hml hown hts hlk hK hN hP hS ls hl
  have hown : s.vm.findClass "RoundedNumbers" = some m.cls := hown
  have hl : lv_has ls 2 [(0, .ref (a 0)), (1, .int p0)] := hl
  have htb := fun w h => hts w (List.mem_cons_of_mem _ h)
  unfold RN_kindOf at hF
  refine lv_iload_n hx hb d_RN_kindOf_0 rfl (lv_at hl 1 rfl) ?_
  obtain ⟨r1, e1⟩ := nm_ex (RN_isRegister p0)
  replace hF := (nm_eq e1).symm.trans hF
  refine ct_calli (va_runS (As := [.int p0]) (rest := []) ⟨hx, hb, hml, hown, hts⟩ (c_RN_isRegister l (D := D) a ci co hi st p0 _ e1 _) (kc_RN_64 hts ⟨by decide, by decide⟩) ⟨ct_blind, ct_ok hP hK hN⟩ rfl rfl hl.1 rfl (lv_room (Nat.le_of_ble_eq_true rfl)) d_RN_kindOf_1 ⟨Nat.zero_le _, Nat.zero_le _⟩) hS (fun H locs hP hS => ?_)
  refine lv_if_eq hx hb d_RN_kindOf_4 (tgt := 19) (by decide) (fun c4 => ?_) (fun c4 => ?_)
  · replace hF := (if_pos c4).symm.trans hF
    refine lv_iconst (v := -1) hx hb d_RN_kindOf_19 (by decide) ?_
    subst hF
    exact ct_iret hx hb hr hlk hP hS d_RN_kindOf_20
  · replace hF := (if_neg c4).symm.trans hF
    refine lv_aload_n hx hb d_RN_kindOf_7 rfl (lv_at hl 0 rfl) ?_
    refine gf_RN_15 hx hb htb hown hK hP d_RN_kindOf_8 ?_
    refine lv_iload_n hx hb d_RN_kindOf_11 rfl (lv_at hl 1 rfl) ?_
    refine rn_ald_regs hx hb hK hP (rg_in e1 c4) d_RN_kindOf_12 ?_
    refine gf_RN_96 hx hb htb hown hK hP (i := p0.toNatClampNeg) (rn_lt10 (rg_in e1 c4)) d_RN_kindOf_13 ?_
    refine lv_goto hx hb d_RN_kindOf_16 (tgt := 20) (by decide) ?_
    subst hF
    exact ct_iret hx hb hr hlk hP hS d_RN_kindOf_20
theorem d_RN_signOf_0 : decode prog_1_method_15_code 0 = .ok (.iload_n 1, 1) := by decide +kernel
theorem d_RN_signOf_1 : decode prog_1_method_15_code 1 = .ok (.invokestatic 64, 3) := by decide +kernel
theorem d_RN_signOf_4 : decode prog_1_method_15_code 4 = .ok (.ifCond .eq 15, 3) := by decide +kernel
theorem d_RN_signOf_7 : decode prog_1_method_15_code 7 = .ok (.aload_n 0, 1) := by decide +kernel
theorem d_RN_signOf_8 : decode prog_1_method_15_code 8 = .ok (.getfield 15, 3) := by decide +kernel
theorem d_RN_signOf_11 : decode prog_1_method_15_code 11 = .ok (.iload_n 1, 1) := by decide +kernel
theorem d_RN_signOf_12 : decode prog_1_method_15_code 12 = .ok (.aaload, 1) := by decide +kernel
theorem d_RN_signOf_13 : decode prog_1_method_15_code 13 = .ok (.getfield 80, 3) := by decide +kernel
theorem d_RN_signOf_16 : decode prog_1_method_15_code 16 = .ok (.goto 4, 3) := by decide +kernel
theorem d_RN_signOf_19 : decode prog_1_method_15_code 19 = .ok (.iconst 0, 1) := by decide +kernel
theorem d_RN_signOf_20 : decode prog_1_method_15_code 20 = .ok (.ireturn, 1) := by decide +kernel
def RN_signOf (st : rn_S) (p0 : Int32) : Int32 := nm (RN_isRegister p0) (fun r1 => (if r1 = 0 then (0 : Int32) else (rn_sg st p0.toNatClampNeg)))
set_option maxHeartbeats 4000000 in
set_option maxRecDepth 100000 in
theorem c_RN_signOf (l : Launch) {D : va_G} (a : Nat → Nat) (ci co : ClassId) (hi : rn_inj a) (st : rn_S) (p0 : Int32) (r0 : Int32) (hF : RN_signOf st p0 = r0) : ct_i l ⟨"RoundedNumbers", "signOf", "(I)I"⟩ (.code ⟨"RoundedNumbers", "signOf", "(I)I"⟩ prog_1_method_15_code 2 (some .int) :: ct_T) { frames := 1, cells := 0, slots := 0, locals := 20 } D vwCl (rn_T ci co) (rn_g a ci co) (rn_X a) [.ref (a 0), .int p0] st r0 st := by
  refine ct_i.mk (cc := prog_1_method_15_code) (maxL := 2) (by decide) rfl (Nat.le_of_ble_eq_true rfl) ?_
  intro p e s m below meth c hx hb hr hml hown hts hlk hK hN hP hS ls hl
  have hown : s.vm.findClass "RoundedNumbers" = some m.cls := hown
  have hl : lv_has ls 2 [(0, .ref (a 0)), (1, .int p0)] := hl
  have htb := fun w h => hts w (List.mem_cons_of_mem _ h)
  unfold RN_signOf at hF
  refine lv_iload_n hx hb d_RN_signOf_0 rfl (lv_at hl 1 rfl) ?_
  obtain ⟨r1, e1⟩ := nm_ex (RN_isRegister p0)
  replace hF := (nm_eq e1).symm.trans hF
  refine ct_calli (va_runS (As := [.int p0]) (rest := []) ⟨hx, hb, hml, hown, hts⟩ (c_RN_isRegister l (D := D) a ci co hi st p0 _ e1 _) (kc_RN_64 hts ⟨by decide, by decide⟩) ⟨ct_blind, ct_ok hP hK hN⟩ rfl rfl hl.1 rfl (lv_room (Nat.le_of_ble_eq_true rfl)) d_RN_signOf_1 ⟨Nat.zero_le _, Nat.zero_le _⟩) hS (fun H locs hP hS => ?_)
  refine lv_if_eq hx hb d_RN_signOf_4 (tgt := 19) (by decide) (fun c4 => ?_) (fun c4 => ?_)
  · replace hF := (if_pos c4).symm.trans hF
    refine lv_iconst (v := 0) hx hb d_RN_signOf_19 (by decide) ?_
    subst hF
    exact ct_iret hx hb hr hlk hP hS d_RN_signOf_20
  · replace hF := (if_neg c4).symm.trans hF
    refine lv_aload_n hx hb d_RN_signOf_7 rfl (lv_at hl 0 rfl) ?_
    refine gf_RN_15 hx hb htb hown hK hP d_RN_signOf_8 ?_
    refine lv_iload_n hx hb d_RN_signOf_11 rfl (lv_at hl 1 rfl) ?_
    refine rn_ald_regs hx hb hK hP (rg_in e1 c4) d_RN_signOf_12 ?_
    refine gf_RN_80 hx hb htb hown hK hP (i := p0.toNatClampNeg) (rn_lt10 (rg_in e1 c4)) d_RN_signOf_13 ?_
    refine lv_goto hx hb d_RN_signOf_16 (tgt := 20) (by decide) ?_
    subst hF
    exact ct_iret hx hb hr hlk hP hS d_RN_signOf_20
theorem d_RN_expOf_0 : decode prog_1_method_16_code 0 = .ok (.aload_n 0, 1) := by decide +kernel
theorem d_RN_expOf_1 : decode prog_1_method_16_code 1 = .ok (.iload_n 1, 1) := by decide +kernel
theorem d_RN_expOf_2 : decode prog_1_method_16_code 2 = .ok (.invokevirtual 135, 3) := by decide +kernel
theorem d_RN_expOf_5 : decode prog_1_method_16_code 5 = .ok (.ifCond .eq 15, 3) := by decide +kernel
theorem d_RN_expOf_8 : decode prog_1_method_16_code 8 = .ok (.aload_n 0, 1) := by decide +kernel
theorem d_RN_expOf_9 : decode prog_1_method_16_code 9 = .ok (.getfield 15, 3) := by decide +kernel
theorem d_RN_expOf_12 : decode prog_1_method_16_code 12 = .ok (.iload_n 1, 1) := by decide +kernel
theorem d_RN_expOf_13 : decode prog_1_method_16_code 13 = .ok (.aaload, 1) := by decide +kernel
theorem d_RN_expOf_14 : decode prog_1_method_16_code 14 = .ok (.invokevirtual 138, 3) := by decide +kernel
theorem d_RN_expOf_17 : decode prog_1_method_16_code 17 = .ok (.goto 4, 3) := by decide +kernel
theorem d_RN_expOf_20 : decode prog_1_method_16_code 20 = .ok (.iconst 0, 1) := by decide +kernel
theorem d_RN_expOf_21 : decode prog_1_method_16_code 21 = .ok (.ireturn, 1) := by decide +kernel
def RN_expOf (st : rn_S) (p0 : Int32) : Int32 := nm (RN_isRegular st p0) (fun r2 => (if r2 = 0 then (0 : Int32) else nm (RV_exponent st p0.toNatClampNeg) (fun r14 => r14)))
set_option maxHeartbeats 4000000 in
set_option maxRecDepth 100000 in
theorem c_RN_expOf (l : Launch) {D : va_G} (a : Nat → Nat) (ci co : ClassId) (hi : rn_inj a) (st : rn_S) (p0 : Int32) (r0 : Int32) (hF : RN_expOf st p0 = r0) : ct_i l ⟨"RoundedNumbers", "expOf", "(I)I"⟩ (.code ⟨"RoundedNumbers", "expOf", "(I)I"⟩ prog_1_method_16_code 2 (some .int) :: ct_T) { frames := 2, cells := 0, slots := 0, locals := 41 } D vwCl (rn_T ci co) (rn_g a ci co) (rn_X a) [.ref (a 0), .int p0] st r0 st := by
  refine ct_i.mk (cc := prog_1_method_16_code) (maxL := 2) (by decide) rfl (Nat.le_of_ble_eq_true rfl) ?_
  intro p e s m below meth c hx hb hr hml hown hts hlk hK hN hP hS ls hl
  have hown : s.vm.findClass "RoundedNumbers" = some m.cls := hown
  have hl : lv_has ls 2 [(0, .ref (a 0)), (1, .int p0)] := hl
  have htb := fun w h => hts w (List.mem_cons_of_mem _ h)
  unfold RN_expOf at hF
  refine lv_aload_n hx hb d_RN_expOf_0 rfl (lv_at hl 0 rfl) ?_
  refine lv_iload_n hx hb d_RN_expOf_1 rfl (lv_at hl 1 rfl) ?_
  obtain ⟨r2, e2⟩ := nm_ex (RN_isRegular st p0)
  replace hF := (nm_eq e2).symm.trans hF
  refine ct_calli (va_runV (As := [.int p0]) (rest := []) ⟨hx, hb, hml, hown, hts⟩ (c_RN_isRegular l (D := D) a ci co hi st p0 _ e2 _) (kc_RN_135 hts ⟨by decide, by decide⟩) ⟨ct_blind, rn_rc0 hK hP, ct_ok hP hK hN⟩ rfl rfl hl.1 rfl (lv_room (Nat.le_of_ble_eq_true rfl)) d_RN_expOf_2 ⟨Nat.zero_le _, Nat.zero_le _⟩) hS (fun H locs hP hS => ?_)
  refine lv_if_eq hx hb d_RN_expOf_5 (tgt := 20) (by decide) (fun c5 => ?_) (fun c5 => ?_)
  · replace hF := (if_pos c5).symm.trans hF
    refine lv_iconst (v := 0) hx hb d_RN_expOf_20 (by decide) ?_
    subst hF
    exact ct_iret hx hb hr hlk hP hS d_RN_expOf_21
  · replace hF := (if_neg c5).symm.trans hF
    refine lv_aload_n hx hb d_RN_expOf_8 rfl (lv_at hl 0 rfl) ?_
    refine gf_RN_15 hx hb htb hown hK hP d_RN_expOf_9 ?_
    refine lv_iload_n hx hb d_RN_expOf_12 rfl (lv_at hl 1 rfl) ?_
    refine rn_ald_regs hx hb hK hP (rr_in e2 c5) d_RN_expOf_13 ?_
    obtain ⟨r14, e14⟩ := nm_ex (RV_exponent st p0.toNatClampNeg)
    replace hF := (nm_eq e14).symm.trans hF
    refine ct_calli (va_runV (As := []) (rest := []) ⟨hx, hb, hml, hown, hts⟩ (c_RV_exponent l (D := D) a ci co hi st p0.toNatClampNeg (rn_lt10 (rr_in e2 c5)) _ e14 _) (kc_RN_138 hts ⟨by decide, by decide⟩) ⟨ct_blind, rn_rc1 hK hP (rn_lt10 (rr_in e2 c5)), ct_ok hP hK hN⟩ rfl rfl hl.1 rfl (lv_room (Nat.le_of_ble_eq_true rfl)) d_RN_expOf_14 ⟨Nat.zero_le _, Nat.zero_le _⟩) hS (fun H locs hP hS => ?_)
    refine lv_goto hx hb d_RN_expOf_17 (tgt := 21) (by decide) ?_
    subst hF
    exact ct_iret hx hb hr hlk hP hS d_RN_expOf_21
theorem d_RN_mantBit_0 : decode prog_1_method_17_code 0 = .ok (.aload_n 0, 1) := by decide +kernel
theorem d_RN_mantBit_1 : decode prog_1_method_17_code 1 = .ok (.iload_n 1, 1) := by decide +kernel
theorem d_RN_mantBit_2 : decode prog_1_method_17_code 2 = .ok (.invokevirtual 135, 3) := by decide +kernel
theorem d_RN_mantBit_5 : decode prog_1_method_17_code 5 = .ok (.ifCond .eq 17, 3) := by decide +kernel
theorem d_RN_mantBit_8 : decode prog_1_method_17_code 8 = .ok (.iload_n 2, 1) := by decide +kernel
theorem d_RN_mantBit_9 : decode prog_1_method_17_code 9 = .ok (.ifCond .lt 13, 3) := by decide +kernel
theorem d_RN_mantBit_12 : decode prog_1_method_17_code 12 = .ok (.iload_n 2, 1) := by decide +kernel
theorem d_RN_mantBit_13 : decode prog_1_method_17_code 13 = .ok (.aload_n 0, 1) := by decide +kernel
theorem d_RN_mantBit_14 : decode prog_1_method_17_code 14 = .ok (.getfield 9, 3) := by decide +kernel
theorem d_RN_mantBit_17 : decode prog_1_method_17_code 17 = .ok (.iload_n 1, 1) := by decide +kernel
theorem d_RN_mantBit_18 : decode prog_1_method_17_code 18 = .ok (.iaload, 1) := by decide +kernel
theorem d_RN_mantBit_19 : decode prog_1_method_17_code 19 = .ok (.if_icmp .lt 5, 3) := by decide +kernel
theorem d_RN_mantBit_22 : decode prog_1_method_17_code 22 = .ok (.iconst (-1), 1) := by decide +kernel
theorem d_RN_mantBit_23 : decode prog_1_method_17_code 23 = .ok (.ireturn, 1) := by decide +kernel
theorem d_RN_mantBit_24 : decode prog_1_method_17_code 24 = .ok (.aload_n 0, 1) := by decide +kernel
theorem d_RN_mantBit_25 : decode prog_1_method_17_code 25 = .ok (.getfield 15, 3) := by decide +kernel
theorem d_RN_mantBit_28 : decode prog_1_method_17_code 28 = .ok (.iload_n 1, 1) := by decide +kernel
theorem d_RN_mantBit_29 : decode prog_1_method_17_code 29 = .ok (.aaload, 1) := by decide +kernel
theorem d_RN_mantBit_30 : decode prog_1_method_17_code 30 = .ok (.iload_n 2, 1) := by decide +kernel
theorem d_RN_mantBit_31 : decode prog_1_method_17_code 31 = .ok (.invokevirtual 141, 3) := by decide +kernel
theorem d_RN_mantBit_34 : decode prog_1_method_17_code 34 = .ok (.ireturn, 1) := by decide +kernel
def RN_mantBit (st : rn_S) (p0 : Int32) (p1 : Int32) : Int32 := nm (RN_isRegular st p0) (fun r2 => (if r2 = 0 then (-1 : Int32) else (if p1 < 0 then (-1 : Int32) else (if p1 < (rn_pr st p0.toNatClampNeg) then nm (RV_bitFromTop st p0.toNatClampNeg p1) (fun r31 => r31) else (-1 : Int32)))))
set_option maxHeartbeats 4000000 in
set_option maxRecDepth 100000 in
theorem c_RN_mantBit (l : Launch) {D : va_G} (a : Nat → Nat) (ci co : ClassId) (hi : rn_inj a) (st : rn_S) (p0 : Int32) (p1 : Int32) (r0 : Int32) (hF : RN_mantBit st p0 p1 = r0) : ct_i l ⟨"RoundedNumbers", "mantBit", "(II)I"⟩ (.code ⟨"RoundedNumbers", "mantBit", "(II)I"⟩ prog_1_method_17_code 3 (some .int) :: ct_T) { frames := 2, cells := 0, slots := 0, locals := 41 } D vwCl (rn_T ci co) (rn_g a ci co) (rn_X a) [.ref (a 0), .int p0, .int p1] st r0 st := by
  refine ct_i.mk (cc := prog_1_method_17_code) (maxL := 3) (by decide) rfl (Nat.le_of_ble_eq_true rfl) ?_
  intro p e s m below meth c hx hb hr hml hown hts hlk hK hN hP hS ls hl
  have hown : s.vm.findClass "RoundedNumbers" = some m.cls := hown
  have hl : lv_has ls 3 [(0, .ref (a 0)), (1, .int p0), (2, .int p1)] := hl
  have htb := fun w h => hts w (List.mem_cons_of_mem _ h)
  unfold RN_mantBit at hF
  refine lv_aload_n hx hb d_RN_mantBit_0 rfl (lv_at hl 0 rfl) ?_
  refine lv_iload_n hx hb d_RN_mantBit_1 rfl (lv_at hl 1 rfl) ?_
  obtain ⟨r2, e2⟩ := nm_ex (RN_isRegular st p0)
  replace hF := (nm_eq e2).symm.trans hF
  refine ct_calli (va_runV (As := [.int p0]) (rest := []) ⟨hx, hb, hml, hown, hts⟩ (c_RN_isRegular l (D := D) a ci co hi st p0 _ e2 _) (kc_RN_135 hts ⟨by decide, by decide⟩) ⟨ct_blind, rn_rc0 hK hP, ct_ok hP hK hN⟩ rfl rfl hl.1 rfl (lv_room (Nat.le_of_ble_eq_true rfl)) d_RN_mantBit_2 ⟨Nat.zero_le _, Nat.zero_le _⟩) hS (fun H locs hP hS => ?_)
  refine lv_if_eq hx hb d_RN_mantBit_5 (tgt := 22) (by decide) (fun c5 => ?_) (fun c5 => ?_)
  · replace hF := (if_pos c5).symm.trans hF
    refine lv_iconst (v := -1) hx hb d_RN_mantBit_22 (by decide) ?_
    subst hF
    exact ct_iret hx hb hr hlk hP hS d_RN_mantBit_23
  · replace hF := (if_neg c5).symm.trans hF
    refine lv_iload_n hx hb d_RN_mantBit_8 rfl (lv_at hl 2 rfl) ?_
    refine lv_if_lt hx hb d_RN_mantBit_9 (tgt := 22) (by decide) (fun c9 => ?_) (fun c9 => ?_)
    · replace hF := (if_pos c9).symm.trans hF
      refine lv_iconst (v := -1) hx hb d_RN_mantBit_22 (by decide) ?_
      subst hF
      exact ct_iret hx hb hr hlk hP hS d_RN_mantBit_23
    · replace hF := (if_neg c9).symm.trans hF
      refine lv_iload_n hx hb d_RN_mantBit_12 rfl (lv_at hl 2 rfl) ?_
      refine lv_aload_n hx hb d_RN_mantBit_13 rfl (lv_at hl 0 rfl) ?_
      refine gf_RN_9 hx hb htb hown hK hP d_RN_mantBit_14 ?_
      refine lv_iload_n hx hb d_RN_mantBit_17 rfl (lv_at hl 1 rfl) ?_
      refine rn_ald_prec hx hb hK hP (rr_in e2 c5) d_RN_mantBit_18 ?_
      refine lv_icmp_lt hx hb d_RN_mantBit_19 (tgt := 24) (by decide) (fun c19 => ?_) (fun c19 => ?_)
      · replace hF := (if_pos c19).symm.trans hF
        refine lv_aload_n hx hb d_RN_mantBit_24 rfl (lv_at hl 0 rfl) ?_
        refine gf_RN_15 hx hb htb hown hK hP d_RN_mantBit_25 ?_
        refine lv_iload_n hx hb d_RN_mantBit_28 rfl (lv_at hl 1 rfl) ?_
        refine rn_ald_regs hx hb hK hP (rr_in e2 c5) d_RN_mantBit_29 ?_
        refine lv_iload_n hx hb d_RN_mantBit_30 rfl (lv_at hl 2 rfl) ?_
        obtain ⟨r31, e31⟩ := nm_ex (RV_bitFromTop st p0.toNatClampNeg p1)
        replace hF := (nm_eq e31).symm.trans hF
        refine ct_calli (va_runV (As := [.int p1]) (rest := []) ⟨hx, hb, hml, hown, hts⟩ (c_RV_bitFromTop l (D := D) a ci co hi st p0.toNatClampNeg p1 (rn_lt10 (rr_in e2 c5)) _ e31 _) (kc_RN_141 hts ⟨by decide, by decide⟩) ⟨ct_blind, rn_rc1 hK hP (rn_lt10 (rr_in e2 c5)), ct_ok hP hK hN⟩ rfl rfl hl.1 rfl (lv_room (Nat.le_of_ble_eq_true rfl)) d_RN_mantBit_31 ⟨Nat.zero_le _, Nat.zero_le _⟩) hS (fun H locs hP hS => ?_)
        subst hF
        exact ct_iret hx hb hr hlk hP hS d_RN_mantBit_34
      · replace hF := (if_neg c19).symm.trans hF
        refine lv_iconst (v := -1) hx hb d_RN_mantBit_22 (by decide) ?_
        subst hF
        exact ct_iret hx hb hr hlk hP hS d_RN_mantBit_23
theorem d_RN_whole_0 : decode prog_1_method_18_code 0 = .ok (.iload_n 1, 1) := by decide +kernel
theorem d_RN_whole_1 : decode prog_1_method_18_code 1 = .ok (.iload_n 2, 1) := by decide +kernel
theorem d_RN_whole_2 : decode prog_1_method_18_code 2 = .ok (.invokestatic 72, 3) := by decide +kernel
theorem d_RN_whole_5 : decode prog_1_method_18_code 5 = .ok (.ifCond .ne 5, 3) := by decide +kernel
theorem d_RN_whole_8 : decode prog_1_method_18_code 8 = .ok (.lconst 0, 1) := by decide +kernel
theorem d_RN_whole_9 : decode prog_1_method_18_code 9 = .ok (.lreturn, 1) := by decide +kernel
theorem d_RN_whole_10 : decode prog_1_method_18_code 10 = .ok (.aload_n 0, 1) := by decide +kernel
theorem d_RN_whole_11 : decode prog_1_method_18_code 11 = .ok (.getfield 15, 3) := by decide +kernel
theorem d_RN_whole_14 : decode prog_1_method_18_code 14 = .ok (.iload_n 1, 1) := by decide +kernel
theorem d_RN_whole_15 : decode prog_1_method_18_code 15 = .ok (.aaload, 1) := by decide +kernel
theorem d_RN_whole_16 : decode prog_1_method_18_code 16 = .ok (.astore_n 3, 1) := by decide +kernel
theorem d_RN_whole_17 : decode prog_1_method_18_code 17 = .ok (.aload_n 3, 1) := by decide +kernel
theorem d_RN_whole_18 : decode prog_1_method_18_code 18 = .ok (.getfield 96, 3) := by decide +kernel
theorem d_RN_whole_21 : decode prog_1_method_18_code 21 = .ok (.ifCond .eq 11, 3) := by decide +kernel
theorem d_RN_whole_24 : decode prog_1_method_18_code 24 = .ok (.aload_n 3, 1) := by decide +kernel
theorem d_RN_whole_25 : decode prog_1_method_18_code 25 = .ok (.getfield 96, 3) := by decide +kernel
theorem d_RN_whole_28 : decode prog_1_method_18_code 28 = .ok (.iconst 2, 1) := by decide +kernel
theorem d_RN_whole_29 : decode prog_1_method_18_code 29 = .ok (.if_icmp .ne 5, 3) := by decide +kernel
theorem d_RN_whole_32 : decode prog_1_method_18_code 32 = .ok (.lconst 0, 1) := by decide +kernel
theorem d_RN_whole_33 : decode prog_1_method_18_code 33 = .ok (.lreturn, 1) := by decide +kernel
theorem d_RN_whole_34 : decode prog_1_method_18_code 34 = .ok (.aload_n 3, 1) := by decide +kernel
theorem d_RN_whole_35 : decode prog_1_method_18_code 35 = .ok (.getfield 96, 3) := by decide +kernel
theorem d_RN_whole_38 : decode prog_1_method_18_code 38 = .ok (.iconst 1, 1) := by decide +kernel
theorem d_RN_whole_39 : decode prog_1_method_18_code 39 = .ok (.if_icmp .eq 12, 3) := by decide +kernel
theorem d_RN_whole_42 : decode prog_1_method_18_code 42 = .ok (.aload_n 3, 1) := by decide +kernel
theorem d_RN_whole_43 : decode prog_1_method_18_code 43 = .ok (.invokevirtual 138, 3) := by decide +kernel
theorem d_RN_whole_46 : decode prog_1_method_18_code 46 = .ok (.bipush 63, 2) := by decide +kernel
theorem d_RN_whole_48 : decode prog_1_method_18_code 48 = .ok (.if_icmp .le 20, 3) := by decide +kernel
theorem d_RN_whole_51 : decode prog_1_method_18_code 51 = .ok (.aload_n 3, 1) := by decide +kernel
theorem d_RN_whole_52 : decode prog_1_method_18_code 52 = .ok (.getfield 80, 3) := by decide +kernel
theorem d_RN_whole_55 : decode prog_1_method_18_code 55 = .ok (.ifCond .le 9, 3) := by decide +kernel
theorem d_RN_whole_58 : decode prog_1_method_18_code 58 = .ok (.ldc2_w 145, 3) := by decide +kernel
theorem d_RN_whole_61 : decode prog_1_method_18_code 61 = .ok (.goto 6, 3) := by decide +kernel
theorem d_RN_whole_64 : decode prog_1_method_18_code 64 = .ok (.ldc2_w 147, 3) := by decide +kernel
theorem d_RN_whole_67 : decode prog_1_method_18_code 67 = .ok (.lreturn, 1) := by decide +kernel
theorem d_RN_whole_68 : decode prog_1_method_18_code 68 = .ok (.aload_n 0, 1) := by decide +kernel
theorem d_RN_whole_69 : decode prog_1_method_18_code 69 = .ok (.getfield 32, 3) := by decide +kernel
theorem d_RN_whole_72 : decode prog_1_method_18_code 72 = .ok (.invokevirtual 125, 3) := by decide +kernel
theorem d_RN_whole_75 : decode prog_1_method_18_code 75 = .ok (.aload_n 0, 1) := by decide +kernel
theorem d_RN_whole_76 : decode prog_1_method_18_code 76 = .ok (.getfield 32, 3) := by decide +kernel
theorem d_RN_whole_79 : decode prog_1_method_18_code 79 = .ok (.aload_n 3, 1) := by decide +kernel
theorem d_RN_whole_80 : decode prog_1_method_18_code 80 = .ok (.iconst 1, 1) := by decide +kernel
theorem d_RN_whole_81 : decode prog_1_method_18_code 81 = .ok (.invokevirtual 128, 3) := by decide +kernel
theorem d_RN_whole_84 : decode prog_1_method_18_code 84 = .ok (.aload_n 0, 1) := by decide +kernel
theorem d_RN_whole_85 : decode prog_1_method_18_code 85 = .ok (.getfield 32, 3) := by decide +kernel
theorem d_RN_whole_88 : decode prog_1_method_18_code 88 = .ok (.iconst 0, 1) := by decide +kernel
theorem d_RN_whole_89 : decode prog_1_method_18_code 89 = .ok (.iload_n 2, 1) := by decide +kernel
theorem d_RN_whole_90 : decode prog_1_method_18_code 90 = .ok (.aload_n 3, 1) := by decide +kernel
theorem d_RN_whole_91 : decode prog_1_method_18_code 91 = .ok (.getfield 80, 3) := by decide +kernel
theorem d_RN_whole_94 : decode prog_1_method_18_code 94 = .ok (.invokestatic 149, 3) := by decide +kernel
theorem d_RN_whole_97 : decode prog_1_method_18_code 97 = .ok (.aload_n 0, 1) := by decide +kernel
theorem d_RN_whole_98 : decode prog_1_method_18_code 98 = .ok (.getfield 32, 3) := by decide +kernel
theorem d_RN_whole_101 : decode prog_1_method_18_code 101 = .ok (.iconst 0, 1) := by decide +kernel
theorem d_RN_whole_102 : decode prog_1_method_18_code 102 = .ok (.invokevirtual 152, 3) := by decide +kernel
theorem d_RN_whole_105 : decode prog_1_method_18_code 105 = .ok (.iconst 1, 1) := by decide +kernel
theorem d_RN_whole_106 : decode prog_1_method_18_code 106 = .ok (.if_icmp .ne 7, 3) := by decide +kernel
theorem d_RN_whole_109 : decode prog_1_method_18_code 109 = .ok (.iconst 1, 1) := by decide +kernel
theorem d_RN_whole_110 : decode prog_1_method_18_code 110 = .ok (.goto 4, 3) := by decide +kernel
theorem d_RN_whole_113 : decode prog_1_method_18_code 113 = .ok (.iconst 0, 1) := by decide +kernel
theorem d_RN_whole_114 : decode prog_1_method_18_code 114 = .ok (.invokevirtual 155, 3) := by decide +kernel
theorem d_RN_whole_117 : decode prog_1_method_18_code 117 = .ok (.pop, 1) := by decide +kernel
theorem d_RN_whole_118 : decode prog_1_method_18_code 118 = .ok (.aload_n 0, 1) := by decide +kernel
theorem d_RN_whole_119 : decode prog_1_method_18_code 119 = .ok (.getfield 32, 3) := by decide +kernel
theorem d_RN_whole_122 : decode prog_1_method_18_code 122 = .ok (.invokevirtual 159, 3) := by decide +kernel
theorem d_RN_whole_125 : decode prog_1_method_18_code 125 = .ok (.lstore 4, 2) := by decide +kernel
theorem d_RN_whole_127 : decode prog_1_method_18_code 127 = .ok (.aload_n 3, 1) := by decide +kernel
theorem d_RN_whole_128 : decode prog_1_method_18_code 128 = .ok (.getfield 80, 3) := by decide +kernel
theorem d_RN_whole_131 : decode prog_1_method_18_code 131 = .ok (.ifCond .ge 7, 3) := by decide +kernel
theorem d_RN_whole_134 : decode prog_1_method_18_code 134 = .ok (.lload 4, 2) := by decide +kernel
theorem d_RN_whole_136 : decode prog_1_method_18_code 136 = .ok (.lneg, 1) := by decide +kernel
theorem d_RN_whole_137 : decode prog_1_method_18_code 137 = .ok (.lreturn, 1) := by decide +kernel
theorem d_RN_whole_138 : decode prog_1_method_18_code 138 = .ok (.lload 4, 2) := by decide +kernel
theorem d_RN_whole_140 : decode prog_1_method_18_code 140 = .ok (.lconst 0, 1) := by decide +kernel
theorem d_RN_whole_141 : decode prog_1_method_18_code 141 = .ok (.lcmp, 1) := by decide +kernel
theorem d_RN_whole_142 : decode prog_1_method_18_code 142 = .ok (.ifCond .ge 9, 3) := by decide +kernel
theorem d_RN_whole_145 : decode prog_1_method_18_code 145 = .ok (.ldc2_w 145, 3) := by decide +kernel
theorem d_RN_whole_148 : decode prog_1_method_18_code 148 = .ok (.goto 5, 3) := by decide +kernel
theorem d_RN_whole_151 : decode prog_1_method_18_code 151 = .ok (.lload 4, 2) := by decide +kernel
theorem d_RN_whole_153 : decode prog_1_method_18_code 153 = .ok (.lreturn, 1) := by decide +kernel
def RN_whole_51 (L3 : Nat) (st : rn_S) : Int64 × rn_S := (if (rn_sg st L3) ≤ 0 then ((-9223372036854775808 : Int64), st) else ((9223372036854775807 : Int64), st))
def RN_whole_114 (L3 : Nat) (s0 : Int32) (s1 : Int32) (s2 : Int32) (st : rn_S) : Int64 × rn_S := bd (RE_roundAt st s2 s1 s0) (fun r114 t114 => nm (RE_wholePart t114) (fun r122 => (if 0 ≤ (rn_sg t114 L3) then (if 0 ≤ (lg_cmp r122 (0 : Int64)) then (r122, t114) else ((9223372036854775807 : Int64), t114)) else ((-r122), t114))))
def RN_whole (st : rn_S) (p0 : Int32) (p1 : Int32) : Int64 × rn_S := nm (RN_isTarget p0 p1) (fun r2 => (if r2 = 0 then ((0 : Int64), st) else (if (rn_kd st p0.toNatClampNeg) = 0 then ((0 : Int64), st) else (if (rn_kd st p0.toNatClampNeg) = (2 : Int32) then ((0 : Int64), st) else (if (rn_kd st p0.toNatClampNeg) = (1 : Int32) then RN_whole_51 p0.toNatClampNeg st else nm (RV_exponent st p0.toNatClampNeg) (fun r43 => (if r43 ≤ (63 : Int32) then nm (RE_clear st) (fun t72 => nm (RE_gather t72 p0.toNatClampNeg (1 : Int32)) (fun t81 => nm (RN_modeOnSize p1 (rn_sg t81 p0.toNatClampNeg)) (fun r94 => nm (RE_bit t81 (0 : Int32)) (fun r102 => (if r102 = (1 : Int32) then RN_whole_114 p0.toNatClampNeg (1 : Int32) r94 (0 : Int32) t81 else RN_whole_114 p0.toNatClampNeg (0 : Int32) r94 (0 : Int32) t81))))) else RN_whole_51 p0.toNatClampNeg st)))))))
set_option maxHeartbeats 4000000 in
set_option maxRecDepth 100000 in
theorem c_RN_whole (l : Launch) {D : va_G} (a : Nat → Nat) (ci co : ClassId) (hi : rn_inj a) (st : rn_S) (p0 : Int32) (p1 : Int32) (r0 : Int64) (t0 : rn_S) (hF : RN_whole st p0 p1 = (r0, t0)) : ct_l l ⟨"RoundedNumbers", "whole", "(II)J"⟩ (.code ⟨"RoundedNumbers", "whole", "(II)J"⟩ prog_1_method_18_code 6 (some .long) :: ct_T) { frames := 3, cells := 0, slots := 0, locals := 71 } D vwCl (rn_T ci co) (rn_g a ci co) (rn_X a) [.ref (a 0), .int p0, .int p1] st r0 t0 := by
  refine ct_l.mk (cc := prog_1_method_18_code) (maxL := 6) (by decide) rfl (Nat.le_of_ble_eq_true rfl) ?_
  intro p e s m below meth c hx hb hr hml hown hts hlk hK hN hP hS ls hl
  have hown : s.vm.findClass "RoundedNumbers" = some m.cls := hown
  have hl : lv_has ls 6 [(0, .ref (a 0)), (1, .int p0), (2, .int p1)] := hl
  have htb := fun w h => hts w (List.mem_cons_of_mem _ h)
  unfold RN_whole at hF
  refine lv_iload_n hx hb d_RN_whole_0 rfl (lv_at hl 1 rfl) ?_
  refine lv_iload_n hx hb d_RN_whole_1 rfl (lv_at hl 2 rfl) ?_
  obtain ⟨r2, e2⟩ := nm_ex (RN_isTarget p0 p1)
  replace hF := (nm_eq e2).symm.trans hF
  refine ct_calli (va_runS (As := [.int p0, .int p1]) (rest := []) ⟨hx, hb, hml, hown, hts⟩ (c_RN_isTarget l (D := D) a ci co hi st p0 p1 _ e2 _) (kc_RN_72 hts ⟨by decide, by decide⟩) ⟨ct_blind, ct_ok hP hK hN⟩ rfl rfl hl.1 rfl (lv_room (Nat.le_of_ble_eq_true rfl)) d_RN_whole_2 ⟨Nat.zero_le _, Nat.zero_le _⟩) hS (fun H locs hP hS => ?_)
  refine lv_if_ne hx hb d_RN_whole_5 (tgt := 10) (by decide) (fun c5 => ?_) (fun c5 => ?_)
  · replace hF := (if_neg c5).symm.trans hF
    refine lv_aload_n hx hb d_RN_whole_10 rfl (lv_at hl 0 rfl) ?_
    refine gf_RN_15 hx hb htb hown hK hP d_RN_whole_11 ?_
    refine lv_iload_n hx hb d_RN_whole_14 rfl (lv_at hl 1 rfl) ?_
    refine rn_ald_regs hx hb hK hP (tg_in e2 c5) d_RN_whole_15 ?_
    refine lv_astore_n (lv' := [(3, .ref (a (8 + p0.toNatClampNeg))), (0, .ref (a 0)), (1, .int p0), (2, .int p1)]) hx hb d_RN_whole_16 rfl hl (by decide) rfl (fun ls hl => ?_)
    refine lv_aload_n hx hb d_RN_whole_17 rfl (lv_at hl 0 rfl) ?_
    refine gf_RN_96 hx hb htb hown hK hP (i := p0.toNatClampNeg) (rn_lt10 (tg_in e2 c5)) d_RN_whole_18 ?_
    refine lv_if_eq hx hb d_RN_whole_21 (tgt := 32) (by decide) (fun c21 => ?_) (fun c21 => ?_)
    · replace hF := (if_pos c21).symm.trans hF
      refine lv_lconst (v := 0) hx hb d_RN_whole_32 (by decide) ?_
      obtain ⟨rfl, rfl⟩ := Prod.mk.inj hF
      exact ct_lret hx hb hr hlk hP hS d_RN_whole_33
    · replace hF := (if_neg c21).symm.trans hF
      refine lv_aload_n hx hb d_RN_whole_24 rfl (lv_at hl 0 rfl) ?_
      refine gf_RN_96 hx hb htb hown hK hP (i := p0.toNatClampNeg) (rn_lt10 (tg_in e2 c5)) d_RN_whole_25 ?_
      refine lv_iconst (v := 2) hx hb d_RN_whole_28 (by decide) ?_
      refine lv_icmp_ne hx hb d_RN_whole_29 (tgt := 34) (by decide) (fun c29 => ?_) (fun c29 => ?_)
      · replace hF := (if_neg c29).symm.trans hF
        refine lv_aload_n hx hb d_RN_whole_34 rfl (lv_at hl 0 rfl) ?_
        refine gf_RN_96 hx hb htb hown hK hP (i := p0.toNatClampNeg) (rn_lt10 (tg_in e2 c5)) d_RN_whole_35 ?_
        refine lv_iconst (v := 1) hx hb d_RN_whole_38 (by decide) ?_
        refine ct_cut0 (fun  ls H locs => lv_has ls 6 [(3, .ref (a (8 + p0.toNatClampNeg)))] ∧ RN_whole_51 p0.toNatClampNeg st = (r0, t0) ∧ va_P D vwCl (rn_g a ci co st) H ∧ va_S (ct_F (rn_X a) s.heap.size) s.heap H locs) 51 [] ?_ ?_
        · intro ls H locs hq
          obtain ⟨hl, hF, hP, hS⟩ := hq
          unfold RN_whole_51 at hF
          refine lv_aload_n hx hb d_RN_whole_51 rfl (lv_at hl 0 rfl) ?_
          refine gf_RN_80 hx hb htb hown hK hP (i := p0.toNatClampNeg) (rn_lt10 (tg_in e2 c5)) d_RN_whole_52 ?_
          refine lv_if_le hx hb d_RN_whole_55 (tgt := 64) (by decide) (fun c55 => ?_) (fun c55 => ?_)
          · replace hF := (if_pos c55).symm.trans hF
            refine lv_ldc2 (v := -9223372036854775808) hx hb hown (htb _ mw_222) d_RN_whole_64 ?_
            obtain ⟨rfl, rfl⟩ := Prod.mk.inj hF
            exact ct_lret hx hb hr hlk hP hS d_RN_whole_67
          · replace hF := (if_neg c55).symm.trans hF
            refine lv_ldc2 (v := 9223372036854775807) hx hb hown (htb _ mw_223) d_RN_whole_58 ?_
            refine lv_goto hx hb d_RN_whole_61 (tgt := 67) (by decide) ?_
            obtain ⟨rfl, rfl⟩ := Prod.mk.inj hF
            exact ct_lret hx hb hr hlk hP hS d_RN_whole_67
        · intro kj51
          refine lv_icmp_eq hx hb d_RN_whole_39 (tgt := 51) (by decide) (fun c39 => ?_) (fun c39 => ?_)
          · replace hF := (if_pos c39).symm.trans hF
            exact kj51 _ _ _ ⟨lv_sub hl [0] rfl, hF, hP, hS⟩
          · replace hF := (if_neg c39).symm.trans hF
            refine lv_aload_n hx hb d_RN_whole_42 rfl (lv_at hl 0 rfl) ?_
            obtain ⟨r43, e43⟩ := nm_ex (RV_exponent st p0.toNatClampNeg)
            replace hF := (nm_eq e43).symm.trans hF
            refine ct_calli (va_runV (As := []) (rest := []) ⟨hx, hb, hml, hown, hts⟩ (c_RV_exponent l (D := D) a ci co hi st p0.toNatClampNeg (rn_lt10 (tg_in e2 c5)) _ e43 _) (kc_RN_138 hts ⟨by decide, by decide⟩) ⟨ct_blind, rn_rc1 hK hP (rn_lt10 (tg_in e2 c5)), ct_ok hP hK hN⟩ rfl rfl hl.1 rfl (lv_room (Nat.le_of_ble_eq_true rfl)) d_RN_whole_43 ⟨Nat.zero_le _, Nat.zero_le _⟩) hS (fun H locs hP hS => ?_)
            refine lv_bipush (v := 63) hx hb d_RN_whole_46 (by decide) ?_
            refine lv_icmp_le hx hb d_RN_whole_48 (tgt := 68) (by decide) (fun c48 => ?_) (fun c48 => ?_)
            · replace hF := (if_pos c48).symm.trans hF
              refine lv_aload_n hx hb d_RN_whole_68 rfl (lv_at hl 1 rfl) ?_
              refine gf_RN_32 hx hb htb hown hK hP d_RN_whole_69 ?_
              obtain ⟨t72, e72⟩ := nm_ex (RE_clear st)
              replace hF := (nm_eq e72).symm.trans hF
              refine ct_callv (va_runV (As := []) (rest := []) ⟨hx, hb, hml, hown, hts⟩ (c_RE_clear l (D := D) a ci co hi st _ e72 _) (kc_RN_125 hts ⟨by decide, by decide⟩) ⟨ct_blind, rn_rc2 hK hP, ct_ok hP hK hN⟩ rfl rfl hl.1 rfl (lv_room (Nat.le_of_ble_eq_true rfl)) d_RN_whole_72 ⟨Nat.zero_le _, Nat.zero_le _⟩) hS (fun H locs hP hS => ?_)
              refine lv_aload_n hx hb d_RN_whole_75 rfl (lv_at hl 1 rfl) ?_
              refine gf_RN_32 hx hb htb hown hK hP d_RN_whole_76 ?_
              refine lv_aload_n hx hb d_RN_whole_79 rfl (lv_at hl 0 rfl) ?_
              refine lv_iconst (v := 1) hx hb d_RN_whole_80 (by decide) ?_
              obtain ⟨t81, e81⟩ := nm_ex (RE_gather t72 p0.toNatClampNeg (1 : Int32))
              replace hF := (nm_eq e81).symm.trans hF
              refine ct_callv (va_runV (As := [.ref (a (8 + p0.toNatClampNeg)), .int (1 : Int32)]) (rest := []) ⟨hx, hb, hml, hown, hts⟩ (c_RE_gather l (D := D) a ci co hi t72 p0.toNatClampNeg (1 : Int32) (rn_lt10 (tg_in e2 c5)) _ e81 _) (kc_RN_128 hts ⟨by decide, by decide⟩) ⟨ct_blind, rn_rc2 hK hP, ct_ok hP hK hN⟩ rfl rfl hl.1 rfl (lv_room (Nat.le_of_ble_eq_true rfl)) d_RN_whole_81 ⟨Nat.zero_le _, Nat.zero_le _⟩) hS (fun H locs hP hS => ?_)
              refine lv_aload_n hx hb d_RN_whole_84 rfl (lv_at hl 1 rfl) ?_
              refine gf_RN_32 hx hb htb hown hK hP d_RN_whole_85 ?_
              refine lv_iconst (v := 0) hx hb d_RN_whole_88 (by decide) ?_
              refine lv_iload_n hx hb d_RN_whole_89 rfl (lv_at hl 3 rfl) ?_
              refine lv_aload_n hx hb d_RN_whole_90 rfl (lv_at hl 0 rfl) ?_
              refine gf_RN_80 hx hb htb hown hK hP (i := p0.toNatClampNeg) (rn_lt10 (tg_in e2 c5)) d_RN_whole_91 ?_
              obtain ⟨r94, e94⟩ := nm_ex (RN_modeOnSize p1 (rn_sg t81 p0.toNatClampNeg))
              replace hF := (nm_eq e94).symm.trans hF
              refine ct_calli (va_runS (As := [.int p1, .int (rn_sg t81 p0.toNatClampNeg)]) (rest := [.int (0 : Int32), .ref (a 3)]) ⟨hx, hb, hml, hown, hts⟩ (c_RN_modeOnSize l (D := D) a ci co hi t81 p1 (rn_sg t81 p0.toNatClampNeg) _ e94 _) (kc_RN_149 hts ⟨by decide, by decide⟩) ⟨ct_blind, ct_ok hP hK hN⟩ rfl rfl hl.1 rfl (lv_room (Nat.le_of_ble_eq_true rfl)) d_RN_whole_94 ⟨Nat.zero_le _, Nat.zero_le _⟩) hS (fun H locs hP hS => ?_)
              refine lv_aload_n hx hb d_RN_whole_97 rfl (lv_at hl 1 rfl) ?_
              refine gf_RN_32 hx hb htb hown hK hP d_RN_whole_98 ?_
              refine lv_iconst (v := 0) hx hb d_RN_whole_101 (by decide) ?_
              obtain ⟨r102, e102⟩ := nm_ex (RE_bit t81 (0 : Int32))
              replace hF := (nm_eq e102).symm.trans hF
              refine ct_calli (va_runV (As := [.int (0 : Int32)]) (rest := [.int r94, .int (0 : Int32), .ref (a 3)]) ⟨hx, hb, hml, hown, hts⟩ (c_RE_bit l (D := D) a ci co hi t81 (0 : Int32) _ e102 _) (kc_RN_152 hts ⟨by decide, by decide⟩) ⟨ct_blind, rn_rc2 hK hP, ct_ok hP hK hN⟩ rfl rfl hl.1 rfl (lv_room (Nat.le_of_ble_eq_true rfl)) d_RN_whole_102 ⟨Nat.zero_le _, Nat.zero_le _⟩) hS (fun H locs hP hS => ?_)
              refine lv_iconst (v := 1) hx hb d_RN_whole_105 (by decide) ?_
              refine ct_cut1 (fun (j114s0 : Int32) ls H locs => lv_has ls 6 [(3, .ref (a (8 + p0.toNatClampNeg))), (0, .ref (a 0))] ∧ RN_whole_114 p0.toNatClampNeg j114s0 r94 (0 : Int32) t81 = (r0, t0) ∧ va_P D vwCl (rn_g a ci co t81) H ∧ va_S (ct_F (rn_X a) s.heap.size) s.heap H locs) 114 (fun j114s0 => [.int j114s0, .int r94, .int (0 : Int32), .ref (a 3)]) ?_ ?_
              · intro j114s0 ls H locs hq
                obtain ⟨hl, hF, hP, hS⟩ := hq
                unfold RN_whole_114 at hF
                obtain ⟨r114, t114, e114⟩ := bd_ex (RE_roundAt t81 (0 : Int32) r94 j114s0)
                replace hF := (bd_eq e114).symm.trans hF
                refine ct_calli (va_runV (As := [.int (0 : Int32), .int r94, .int j114s0]) (rest := []) ⟨hx, hb, hml, hown, hts⟩ (c_RE_roundAt l (D := D) a ci co hi t81 (0 : Int32) r94 j114s0 _ _ e114 _) (kc_RN_155 hts ⟨by decide, by decide⟩) ⟨ct_blind, rn_rc2 hK hP, ct_ok hP hK hN⟩ rfl rfl hl.1 rfl (lv_room (Nat.le_of_ble_eq_true rfl)) d_RN_whole_114 ⟨Nat.zero_le _, Nat.zero_le _⟩) hS (fun H locs hP hS => ?_)
                refine lv_pop hx hb d_RN_whole_117 rfl ?_
                refine lv_aload_n hx hb d_RN_whole_118 rfl (lv_at hl 1 rfl) ?_
                refine gf_RN_32 hx hb htb hown hK hP d_RN_whole_119 ?_
                obtain ⟨r122, e122⟩ := nm_ex (RE_wholePart t114)
                replace hF := (nm_eq e122).symm.trans hF
                refine ct_calll (va_runV (As := []) (rest := []) ⟨hx, hb, hml, hown, hts⟩ (c_RE_wholePart l (D := D) a ci co hi t114 _ e122 _) (kc_RN_159 hts ⟨by decide, by decide⟩) ⟨ct_blind, rn_rc2 hK hP, ct_ok hP hK hN⟩ rfl rfl hl.1 rfl (lv_room (Nat.le_of_ble_eq_true rfl)) d_RN_whole_122 ⟨Nat.zero_le _, Nat.zero_le _⟩) hS (fun H locs hP hS => ?_)
                refine lv_lstore (lv' := [(4, .long r122), (3, .ref (a (8 + p0.toNatClampNeg))), (0, .ref (a 0))]) hx hb d_RN_whole_125 hl (by decide) rfl (fun ls hl => ?_)
                refine lv_aload_n hx hb d_RN_whole_127 rfl (lv_at hl 1 rfl) ?_
                refine gf_RN_80 hx hb htb hown hK hP (i := p0.toNatClampNeg) (rn_lt10 (tg_in e2 c5)) d_RN_whole_128 ?_
                refine lv_if_ge hx hb d_RN_whole_131 (tgt := 138) (by decide) (fun c131 => ?_) (fun c131 => ?_)
                · replace hF := (if_pos c131).symm.trans hF
                  refine lv_lload hx hb d_RN_whole_138 (lv_at hl 0 rfl) ?_
                  refine lv_lconst (v := 0) hx hb d_RN_whole_140 (by decide) ?_
                  refine W.lcmp hx hb d_RN_whole_141 ?_
                  refine lv_if_ge hx hb d_RN_whole_142 (tgt := 151) (by decide) (fun c142 => ?_) (fun c142 => ?_)
                  · replace hF := (if_pos c142).symm.trans hF
                    refine lv_lload hx hb d_RN_whole_151 (lv_at hl 0 rfl) ?_
                    obtain ⟨rfl, rfl⟩ := Prod.mk.inj hF
                    exact ct_lret hx hb hr hlk hP hS d_RN_whole_153
                  · replace hF := (if_neg c142).symm.trans hF
                    refine lv_ldc2 (v := 9223372036854775807) hx hb hown (htb _ mw_223) d_RN_whole_145 ?_
                    refine lv_goto hx hb d_RN_whole_148 (tgt := 153) (by decide) ?_
                    obtain ⟨rfl, rfl⟩ := Prod.mk.inj hF
                    exact ct_lret hx hb hr hlk hP hS d_RN_whole_153
                · replace hF := (if_neg c131).symm.trans hF
                  refine lv_lload hx hb d_RN_whole_134 (lv_at hl 0 rfl) ?_
                  refine lv_lneg hx hb d_RN_whole_136 ?_
                  obtain ⟨rfl, rfl⟩ := Prod.mk.inj hF
                  exact ct_lret hx hb hr hlk hP hS d_RN_whole_137
              · intro kj114
                refine lv_icmp_ne hx hb d_RN_whole_106 (tgt := 113) (by decide) (fun c106 => ?_) (fun c106 => ?_)
                · replace hF := (if_neg c106).symm.trans hF
                  refine lv_iconst (v := 0) hx hb d_RN_whole_113 (by decide) ?_
                  exact kj114 (0 : Int32) _ _ _ ⟨lv_sub hl [0, 1] rfl, hF, hP, hS⟩
                · replace hF := (if_pos c106).symm.trans hF
                  refine lv_iconst (v := 1) hx hb d_RN_whole_109 (by decide) ?_
                  refine lv_goto hx hb d_RN_whole_110 (tgt := 114) (by decide) ?_
                  exact kj114 (1 : Int32) _ _ _ ⟨lv_sub hl [0, 1] rfl, hF, hP, hS⟩
            · replace hF := (if_neg c48).symm.trans hF
              exact kj51 _ _ _ ⟨lv_sub hl [0] rfl, hF, hP, hS⟩
      · replace hF := (if_pos c29).symm.trans hF
        refine lv_lconst (v := 0) hx hb d_RN_whole_32 (by decide) ?_
        obtain ⟨rfl, rfl⟩ := Prod.mk.inj hF
        exact ct_lret hx hb hr hlk hP hS d_RN_whole_33
  · replace hF := (if_pos c5).symm.trans hF
    refine lv_lconst (v := 0) hx hb d_RN_whole_8 (by decide) ?_
    obtain ⟨rfl, rfl⟩ := Prod.mk.inj hF
    exact ct_lret hx hb hr hlk hP hS d_RN_whole_9
