theorem d_RN_isRegister_0 : decode prog_1_method_19_code 0 = .ok (.iload_n 0, 1) := by decide +kernel
theorem d_RN_isRegister_1 : decode prog_1_method_19_code 1 = .ok (.ifCond .lt 13, 3) := by decide +kernel
theorem d_RN_isRegister_4 : decode prog_1_method_19_code 4 = .ok (.iload_n 0, 1) := by decide +kernel
theorem d_RN_isRegister_5 : decode prog_1_method_19_code 5 = .ok (.bipush 8, 2) := by decide +kernel
theorem d_RN_isRegister_7 : decode prog_1_method_19_code 7 = .ok (.if_icmp .ge 7, 3) := by decide +kernel
theorem d_RN_isRegister_10 : decode prog_1_method_19_code 10 = .ok (.iconst 1, 1) := by decide +kernel
theorem d_RN_isRegister_11 : decode prog_1_method_19_code 11 = .ok (.goto 4, 3) := by decide +kernel
theorem d_RN_isRegister_14 : decode prog_1_method_19_code 14 = .ok (.iconst 0, 1) := by decide +kernel
theorem d_RN_isRegister_15 : decode prog_1_method_19_code 15 = .ok (.ireturn, 1) := by decide +kernel
def RN_isRegister (p0 : Int32) : Int32 := (if p0 < 0 then (0 : Int32) else (if (8 : Int32) ≤ p0 then (0 : Int32) else (1 : Int32)))
set_option maxHeartbeats 4000000 in
set_option maxRecDepth 100000 in
theorem c_RN_isRegister (l : Launch) {D : va_G} (a : Nat → Nat) (ci co : ClassId) (hi : rn_inj a) (st : rn_S) (p0 : Int32) (r0 : Int32) (hF : RN_isRegister p0 = r0) : ct_i l ⟨"RoundedNumbers", "isRegister", "(I)Z"⟩ (.code ⟨"RoundedNumbers", "isRegister", "(I)Z"⟩ prog_1_method_19_code 1 (some .boolean) :: ct_T) { frames := 0, cells := 0, slots := 0, locals := 0 } D vwCl (rn_T ci co) (rn_g a ci co) (rn_X a) [.int p0] st r0 st := by
  refine ct_i.mk (cc := prog_1_method_19_code) (maxL := 1) (by decide) rfl (Nat.le_of_ble_eq_true rfl) ?_
  intro p e s m below meth c hx hb hr hml hown hts hlk hK hN hP hS ls hl
  have hown : s.vm.findClass "RoundedNumbers" = some m.cls := hown
  have hl : lv_has ls 1 [(0, .int p0)] := hl
  have htb := fun w h => hts w (List.mem_cons_of_mem _ h)
  unfold RN_isRegister at hF
  refine lv_iload_n hx hb d_RN_isRegister_0 rfl (lv_at hl 0 rfl) ?_
  refine lv_if_lt hx hb d_RN_isRegister_1 (tgt := 14) (by decide) (fun c1 => ?_) (fun c1 => ?_)
  · replace hF := (if_pos c1).symm.trans hF
    refine lv_iconst (v := 0) hx hb d_RN_isRegister_14 (by decide) ?_
    subst hF
    exact ct_zret hx hb hr hlk (by decide) hP hS d_RN_isRegister_15
  · replace hF := (if_neg c1).symm.trans hF
    refine lv_iload_n hx hb d_RN_isRegister_4 rfl (lv_at hl 0 rfl) ?_
    refine lv_bipush (v := 8) hx hb d_RN_isRegister_5 (by decide) ?_
    refine lv_icmp_ge hx hb d_RN_isRegister_7 (tgt := 14) (by decide) (fun c7 => ?_) (fun c7 => ?_)
    · replace hF := (if_pos c7).symm.trans hF
      refine lv_iconst (v := 0) hx hb d_RN_isRegister_14 (by decide) ?_
      subst hF
      exact ct_zret hx hb hr hlk (by decide) hP hS d_RN_isRegister_15
    · replace hF := (if_neg c7).symm.trans hF
      refine lv_iconst (v := 1) hx hb d_RN_isRegister_10 (by decide) ?_
      refine lv_goto hx hb d_RN_isRegister_11 (tgt := 15) (by decide) ?_
      subst hF
      exact ct_zret hx hb hr hlk (by decide) hP hS d_RN_isRegister_15
theorem rg_in {x r : Int32} (e : RN_isRegister x = r) (h : ¬ r = 0) : vp_in x 8 := by
  unfold RN_isRegister at e
  by_cases h1 : x < 0
  · rw [if_pos h1] at e
    exact absurd e.symm h
  · rw [if_neg h1] at e
    by_cases h2 : (8 : Int32) ≤ x
    · rw [if_pos h2] at e
      exact absurd e.symm h
    · rw [Int32.lt_iff_toInt_lt] at h1
      rw [Int32.le_iff_toInt_le] at h2
      have e0 : (0 : Int32).toInt = 0 := rfl
      have e1 : (8 : Int32).toInt = 8 := rfl
      exact vp_in_iff.mpr ⟨by omega, by omega⟩
theorem d_RN_isTarget_0 : decode prog_1_method_20_code 0 = .ok (.iload_n 0, 1) := by decide +kernel
theorem d_RN_isTarget_1 : decode prog_1_method_20_code 1 = .ok (.invokestatic 64, 3) := by decide +kernel
theorem d_RN_isTarget_4 : decode prog_1_method_20_code 4 = .ok (.ifCond .eq 16, 3) := by decide +kernel
theorem d_RN_isTarget_7 : decode prog_1_method_20_code 7 = .ok (.iload_n 1, 1) := by decide +kernel
theorem d_RN_isTarget_8 : decode prog_1_method_20_code 8 = .ok (.ifCond .lt 12, 3) := by decide +kernel
theorem d_RN_isTarget_11 : decode prog_1_method_20_code 11 = .ok (.iload_n 1, 1) := by decide +kernel
theorem d_RN_isTarget_12 : decode prog_1_method_20_code 12 = .ok (.iconst 4, 1) := by decide +kernel
theorem d_RN_isTarget_13 : decode prog_1_method_20_code 13 = .ok (.if_icmp .gt 7, 3) := by decide +kernel
theorem d_RN_isTarget_16 : decode prog_1_method_20_code 16 = .ok (.iconst 1, 1) := by decide +kernel
theorem d_RN_isTarget_17 : decode prog_1_method_20_code 17 = .ok (.goto 4, 3) := by decide +kernel
theorem d_RN_isTarget_20 : decode prog_1_method_20_code 20 = .ok (.iconst 0, 1) := by decide +kernel
theorem d_RN_isTarget_21 : decode prog_1_method_20_code 21 = .ok (.ireturn, 1) := by decide +kernel
def RN_isTarget (p0 : Int32) (p1 : Int32) : Int32 := nm (RN_isRegister p0) (fun r1 => (if r1 = 0 then (0 : Int32) else (if p1 < 0 then (0 : Int32) else (if (4 : Int32) < p1 then (0 : Int32) else (1 : Int32)))))
set_option maxHeartbeats 4000000 in
set_option maxRecDepth 100000 in
theorem c_RN_isTarget (l : Launch) {D : va_G} (a : Nat → Nat) (ci co : ClassId) (hi : rn_inj a) (st : rn_S) (p0 : Int32) (p1 : Int32) (r0 : Int32) (hF : RN_isTarget p0 p1 = r0) : ct_i l ⟨"RoundedNumbers", "isTarget", "(II)Z"⟩ (.code ⟨"RoundedNumbers", "isTarget", "(II)Z"⟩ prog_1_method_20_code 2 (some .boolean) :: ct_T) { frames := 1, cells := 0, slots := 0, locals := 20 } D vwCl (rn_T ci co) (rn_g a ci co) (rn_X a) [.int p0, .int p1] st r0 st := by
  refine ct_i.mk (cc := prog_1_method_20_code) (maxL := 2) (by decide) rfl (Nat.le_of_ble_eq_true rfl) ?_
  intro p e s m below meth c hx hb hr hml hown hts hlk hK hN hP hS ls hl
  have hown : s.vm.findClass "RoundedNumbers" = some m.cls := hown
  have hl : lv_has ls 2 [(0, .int p0), (1, .int p1)] := hl
  have htb := fun w h => hts w (List.mem_cons_of_mem _ h)
  unfold RN_isTarget at hF
  refine lv_iload_n hx hb d_RN_isTarget_0 rfl (lv_at hl 0 rfl) ?_
  obtain ⟨r1, e1⟩ := nm_ex (RN_isRegister p0)
  replace hF := (nm_eq e1).symm.trans hF
  refine ct_calli (va_runS (As := [.int p0]) (rest := []) ⟨hx, hb, hml, hown, hts⟩ (c_RN_isRegister l (D := D) a ci co hi st p0 _ e1 _) (kc_RN_64 hts ⟨by decide, by decide⟩) ⟨ct_blind, ct_ok hP hK hN⟩ rfl rfl hl.1 rfl (lv_room (Nat.le_of_ble_eq_true rfl)) d_RN_isTarget_1 ⟨Nat.zero_le _, Nat.zero_le _⟩) hS (fun H locs hP hS => ?_)
  refine lv_if_eq hx hb d_RN_isTarget_4 (tgt := 20) (by decide) (fun c4 => ?_) (fun c4 => ?_)
  · replace hF := (if_pos c4).symm.trans hF
    refine lv_iconst (v := 0) hx hb d_RN_isTarget_20 (by decide) ?_
    subst hF
    exact ct_zret hx hb hr hlk (by decide) hP hS d_RN_isTarget_21
  · replace hF := (if_neg c4).symm.trans hF
    refine lv_iload_n hx hb d_RN_isTarget_7 rfl (lv_at hl 1 rfl) ?_
    refine lv_if_lt hx hb d_RN_isTarget_8 (tgt := 20) (by decide) (fun c8 => ?_) (fun c8 => ?_)
    · replace hF := (if_pos c8).symm.trans hF
      refine lv_iconst (v := 0) hx hb d_RN_isTarget_20 (by decide) ?_
      subst hF
      exact ct_zret hx hb hr hlk (by decide) hP hS d_RN_isTarget_21
    · replace hF := (if_neg c8).symm.trans hF
      refine lv_iload_n hx hb d_RN_isTarget_11 rfl (lv_at hl 1 rfl) ?_
      refine lv_iconst (v := 4) hx hb d_RN_isTarget_12 (by decide) ?_
      refine lv_icmp_gt hx hb d_RN_isTarget_13 (tgt := 20) (by decide) (fun c13 => ?_) (fun c13 => ?_)
      · replace hF := (if_pos c13).symm.trans hF
        refine lv_iconst (v := 0) hx hb d_RN_isTarget_20 (by decide) ?_
        subst hF
        exact ct_zret hx hb hr hlk (by decide) hP hS d_RN_isTarget_21
      · replace hF := (if_neg c13).symm.trans hF
        refine lv_iconst (v := 1) hx hb d_RN_isTarget_16 (by decide) ?_
        refine lv_goto hx hb d_RN_isTarget_17 (tgt := 21) (by decide) ?_
        subst hF
        exact ct_zret hx hb hr hlk (by decide) hP hS d_RN_isTarget_21
theorem tg_in {x m r : Int32} (e : RN_isTarget x m = r) (h : ¬ r = 0) : vp_in x 8 := by
  unfold RN_isTarget at e
  obtain ⟨z, ez⟩ := nm_ex (RN_isRegister x)
  replace e := (nm_eq ez).symm.trans e
  by_cases h1 : z = 0
  · rw [if_pos h1] at e
    exact absurd e.symm h
  · exact rg_in ez h1
theorem d_RN_storePlain_0 : decode prog_1_method_26_code 0 = .ok (.aload_n 0, 1) := by decide +kernel
theorem d_RN_storePlain_1 : decode prog_1_method_26_code 1 = .ok (.getfield 15, 3) := by decide +kernel
theorem d_RN_storePlain_4 : decode prog_1_method_26_code 4 = .ok (.iload_n 1, 1) := by decide +kernel
theorem d_RN_storePlain_5 : decode prog_1_method_26_code 5 = .ok (.aaload, 1) := by decide +kernel
theorem d_RN_storePlain_6 : decode prog_1_method_26_code 6 = .ok (.iload_n 2, 1) := by decide +kernel
theorem d_RN_storePlain_7 : decode prog_1_method_26_code 7 = .ok (.iload_n 2, 1) := by decide +kernel
theorem d_RN_storePlain_8 : decode prog_1_method_26_code 8 = .ok (.ifCond .ne 7, 3) := by decide +kernel
theorem d_RN_storePlain_11 : decode prog_1_method_26_code 11 = .ok (.iconst 0, 1) := by decide +kernel
theorem d_RN_storePlain_12 : decode prog_1_method_26_code 12 = .ok (.goto 4, 3) := by decide +kernel
theorem d_RN_storePlain_15 : decode prog_1_method_26_code 15 = .ok (.iload_n 3, 1) := by decide +kernel
theorem d_RN_storePlain_16 : decode prog_1_method_26_code 16 = .ok (.invokevirtual 68, 3) := by decide +kernel
theorem d_RN_storePlain_19 : decode prog_1_method_26_code 19 = .ok (.iconst 0, 1) := by decide +kernel
theorem d_RN_storePlain_20 : decode prog_1_method_26_code 20 = .ok (.ireturn, 1) := by decide +kernel
def RN_storePlain_16 (s0 : Int32) (s1 : Int32) (s2 : Nat) (st : rn_S) : Int32 × rn_S := nm (RV_become st s2 s1 s0) (fun t16 => ((0 : Int32), t16))
def RN_storePlain (st : rn_S) (p0 : Int32) (p1 : Int32) (p2 : Int32) : Int32 × rn_S := (if p1 = 0 then RN_storePlain_16 (0 : Int32) p1 p0.toNatClampNeg st else RN_storePlain_16 p2 p1 p0.toNatClampNeg st)
set_option maxHeartbeats 4000000 in
set_option maxRecDepth 100000 in
theorem c_RN_storePlain (l : Launch) {D : va_G} (a : Nat → Nat) (ci co : ClassId) (hi : rn_inj a) (st : rn_S) (p0 : Int32) (p1 : Int32) (p2 : Int32) (hd : vp_in p0 8) (r0 : Int32) (t0 : rn_S) (hF : RN_storePlain st p0 p1 p2 = (r0, t0)) : ct_i l ⟨"RoundedNumbers", "storePlain", "(III)I"⟩ (.code ⟨"RoundedNumbers", "storePlain", "(III)I"⟩ prog_1_method_26_code 4 (some .int) :: ct_T) { frames := 1, cells := 0, slots := 0, locals := 22 } D vwCl (rn_T ci co) (rn_g a ci co) (rn_X a) [.ref (a 0), .int p0, .int p1, .int p2] st r0 t0 := by
  refine ct_i.mk (cc := prog_1_method_26_code) (maxL := 4) (by decide) rfl (Nat.le_of_ble_eq_true rfl) ?_
  intro p e s m below meth c hx hb hr hml hown hts hlk hK hN hP hS ls hl
  have hown : s.vm.findClass "RoundedNumbers" = some m.cls := hown
  have hl : lv_has ls 4 [(0, .ref (a 0)), (1, .int p0), (2, .int p1), (3, .int p2)] := hl
  have htb := fun w h => hts w (List.mem_cons_of_mem _ h)
  unfold RN_storePlain at hF
  refine lv_aload_n hx hb d_RN_storePlain_0 rfl (lv_at hl 0 rfl) ?_
  refine gf_RN_15 hx hb htb hown hK hP d_RN_storePlain_1 ?_
  refine lv_iload_n hx hb d_RN_storePlain_4 rfl (lv_at hl 1 rfl) ?_
  refine rn_ald_regs hx hb hK hP hd d_RN_storePlain_5 ?_
  refine lv_iload_n hx hb d_RN_storePlain_6 rfl (lv_at hl 2 rfl) ?_
  refine lv_iload_n hx hb d_RN_storePlain_7 rfl (lv_at hl 2 rfl) ?_
  refine ct_cut1 (fun (j16s0 : Int32) ls H locs => lv_has ls 4 [] ∧ RN_storePlain_16 j16s0 p1 p0.toNatClampNeg st = (r0, t0) ∧ va_P D vwCl (rn_g a ci co st) H ∧ va_S (ct_F (rn_X a) s.heap.size) s.heap H locs) 16 (fun j16s0 => [.int j16s0, .int p1, .ref (a (8 + p0.toNatClampNeg))]) ?_ ?_
  · intro j16s0 ls H locs hq
    obtain ⟨hl, hF, hP, hS⟩ := hq
    unfold RN_storePlain_16 at hF
    obtain ⟨t16, e16⟩ := nm_ex (RV_become st p0.toNatClampNeg p1 j16s0)
    replace hF := (nm_eq e16).symm.trans hF
    refine ct_callv (va_runV (As := [.int p1, .int j16s0]) (rest := []) ⟨hx, hb, hml, hown, hts⟩ (c_RV_become l (D := D) a ci co hi st p0.toNatClampNeg p1 j16s0 (rn_lt10 hd) _ e16 _) (kc_RN_68 hts ⟨by decide, by decide⟩) ⟨ct_blind, rn_rc1 hK hP (rn_lt10 hd), ct_ok hP hK hN⟩ rfl rfl hl.1 rfl (lv_room (Nat.le_of_ble_eq_true rfl)) d_RN_storePlain_16 ⟨Nat.zero_le _, Nat.zero_le _⟩) hS (fun H locs hP hS => ?_)
    refine lv_iconst (v := 0) hx hb d_RN_storePlain_19 (by decide) ?_
    obtain ⟨rfl, rfl⟩ := Prod.mk.inj hF
    exact ct_iret hx hb hr hlk hP hS d_RN_storePlain_20
  · intro kj16
    refine lv_if_ne hx hb d_RN_storePlain_8 (tgt := 15) (by decide) (fun c8 => ?_) (fun c8 => ?_)
    · replace hF := (if_neg c8).symm.trans hF
      refine lv_iload_n hx hb d_RN_storePlain_15 rfl (lv_at hl 3 rfl) ?_
      exact kj16 p2 _ _ _ ⟨lv_sub hl [] rfl, hF, hP, hS⟩
    · replace hF := (if_pos c8).symm.trans hF
      refine lv_iconst (v := 0) hx hb d_RN_storePlain_11 (by decide) ?_
      refine lv_goto hx hb d_RN_storePlain_12 (tgt := 16) (by decide) ?_
      exact kj16 (0 : Int32) _ _ _ ⟨lv_sub hl [] rfl, hF, hP, hS⟩
theorem d_RN_modeOnSize_0 : decode prog_1_method_22_code 0 = .ok (.iload_n 0, 1) := by decide +kernel
theorem d_RN_modeOnSize_1 : decode prog_1_method_22_code 1 = .ok (.iconst 2, 1) := by decide +kernel
theorem d_RN_modeOnSize_2 : decode prog_1_method_22_code 2 = .ok (.if_icmp .ne 13, 3) := by decide +kernel
theorem d_RN_modeOnSize_5 : decode prog_1_method_22_code 5 = .ok (.iload_n 1, 1) := by decide +kernel
theorem d_RN_modeOnSize_6 : decode prog_1_method_22_code 6 = .ok (.ifCond .le 7, 3) := by decide +kernel
theorem d_RN_modeOnSize_9 : decode prog_1_method_22_code 9 = .ok (.iconst 4, 1) := by decide +kernel
theorem d_RN_modeOnSize_10 : decode prog_1_method_22_code 10 = .ok (.goto 4, 3) := by decide +kernel
theorem d_RN_modeOnSize_13 : decode prog_1_method_22_code 13 = .ok (.iconst 1, 1) := by decide +kernel
theorem d_RN_modeOnSize_14 : decode prog_1_method_22_code 14 = .ok (.ireturn, 1) := by decide +kernel
theorem d_RN_modeOnSize_15 : decode prog_1_method_22_code 15 = .ok (.iload_n 0, 1) := by decide +kernel
theorem d_RN_modeOnSize_16 : decode prog_1_method_22_code 16 = .ok (.iconst 3, 1) := by decide +kernel
theorem d_RN_modeOnSize_17 : decode prog_1_method_22_code 17 = .ok (.if_icmp .ne 13, 3) := by decide +kernel
theorem d_RN_modeOnSize_20 : decode prog_1_method_22_code 20 = .ok (.iload_n 1, 1) := by decide +kernel
theorem d_RN_modeOnSize_21 : decode prog_1_method_22_code 21 = .ok (.ifCond .le 7, 3) := by decide +kernel
theorem d_RN_modeOnSize_24 : decode prog_1_method_22_code 24 = .ok (.iconst 1, 1) := by decide +kernel
theorem d_RN_modeOnSize_25 : decode prog_1_method_22_code 25 = .ok (.goto 4, 3) := by decide +kernel
theorem d_RN_modeOnSize_28 : decode prog_1_method_22_code 28 = .ok (.iconst 4, 1) := by decide +kernel
theorem d_RN_modeOnSize_29 : decode prog_1_method_22_code 29 = .ok (.ireturn, 1) := by decide +kernel
theorem d_RN_modeOnSize_30 : decode prog_1_method_22_code 30 = .ok (.iload_n 0, 1) := by decide +kernel
theorem d_RN_modeOnSize_31 : decode prog_1_method_22_code 31 = .ok (.ireturn, 1) := by decide +kernel
def RN_modeOnSize (p0 : Int32) (p1 : Int32) : Int32 := (if p0 = (2 : Int32) then (if p1 ≤ 0 then (1 : Int32) else (4 : Int32)) else (if p0 = (3 : Int32) then (if p1 ≤ 0 then (4 : Int32) else (1 : Int32)) else p0))
set_option maxHeartbeats 4000000 in
set_option maxRecDepth 100000 in
theorem c_RN_modeOnSize (l : Launch) {D : va_G} (a : Nat → Nat) (ci co : ClassId) (hi : rn_inj a) (st : rn_S) (p0 : Int32) (p1 : Int32) (r0 : Int32) (hF : RN_modeOnSize p0 p1 = r0) : ct_i l ⟨"RoundedNumbers", "modeOnSize", "(II)I"⟩ (.code ⟨"RoundedNumbers", "modeOnSize", "(II)I"⟩ prog_1_method_22_code 2 (some .int) :: ct_T) { frames := 0, cells := 0, slots := 0, locals := 0 } D vwCl (rn_T ci co) (rn_g a ci co) (rn_X a) [.int p0, .int p1] st r0 st := by
  refine ct_i.mk (cc := prog_1_method_22_code) (maxL := 2) (by decide) rfl (Nat.le_of_ble_eq_true rfl) ?_
  intro p e s m below meth c hx hb hr hml hown hts hlk hK hN hP hS ls hl
  have hown : s.vm.findClass "RoundedNumbers" = some m.cls := hown
  have hl : lv_has ls 2 [(0, .int p0), (1, .int p1)] := hl
  have htb := fun w h => hts w (List.mem_cons_of_mem _ h)
  unfold RN_modeOnSize at hF
  refine lv_iload_n hx hb d_RN_modeOnSize_0 rfl (lv_at hl 0 rfl) ?_
  refine lv_iconst (v := 2) hx hb d_RN_modeOnSize_1 (by decide) ?_
  refine lv_icmp_ne hx hb d_RN_modeOnSize_2 (tgt := 15) (by decide) (fun c2 => ?_) (fun c2 => ?_)
  · replace hF := (if_neg c2).symm.trans hF
    refine lv_iload_n hx hb d_RN_modeOnSize_15 rfl (lv_at hl 0 rfl) ?_
    refine lv_iconst (v := 3) hx hb d_RN_modeOnSize_16 (by decide) ?_
    refine lv_icmp_ne hx hb d_RN_modeOnSize_17 (tgt := 30) (by decide) (fun c17 => ?_) (fun c17 => ?_)
    · replace hF := (if_neg c17).symm.trans hF
      refine lv_iload_n hx hb d_RN_modeOnSize_30 rfl (lv_at hl 0 rfl) ?_
      subst hF
      exact ct_iret hx hb hr hlk hP hS d_RN_modeOnSize_31
    · replace hF := (if_pos c17).symm.trans hF
      refine lv_iload_n hx hb d_RN_modeOnSize_20 rfl (lv_at hl 1 rfl) ?_
      refine lv_if_le hx hb d_RN_modeOnSize_21 (tgt := 28) (by decide) (fun c21 => ?_) (fun c21 => ?_)
      · replace hF := (if_pos c21).symm.trans hF
        refine lv_iconst (v := 4) hx hb d_RN_modeOnSize_28 (by decide) ?_
        subst hF
        exact ct_iret hx hb hr hlk hP hS d_RN_modeOnSize_29
      · replace hF := (if_neg c21).symm.trans hF
        refine lv_iconst (v := 1) hx hb d_RN_modeOnSize_24 (by decide) ?_
        refine lv_goto hx hb d_RN_modeOnSize_25 (tgt := 29) (by decide) ?_
        subst hF
        exact ct_iret hx hb hr hlk hP hS d_RN_modeOnSize_29
  · replace hF := (if_pos c2).symm.trans hF
    refine lv_iload_n hx hb d_RN_modeOnSize_5 rfl (lv_at hl 1 rfl) ?_
    refine lv_if_le hx hb d_RN_modeOnSize_6 (tgt := 13) (by decide) (fun c6 => ?_) (fun c6 => ?_)
    · replace hF := (if_pos c6).symm.trans hF
      refine lv_iconst (v := 1) hx hb d_RN_modeOnSize_13 (by decide) ?_
      subst hF
      exact ct_iret hx hb hr hlk hP hS d_RN_modeOnSize_14
    · replace hF := (if_neg c6).symm.trans hF
      refine lv_iconst (v := 4) hx hb d_RN_modeOnSize_9 (by decide) ?_
      refine lv_goto hx hb d_RN_modeOnSize_10 (tgt := 14) (by decide) ?_
      subst hF
      exact ct_iret hx hb hr hlk hP hS d_RN_modeOnSize_14
theorem d_RN_isOdd_0 : decode prog_1_method_31_code 0 = .ok (.iload_n 0, 1) := by decide +kernel
theorem d_RN_isOdd_1 : decode prog_1_method_31_code 1 = .ok (.iconst 1, 1) := by decide +kernel
theorem d_RN_isOdd_2 : decode prog_1_method_31_code 2 = .ok (.iand, 1) := by decide +kernel
theorem d_RN_isOdd_3 : decode prog_1_method_31_code 3 = .ok (.iconst 1, 1) := by decide +kernel
theorem d_RN_isOdd_4 : decode prog_1_method_31_code 4 = .ok (.if_icmp .ne 7, 3) := by decide +kernel
theorem d_RN_isOdd_7 : decode prog_1_method_31_code 7 = .ok (.iconst 1, 1) := by decide +kernel
theorem d_RN_isOdd_8 : decode prog_1_method_31_code 8 = .ok (.goto 4, 3) := by decide +kernel
theorem d_RN_isOdd_11 : decode prog_1_method_31_code 11 = .ok (.iconst 0, 1) := by decide +kernel
theorem d_RN_isOdd_12 : decode prog_1_method_31_code 12 = .ok (.ireturn, 1) := by decide +kernel
def RN_isOdd (p0 : Int32) : Int32 := (if (p0 &&& (1 : Int32)) = (1 : Int32) then (1 : Int32) else (0 : Int32))
set_option maxHeartbeats 4000000 in
set_option maxRecDepth 100000 in
theorem c_RN_isOdd (l : Launch) {D : va_G} (a : Nat → Nat) (ci co : ClassId) (hi : rn_inj a) (st : rn_S) (p0 : Int32) (r0 : Int32) (hF : RN_isOdd p0 = r0) : ct_i l ⟨"RoundedNumbers", "isOdd", "(I)Z"⟩ (.code ⟨"RoundedNumbers", "isOdd", "(I)Z"⟩ prog_1_method_31_code 1 (some .boolean) :: ct_T) { frames := 0, cells := 0, slots := 0, locals := 0 } D vwCl (rn_T ci co) (rn_g a ci co) (rn_X a) [.int p0] st r0 st := by
  refine ct_i.mk (cc := prog_1_method_31_code) (maxL := 1) (by decide) rfl (Nat.le_of_ble_eq_true rfl) ?_
  intro p e s m below meth c hx hb hr hml hown hts hlk hK hN hP hS ls hl
  have hown : s.vm.findClass "RoundedNumbers" = some m.cls := hown
  have hl : lv_has ls 1 [(0, .int p0)] := hl
  have htb := fun w h => hts w (List.mem_cons_of_mem _ h)
  unfold RN_isOdd at hF
  refine lv_iload_n hx hb d_RN_isOdd_0 rfl (lv_at hl 0 rfl) ?_
  refine lv_iconst (v := 1) hx hb d_RN_isOdd_1 (by decide) ?_
  refine lv_iand hx hb d_RN_isOdd_2 ?_
  refine lv_iconst (v := 1) hx hb d_RN_isOdd_3 (by decide) ?_
  refine lv_icmp_ne hx hb d_RN_isOdd_4 (tgt := 11) (by decide) (fun c4 => ?_) (fun c4 => ?_)
  · replace hF := (if_neg c4).symm.trans hF
    refine lv_iconst (v := 0) hx hb d_RN_isOdd_11 (by decide) ?_
    subst hF
    exact ct_zret hx hb hr hlk (by decide) hP hS d_RN_isOdd_12
  · replace hF := (if_pos c4).symm.trans hF
    refine lv_iconst (v := 1) hx hb d_RN_isOdd_7 (by decide) ?_
    refine lv_goto hx hb d_RN_isOdd_8 (tgt := 12) (by decide) ?_
    subst hF
    exact ct_zret hx hb hr hlk (by decide) hP hS d_RN_isOdd_12
theorem d_RN_storeHuge_0 : decode prog_1_method_32_code 0 = .ok (.iload_n 3, 1) := by decide +kernel
theorem d_RN_storeHuge_1 : decode prog_1_method_32_code 1 = .ok (.iconst 1, 1) := by decide +kernel
theorem d_RN_storeHuge_2 : decode prog_1_method_32_code 2 = .ok (.if_icmp .eq 16, 3) := by decide +kernel
theorem d_RN_storeHuge_5 : decode prog_1_method_32_code 5 = .ok (.aload_n 0, 1) := by decide +kernel
theorem d_RN_storeHuge_6 : decode prog_1_method_32_code 6 = .ok (.getfield 15, 3) := by decide +kernel
theorem d_RN_storeHuge_9 : decode prog_1_method_32_code 9 = .ok (.iload_n 1, 1) := by decide +kernel
theorem d_RN_storeHuge_10 : decode prog_1_method_32_code 10 = .ok (.aaload, 1) := by decide +kernel
theorem d_RN_storeHuge_11 : decode prog_1_method_32_code 11 = .ok (.iconst 1, 1) := by decide +kernel
theorem d_RN_storeHuge_12 : decode prog_1_method_32_code 12 = .ok (.iload_n 2, 1) := by decide +kernel
theorem d_RN_storeHuge_13 : decode prog_1_method_32_code 13 = .ok (.invokevirtual 68, 3) := by decide +kernel
theorem d_RN_storeHuge_16 : decode prog_1_method_32_code 16 = .ok (.iload_n 2, 1) := by decide +kernel
theorem d_RN_storeHuge_17 : decode prog_1_method_32_code 17 = .ok (.ireturn, 1) := by decide +kernel
theorem d_RN_storeHuge_18 : decode prog_1_method_32_code 18 = .ok (.aload_n 0, 1) := by decide +kernel
theorem d_RN_storeHuge_19 : decode prog_1_method_32_code 19 = .ok (.getfield 32, 3) := by decide +kernel
theorem d_RN_storeHuge_22 : decode prog_1_method_32_code 22 = .ok (.invokevirtual 125, 3) := by decide +kernel
theorem d_RN_storeHuge_25 : decode prog_1_method_32_code 25 = .ok (.aload_n 0, 1) := by decide +kernel
theorem d_RN_storeHuge_26 : decode prog_1_method_32_code 26 = .ok (.getfield 32, 3) := by decide +kernel
theorem d_RN_storeHuge_29 : decode prog_1_method_32_code 29 = .ok (.sipush 200, 3) := by decide +kernel
theorem d_RN_storeHuge_32 : decode prog_1_method_32_code 32 = .ok (.iconst 1, 1) := by decide +kernel
theorem d_RN_storeHuge_33 : decode prog_1_method_32_code 33 = .ok (.invokevirtual 188, 3) := by decide +kernel
theorem d_RN_storeHuge_36 : decode prog_1_method_32_code 36 = .ok (.aload_n 0, 1) := by decide +kernel
theorem d_RN_storeHuge_37 : decode prog_1_method_32_code 37 = .ok (.getfield 32, 3) := by decide +kernel
theorem d_RN_storeHuge_40 : decode prog_1_method_32_code 40 = .ok (.sipush 200, 3) := by decide +kernel
theorem d_RN_storeHuge_43 : decode prog_1_method_32_code 43 = .ok (.aload_n 0, 1) := by decide +kernel
theorem d_RN_storeHuge_44 : decode prog_1_method_32_code 44 = .ok (.getfield 9, 3) := by decide +kernel
theorem d_RN_storeHuge_47 : decode prog_1_method_32_code 47 = .ok (.iload_n 1, 1) := by decide +kernel
theorem d_RN_storeHuge_48 : decode prog_1_method_32_code 48 = .ok (.iaload, 1) := by decide +kernel
theorem d_RN_storeHuge_49 : decode prog_1_method_32_code 49 = .ok (.isub, 1) := by decide +kernel
theorem d_RN_storeHuge_50 : decode prog_1_method_32_code 50 = .ok (.iconst (-1), 1) := by decide +kernel
theorem d_RN_storeHuge_51 : decode prog_1_method_32_code 51 = .ok (.invokevirtual 188, 3) := by decide +kernel
theorem d_RN_storeHuge_54 : decode prog_1_method_32_code 54 = .ok (.aload_n 0, 1) := by decide +kernel
theorem d_RN_storeHuge_55 : decode prog_1_method_32_code 55 = .ok (.getfield 32, 3) := by decide +kernel
theorem d_RN_storeHuge_58 : decode prog_1_method_32_code 58 = .ok (.aload_n 0, 1) := by decide +kernel
theorem d_RN_storeHuge_59 : decode prog_1_method_32_code 59 = .ok (.getfield 15, 3) := by decide +kernel
theorem d_RN_storeHuge_62 : decode prog_1_method_32_code 62 = .ok (.iload_n 1, 1) := by decide +kernel
theorem d_RN_storeHuge_63 : decode prog_1_method_32_code 63 = .ok (.aaload, 1) := by decide +kernel
theorem d_RN_storeHuge_64 : decode prog_1_method_32_code 64 = .ok (.iload_n 2, 1) := by decide +kernel
theorem d_RN_storeHuge_65 : decode prog_1_method_32_code 65 = .ok (.invokevirtual 185, 3) := by decide +kernel
theorem d_RN_storeHuge_68 : decode prog_1_method_32_code 68 = .ok (.iload_n 2, 1) := by decide +kernel
theorem d_RN_storeHuge_69 : decode prog_1_method_32_code 69 = .ok (.ineg, 1) := by decide +kernel
theorem d_RN_storeHuge_70 : decode prog_1_method_32_code 70 = .ok (.ireturn, 1) := by decide +kernel
def RN_storeHuge (st : rn_S) (p0 : Int32) (p1 : Int32) (p2 : Int32) : Int32 × rn_S := (if p2 = (1 : Int32) then nm (RE_clear st) (fun t22 => nm (RE_addPower t22 (200 : Int32) (1 : Int32)) (fun t33 => nm (RE_addPower t33 ((200 : Int32) - (rn_pr t33 p0.toNatClampNeg)) (-1 : Int32)) (fun t51 => nm (RE_storeInto t51 p0.toNatClampNeg p1) (fun t65 => ((-p1), t65))))) else nm (RV_become st p0.toNatClampNeg (1 : Int32) p1) (fun t13 => (p1, t13)))
set_option maxHeartbeats 4000000 in
set_option maxRecDepth 100000 in
theorem c_RN_storeHuge (l : Launch) {D : va_G} (a : Nat → Nat) (ci co : ClassId) (hi : rn_inj a) (st : rn_S) (p0 : Int32) (p1 : Int32) (p2 : Int32) (hd : vp_in p0 8) (r0 : Int32) (t0 : rn_S) (hF : RN_storeHuge st p0 p1 p2 = (r0, t0)) : ct_i l ⟨"RoundedNumbers", "storeHuge", "(III)I"⟩ (.code ⟨"RoundedNumbers", "storeHuge", "(III)I"⟩ prog_1_method_32_code 4 (some .int) :: ct_T) { frames := 3, cells := 0, slots := 0, locals := 72 } D vwCl (rn_T ci co) (rn_g a ci co) (rn_X a) [.ref (a 0), .int p0, .int p1, .int p2] st r0 t0 := by
  refine ct_i.mk (cc := prog_1_method_32_code) (maxL := 4) (by decide) rfl (Nat.le_of_ble_eq_true rfl) ?_
  intro p e s m below meth c hx hb hr hml hown hts hlk hK hN hP hS ls hl
  have hown : s.vm.findClass "RoundedNumbers" = some m.cls := hown
  have hl : lv_has ls 4 [(0, .ref (a 0)), (1, .int p0), (2, .int p1), (3, .int p2)] := hl
  have htb := fun w h => hts w (List.mem_cons_of_mem _ h)
  unfold RN_storeHuge at hF
  refine lv_iload_n hx hb d_RN_storeHuge_0 rfl (lv_at hl 3 rfl) ?_
  refine lv_iconst (v := 1) hx hb d_RN_storeHuge_1 (by decide) ?_
  refine lv_icmp_eq hx hb d_RN_storeHuge_2 (tgt := 18) (by decide) (fun c2 => ?_) (fun c2 => ?_)
  · replace hF := (if_pos c2).symm.trans hF
    refine lv_aload_n hx hb d_RN_storeHuge_18 rfl (lv_at hl 0 rfl) ?_
    refine gf_RN_32 hx hb htb hown hK hP d_RN_storeHuge_19 ?_
    obtain ⟨t22, e22⟩ := nm_ex (RE_clear st)
    replace hF := (nm_eq e22).symm.trans hF
    refine ct_callv (va_runV (As := []) (rest := []) ⟨hx, hb, hml, hown, hts⟩ (c_RE_clear l (D := D) a ci co hi st _ e22 _) (kc_RN_125 hts ⟨by decide, by decide⟩) ⟨ct_blind, rn_rc2 hK hP, ct_ok hP hK hN⟩ rfl rfl hl.1 rfl (lv_room (Nat.le_of_ble_eq_true rfl)) d_RN_storeHuge_22 ⟨Nat.zero_le _, Nat.zero_le _⟩) hS (fun H locs hP hS => ?_)
    refine lv_aload_n hx hb d_RN_storeHuge_25 rfl (lv_at hl 0 rfl) ?_
    refine gf_RN_32 hx hb htb hown hK hP d_RN_storeHuge_26 ?_
    refine lv_sipush (v := 200) hx hb d_RN_storeHuge_29 (by decide) ?_
    refine lv_iconst (v := 1) hx hb d_RN_storeHuge_32 (by decide) ?_
    obtain ⟨t33, e33⟩ := nm_ex (RE_addPower t22 (200 : Int32) (1 : Int32))
    replace hF := (nm_eq e33).symm.trans hF
    refine ct_callv (va_runV (As := [.int (200 : Int32), .int (1 : Int32)]) (rest := []) ⟨hx, hb, hml, hown, hts⟩ (c_RE_addPower l (D := D) a ci co hi t22 (200 : Int32) (1 : Int32) _ e33 _) (kc_RN_188 hts ⟨by decide, by decide⟩) ⟨ct_blind, rn_rc2 hK hP, ct_ok hP hK hN⟩ rfl rfl hl.1 rfl (lv_room (Nat.le_of_ble_eq_true rfl)) d_RN_storeHuge_33 ⟨Nat.zero_le _, Nat.zero_le _⟩) hS (fun H locs hP hS => ?_)
    refine lv_aload_n hx hb d_RN_storeHuge_36 rfl (lv_at hl 0 rfl) ?_
    refine gf_RN_32 hx hb htb hown hK hP d_RN_storeHuge_37 ?_
    refine lv_sipush (v := 200) hx hb d_RN_storeHuge_40 (by decide) ?_
    refine lv_aload_n hx hb d_RN_storeHuge_43 rfl (lv_at hl 0 rfl) ?_
    refine gf_RN_9 hx hb htb hown hK hP d_RN_storeHuge_44 ?_
    refine lv_iload_n hx hb d_RN_storeHuge_47 rfl (lv_at hl 1 rfl) ?_
    refine rn_ald_prec hx hb hK hP hd d_RN_storeHuge_48 ?_
    refine lv_isub hx hb d_RN_storeHuge_49 ?_
    refine lv_iconst (v := -1) hx hb d_RN_storeHuge_50 (by decide) ?_
    obtain ⟨t51, e51⟩ := nm_ex (RE_addPower t33 ((200 : Int32) - (rn_pr t33 p0.toNatClampNeg)) (-1 : Int32))
    replace hF := (nm_eq e51).symm.trans hF
    refine ct_callv (va_runV (As := [.int ((200 : Int32) - (rn_pr t33 p0.toNatClampNeg)), .int (-1 : Int32)]) (rest := []) ⟨hx, hb, hml, hown, hts⟩ (c_RE_addPower l (D := D) a ci co hi t33 ((200 : Int32) - (rn_pr t33 p0.toNatClampNeg)) (-1 : Int32) _ e51 _) (kc_RN_188 hts ⟨by decide, by decide⟩) ⟨ct_blind, rn_rc2 hK hP, ct_ok hP hK hN⟩ rfl rfl hl.1 rfl (lv_room (Nat.le_of_ble_eq_true rfl)) d_RN_storeHuge_51 ⟨Nat.zero_le _, Nat.zero_le _⟩) hS (fun H locs hP hS => ?_)
    refine lv_aload_n hx hb d_RN_storeHuge_54 rfl (lv_at hl 0 rfl) ?_
    refine gf_RN_32 hx hb htb hown hK hP d_RN_storeHuge_55 ?_
    refine lv_aload_n hx hb d_RN_storeHuge_58 rfl (lv_at hl 0 rfl) ?_
    refine gf_RN_15 hx hb htb hown hK hP d_RN_storeHuge_59 ?_
    refine lv_iload_n hx hb d_RN_storeHuge_62 rfl (lv_at hl 1 rfl) ?_
    refine rn_ald_regs hx hb hK hP hd d_RN_storeHuge_63 ?_
    refine lv_iload_n hx hb d_RN_storeHuge_64 rfl (lv_at hl 2 rfl) ?_
    obtain ⟨t65, e65⟩ := nm_ex (RE_storeInto t51 p0.toNatClampNeg p1)
    replace hF := (nm_eq e65).symm.trans hF
    refine ct_callv (va_runV (As := [.ref (a (8 + p0.toNatClampNeg)), .int p1]) (rest := []) ⟨hx, hb, hml, hown, hts⟩ (c_RE_storeInto l (D := D) a ci co hi t51 p0.toNatClampNeg p1 (rn_lt10 hd) _ e65 _) (kc_RN_185 hts ⟨by decide, by decide⟩) ⟨ct_blind, rn_rc2 hK hP, ct_ok hP hK hN⟩ rfl rfl hl.1 rfl (lv_room (Nat.le_of_ble_eq_true rfl)) d_RN_storeHuge_65 ⟨Nat.zero_le _, Nat.zero_le _⟩) hS (fun H locs hP hS => ?_)
    refine lv_iload_n hx hb d_RN_storeHuge_68 rfl (lv_at hl 2 rfl) ?_
    refine lv_ineg hx hb d_RN_storeHuge_69 ?_
    obtain ⟨rfl, rfl⟩ := Prod.mk.inj hF
    exact ct_iret hx hb hr hlk hP hS d_RN_storeHuge_70
  · replace hF := (if_neg c2).symm.trans hF
    refine lv_aload_n hx hb d_RN_storeHuge_5 rfl (lv_at hl 0 rfl) ?_
    refine gf_RN_15 hx hb htb hown hK hP d_RN_storeHuge_6 ?_
    refine lv_iload_n hx hb d_RN_storeHuge_9 rfl (lv_at hl 1 rfl) ?_
    refine rn_ald_regs hx hb hK hP hd d_RN_storeHuge_10 ?_
    refine lv_iconst (v := 1) hx hb d_RN_storeHuge_11 (by decide) ?_
    refine lv_iload_n hx hb d_RN_storeHuge_12 rfl (lv_at hl 2 rfl) ?_
    obtain ⟨t13, e13⟩ := nm_ex (RV_become st p0.toNatClampNeg (1 : Int32) p1)
    replace hF := (nm_eq e13).symm.trans hF
    refine ct_callv (va_runV (As := [.int (1 : Int32), .int p1]) (rest := []) ⟨hx, hb, hml, hown, hts⟩ (c_RV_become l (D := D) a ci co hi st p0.toNatClampNeg (1 : Int32) p1 (rn_lt10 hd) _ e13 _) (kc_RN_68 hts ⟨by decide, by decide⟩) ⟨ct_blind, rn_rc1 hK hP (rn_lt10 hd), ct_ok hP hK hN⟩ rfl rfl hl.1 rfl (lv_room (Nat.le_of_ble_eq_true rfl)) d_RN_storeHuge_13 ⟨Nat.zero_le _, Nat.zero_le _⟩) hS (fun H locs hP hS => ?_)
    refine lv_iload_n hx hb d_RN_storeHuge_16 rfl (lv_at hl 2 rfl) ?_
    obtain ⟨rfl, rfl⟩ := Prod.mk.inj hF
    exact ct_iret hx hb hr hlk hP hS d_RN_storeHuge_17
theorem d_RN_storeTiny_0 : decode prog_1_method_33_code 0 = .ok (.iload_n 3, 1) := by decide +kernel
theorem d_RN_storeTiny_1 : decode prog_1_method_33_code 1 = .ok (.ifCond .eq 17, 3) := by decide +kernel
theorem d_RN_storeTiny_4 : decode prog_1_method_33_code 4 = .ok (.aload_n 0, 1) := by decide +kernel
theorem d_RN_storeTiny_5 : decode prog_1_method_33_code 5 = .ok (.getfield 15, 3) := by decide +kernel
theorem d_RN_storeTiny_8 : decode prog_1_method_33_code 8 = .ok (.iload_n 1, 1) := by decide +kernel
theorem d_RN_storeTiny_9 : decode prog_1_method_33_code 9 = .ok (.aaload, 1) := by decide +kernel
theorem d_RN_storeTiny_10 : decode prog_1_method_33_code 10 = .ok (.iconst 2, 1) := by decide +kernel
theorem d_RN_storeTiny_11 : decode prog_1_method_33_code 11 = .ok (.iload_n 2, 1) := by decide +kernel
theorem d_RN_storeTiny_12 : decode prog_1_method_33_code 12 = .ok (.invokevirtual 68, 3) := by decide +kernel
theorem d_RN_storeTiny_15 : decode prog_1_method_33_code 15 = .ok (.iload_n 2, 1) := by decide +kernel
theorem d_RN_storeTiny_16 : decode prog_1_method_33_code 16 = .ok (.ineg, 1) := by decide +kernel
theorem d_RN_storeTiny_17 : decode prog_1_method_33_code 17 = .ok (.ireturn, 1) := by decide +kernel
theorem d_RN_storeTiny_18 : decode prog_1_method_33_code 18 = .ok (.aload_n 0, 1) := by decide +kernel
theorem d_RN_storeTiny_19 : decode prog_1_method_33_code 19 = .ok (.getfield 32, 3) := by decide +kernel
theorem d_RN_storeTiny_22 : decode prog_1_method_33_code 22 = .ok (.invokevirtual 125, 3) := by decide +kernel
theorem d_RN_storeTiny_25 : decode prog_1_method_33_code 25 = .ok (.aload_n 0, 1) := by decide +kernel
theorem d_RN_storeTiny_26 : decode prog_1_method_33_code 26 = .ok (.getfield 32, 3) := by decide +kernel
theorem d_RN_storeTiny_29 : decode prog_1_method_33_code 29 = .ok (.sipush (-201), 3) := by decide +kernel
theorem d_RN_storeTiny_32 : decode prog_1_method_33_code 32 = .ok (.iconst 1, 1) := by decide +kernel
theorem d_RN_storeTiny_33 : decode prog_1_method_33_code 33 = .ok (.invokevirtual 188, 3) := by decide +kernel
theorem d_RN_storeTiny_36 : decode prog_1_method_33_code 36 = .ok (.aload_n 0, 1) := by decide +kernel
theorem d_RN_storeTiny_37 : decode prog_1_method_33_code 37 = .ok (.getfield 32, 3) := by decide +kernel
theorem d_RN_storeTiny_40 : decode prog_1_method_33_code 40 = .ok (.aload_n 0, 1) := by decide +kernel
theorem d_RN_storeTiny_41 : decode prog_1_method_33_code 41 = .ok (.getfield 15, 3) := by decide +kernel
theorem d_RN_storeTiny_44 : decode prog_1_method_33_code 44 = .ok (.iload_n 1, 1) := by decide +kernel
theorem d_RN_storeTiny_45 : decode prog_1_method_33_code 45 = .ok (.aaload, 1) := by decide +kernel
theorem d_RN_storeTiny_46 : decode prog_1_method_33_code 46 = .ok (.iload_n 2, 1) := by decide +kernel
theorem d_RN_storeTiny_47 : decode prog_1_method_33_code 47 = .ok (.invokevirtual 185, 3) := by decide +kernel
theorem d_RN_storeTiny_50 : decode prog_1_method_33_code 50 = .ok (.iload_n 2, 1) := by decide +kernel
theorem d_RN_storeTiny_51 : decode prog_1_method_33_code 51 = .ok (.ireturn, 1) := by decide +kernel
def RN_storeTiny (st : rn_S) (p0 : Int32) (p1 : Int32) (p2 : Int32) : Int32 × rn_S := (if p2 = 0 then nm (RE_clear st) (fun t22 => nm (RE_addPower t22 (-201 : Int32) (1 : Int32)) (fun t33 => nm (RE_storeInto t33 p0.toNatClampNeg p1) (fun t47 => (p1, t47)))) else nm (RV_become st p0.toNatClampNeg (2 : Int32) p1) (fun t12 => ((-p1), t12)))
set_option maxHeartbeats 4000000 in
set_option maxRecDepth 100000 in
theorem c_RN_storeTiny (l : Launch) {D : va_G} (a : Nat → Nat) (ci co : ClassId) (hi : rn_inj a) (st : rn_S) (p0 : Int32) (p1 : Int32) (p2 : Int32) (hd : vp_in p0 8) (r0 : Int32) (t0 : rn_S) (hF : RN_storeTiny st p0 p1 p2 = (r0, t0)) : ct_i l ⟨"RoundedNumbers", "storeTiny", "(IIZ)I"⟩ (.code ⟨"RoundedNumbers", "storeTiny", "(IIZ)I"⟩ prog_1_method_33_code 4 (some .int) :: ct_T) { frames := 3, cells := 0, slots := 0, locals := 72 } D vwCl (rn_T ci co) (rn_g a ci co) (rn_X a) [.ref (a 0), .int p0, .int p1, .int p2] st r0 t0 := by
  refine ct_i.mk (cc := prog_1_method_33_code) (maxL := 4) (by decide) rfl (Nat.le_of_ble_eq_true rfl) ?_
  intro p e s m below meth c hx hb hr hml hown hts hlk hK hN hP hS ls hl
  have hown : s.vm.findClass "RoundedNumbers" = some m.cls := hown
  have hl : lv_has ls 4 [(0, .ref (a 0)), (1, .int p0), (2, .int p1), (3, .int p2)] := hl
  have htb := fun w h => hts w (List.mem_cons_of_mem _ h)
  unfold RN_storeTiny at hF
  refine lv_iload_n hx hb d_RN_storeTiny_0 rfl (lv_at hl 3 rfl) ?_
  refine lv_if_eq hx hb d_RN_storeTiny_1 (tgt := 18) (by decide) (fun c1 => ?_) (fun c1 => ?_)
  · replace hF := (if_pos c1).symm.trans hF
    refine lv_aload_n hx hb d_RN_storeTiny_18 rfl (lv_at hl 0 rfl) ?_
    refine gf_RN_32 hx hb htb hown hK hP d_RN_storeTiny_19 ?_
    obtain ⟨t22, e22⟩ := nm_ex (RE_clear st)
    replace hF := (nm_eq e22).symm.trans hF
    refine ct_callv (va_runV (As := []) (rest := []) ⟨hx, hb, hml, hown, hts⟩ (c_RE_clear l (D := D) a ci co hi st _ e22 _) (kc_RN_125 hts ⟨by decide, by decide⟩) ⟨ct_blind, rn_rc2 hK hP, ct_ok hP hK hN⟩ rfl rfl hl.1 rfl (lv_room (Nat.le_of_ble_eq_true rfl)) d_RN_storeTiny_22 ⟨Nat.zero_le _, Nat.zero_le _⟩) hS (fun H locs hP hS => ?_)
    refine lv_aload_n hx hb d_RN_storeTiny_25 rfl (lv_at hl 0 rfl) ?_
    refine gf_RN_32 hx hb htb hown hK hP d_RN_storeTiny_26 ?_
    refine lv_sipush (v := -201) hx hb d_RN_storeTiny_29 (by decide) ?_
    refine lv_iconst (v := 1) hx hb d_RN_storeTiny_32 (by decide) ?_
    obtain ⟨t33, e33⟩ := nm_ex (RE_addPower t22 (-201 : Int32) (1 : Int32))
    replace hF := (nm_eq e33).symm.trans hF
    refine ct_callv (va_runV (As := [.int (-201 : Int32), .int (1 : Int32)]) (rest := []) ⟨hx, hb, hml, hown, hts⟩ (c_RE_addPower l (D := D) a ci co hi t22 (-201 : Int32) (1 : Int32) _ e33 _) (kc_RN_188 hts ⟨by decide, by decide⟩) ⟨ct_blind, rn_rc2 hK hP, ct_ok hP hK hN⟩ rfl rfl hl.1 rfl (lv_room (Nat.le_of_ble_eq_true rfl)) d_RN_storeTiny_33 ⟨Nat.zero_le _, Nat.zero_le _⟩) hS (fun H locs hP hS => ?_)
    refine lv_aload_n hx hb d_RN_storeTiny_36 rfl (lv_at hl 0 rfl) ?_
    refine gf_RN_32 hx hb htb hown hK hP d_RN_storeTiny_37 ?_
    refine lv_aload_n hx hb d_RN_storeTiny_40 rfl (lv_at hl 0 rfl) ?_
    refine gf_RN_15 hx hb htb hown hK hP d_RN_storeTiny_41 ?_
    refine lv_iload_n hx hb d_RN_storeTiny_44 rfl (lv_at hl 1 rfl) ?_
    refine rn_ald_regs hx hb hK hP hd d_RN_storeTiny_45 ?_
    refine lv_iload_n hx hb d_RN_storeTiny_46 rfl (lv_at hl 2 rfl) ?_
    obtain ⟨t47, e47⟩ := nm_ex (RE_storeInto t33 p0.toNatClampNeg p1)
    replace hF := (nm_eq e47).symm.trans hF
    refine ct_callv (va_runV (As := [.ref (a (8 + p0.toNatClampNeg)), .int p1]) (rest := []) ⟨hx, hb, hml, hown, hts⟩ (c_RE_storeInto l (D := D) a ci co hi t33 p0.toNatClampNeg p1 (rn_lt10 hd) _ e47 _) (kc_RN_185 hts ⟨by decide, by decide⟩) ⟨ct_blind, rn_rc2 hK hP, ct_ok hP hK hN⟩ rfl rfl hl.1 rfl (lv_room (Nat.le_of_ble_eq_true rfl)) d_RN_storeTiny_47 ⟨Nat.zero_le _, Nat.zero_le _⟩) hS (fun H locs hP hS => ?_)
    refine lv_iload_n hx hb d_RN_storeTiny_50 rfl (lv_at hl 2 rfl) ?_
    obtain ⟨rfl, rfl⟩ := Prod.mk.inj hF
    exact ct_iret hx hb hr hlk hP hS d_RN_storeTiny_51
  · replace hF := (if_neg c1).symm.trans hF
    refine lv_aload_n hx hb d_RN_storeTiny_4 rfl (lv_at hl 0 rfl) ?_
    refine gf_RN_15 hx hb htb hown hK hP d_RN_storeTiny_5 ?_
    refine lv_iload_n hx hb d_RN_storeTiny_8 rfl (lv_at hl 1 rfl) ?_
    refine rn_ald_regs hx hb hK hP hd d_RN_storeTiny_9 ?_
    refine lv_iconst (v := 2) hx hb d_RN_storeTiny_10 (by decide) ?_
    refine lv_iload_n hx hb d_RN_storeTiny_11 rfl (lv_at hl 2 rfl) ?_
    obtain ⟨t12, e12⟩ := nm_ex (RV_become st p0.toNatClampNeg (2 : Int32) p1)
    replace hF := (nm_eq e12).symm.trans hF
    refine ct_callv (va_runV (As := [.int (2 : Int32), .int p1]) (rest := []) ⟨hx, hb, hml, hown, hts⟩ (c_RV_become l (D := D) a ci co hi st p0.toNatClampNeg (2 : Int32) p1 (rn_lt10 hd) _ e12 _) (kc_RN_68 hts ⟨by decide, by decide⟩) ⟨ct_blind, rn_rc1 hK hP (rn_lt10 hd), ct_ok hP hK hN⟩ rfl rfl hl.1 rfl (lv_room (Nat.le_of_ble_eq_true rfl)) d_RN_storeTiny_12 ⟨Nat.zero_le _, Nat.zero_le _⟩) hS (fun H locs hP hS => ?_)
    refine lv_iload_n hx hb d_RN_storeTiny_15 rfl (lv_at hl 2 rfl) ?_
    refine lv_ineg hx hb d_RN_storeTiny_16 ?_
    obtain ⟨rfl, rfl⟩ := Prod.mk.inj hF
    exact ct_iret hx hb hr hlk hP hS d_RN_storeTiny_17
theorem d_RN_storeExact_0 : decode prog_1_method_30_code 0 = .ok (.aload_n 0, 1) := by decide +kernel
theorem d_RN_storeExact_1 : decode prog_1_method_30_code 1 = .ok (.getfield 9, 3) := by decide +kernel
theorem d_RN_storeExact_4 : decode prog_1_method_30_code 4 = .ok (.iload_n 1, 1) := by decide +kernel
theorem d_RN_storeExact_5 : decode prog_1_method_30_code 5 = .ok (.iaload, 1) := by decide +kernel
theorem d_RN_storeExact_6 : decode prog_1_method_30_code 6 = .ok (.istore 4, 2) := by decide +kernel
theorem d_RN_storeExact_8 : decode prog_1_method_30_code 8 = .ok (.iload_n 3, 1) := by decide +kernel
theorem d_RN_storeExact_9 : decode prog_1_method_30_code 9 = .ok (.iload_n 2, 1) := by decide +kernel
theorem d_RN_storeExact_10 : decode prog_1_method_30_code 10 = .ok (.invokestatic 149, 3) := by decide +kernel
theorem d_RN_storeExact_13 : decode prog_1_method_30_code 13 = .ok (.istore 5, 2) := by decide +kernel
theorem d_RN_storeExact_15 : decode prog_1_method_30_code 15 = .ok (.aload_n 0, 1) := by decide +kernel
theorem d_RN_storeExact_16 : decode prog_1_method_30_code 16 = .ok (.getfield 32, 3) := by decide +kernel
theorem d_RN_storeExact_19 : decode prog_1_method_30_code 19 = .ok (.invokevirtual 170, 3) := by decide +kernel
theorem d_RN_storeExact_22 : decode prog_1_method_30_code 22 = .ok (.istore 6, 2) := by decide +kernel
theorem d_RN_storeExact_24 : decode prog_1_method_30_code 24 = .ok (.iload 6, 2) := by decide +kernel
theorem d_RN_storeExact_26 : decode prog_1_method_30_code 26 = .ok (.iload 4, 2) := by decide +kernel
theorem d_RN_storeExact_28 : decode prog_1_method_30_code 28 = .ok (.isub, 1) := by decide +kernel
theorem d_RN_storeExact_29 : decode prog_1_method_30_code 29 = .ok (.iconst 1, 1) := by decide +kernel
theorem d_RN_storeExact_30 : decode prog_1_method_30_code 30 = .ok (.iadd, 1) := by decide +kernel
theorem d_RN_storeExact_31 : decode prog_1_method_30_code 31 = .ok (.istore 7, 2) := by decide +kernel
theorem d_RN_storeExact_33 : decode prog_1_method_30_code 33 = .ok (.aload_n 0, 1) := by decide +kernel
theorem d_RN_storeExact_34 : decode prog_1_method_30_code 34 = .ok (.getfield 32, 3) := by decide +kernel
theorem d_RN_storeExact_37 : decode prog_1_method_30_code 37 = .ok (.sipush (-202), 3) := by decide +kernel
theorem d_RN_storeExact_40 : decode prog_1_method_30_code 40 = .ok (.invokevirtual 173, 3) := by decide +kernel
theorem d_RN_storeExact_43 : decode prog_1_method_30_code 43 = .ok (.ifCond .ne 7, 3) := by decide +kernel
theorem d_RN_storeExact_46 : decode prog_1_method_30_code 46 = .ok (.iconst 1, 1) := by decide +kernel
theorem d_RN_storeExact_47 : decode prog_1_method_30_code 47 = .ok (.goto 4, 3) := by decide +kernel
theorem d_RN_storeExact_50 : decode prog_1_method_30_code 50 = .ok (.iconst 0, 1) := by decide +kernel
theorem d_RN_storeExact_51 : decode prog_1_method_30_code 51 = .ok (.istore 8, 2) := by decide +kernel
theorem d_RN_storeExact_53 : decode prog_1_method_30_code 53 = .ok (.iload 4, 2) := by decide +kernel
theorem d_RN_storeExact_55 : decode prog_1_method_30_code 55 = .ok (.iconst 1, 1) := by decide +kernel
theorem d_RN_storeExact_56 : decode prog_1_method_30_code 56 = .ok (.if_icmp .ne 13, 3) := by decide +kernel
theorem d_RN_storeExact_59 : decode prog_1_method_30_code 59 = .ok (.iload 6, 2) := by decide +kernel
theorem d_RN_storeExact_61 : decode prog_1_method_30_code 61 = .ok (.iconst 1, 1) := by decide +kernel
theorem d_RN_storeExact_62 : decode prog_1_method_30_code 62 = .ok (.iadd, 1) := by decide +kernel
theorem d_RN_storeExact_63 : decode prog_1_method_30_code 63 = .ok (.invokestatic 176, 3) := by decide +kernel
theorem d_RN_storeExact_66 : decode prog_1_method_30_code 66 = .ok (.goto 21, 3) := by decide +kernel
theorem d_RN_storeExact_69 : decode prog_1_method_30_code 69 = .ok (.aload_n 0, 1) := by decide +kernel
theorem d_RN_storeExact_70 : decode prog_1_method_30_code 70 = .ok (.getfield 32, 3) := by decide +kernel
theorem d_RN_storeExact_73 : decode prog_1_method_30_code 73 = .ok (.iload 7, 2) := by decide +kernel
theorem d_RN_storeExact_75 : decode prog_1_method_30_code 75 = .ok (.invokevirtual 152, 3) := by decide +kernel
theorem d_RN_storeExact_78 : decode prog_1_method_30_code 78 = .ok (.iconst 1, 1) := by decide +kernel
theorem d_RN_storeExact_79 : decode prog_1_method_30_code 79 = .ok (.if_icmp .ne 7, 3) := by decide +kernel
theorem d_RN_storeExact_82 : decode prog_1_method_30_code 82 = .ok (.iconst 1, 1) := by decide +kernel
theorem d_RN_storeExact_83 : decode prog_1_method_30_code 83 = .ok (.goto 4, 3) := by decide +kernel
theorem d_RN_storeExact_86 : decode prog_1_method_30_code 86 = .ok (.iconst 0, 1) := by decide +kernel
theorem d_RN_storeExact_87 : decode prog_1_method_30_code 87 = .ok (.istore 9, 2) := by decide +kernel
theorem d_RN_storeExact_89 : decode prog_1_method_30_code 89 = .ok (.aload_n 0, 1) := by decide +kernel
theorem d_RN_storeExact_90 : decode prog_1_method_30_code 90 = .ok (.getfield 32, 3) := by decide +kernel
theorem d_RN_storeExact_93 : decode prog_1_method_30_code 93 = .ok (.iload 7, 2) := by decide +kernel
theorem d_RN_storeExact_95 : decode prog_1_method_30_code 95 = .ok (.iload 5, 2) := by decide +kernel
theorem d_RN_storeExact_97 : decode prog_1_method_30_code 97 = .ok (.iload 9, 2) := by decide +kernel
theorem d_RN_storeExact_99 : decode prog_1_method_30_code 99 = .ok (.invokevirtual 155, 3) := by decide +kernel
theorem d_RN_storeExact_102 : decode prog_1_method_30_code 102 = .ok (.istore 10, 2) := by decide +kernel
theorem d_RN_storeExact_104 : decode prog_1_method_30_code 104 = .ok (.aload_n 0, 1) := by decide +kernel
theorem d_RN_storeExact_105 : decode prog_1_method_30_code 105 = .ok (.getfield 32, 3) := by decide +kernel
theorem d_RN_storeExact_108 : decode prog_1_method_30_code 108 = .ok (.invokevirtual 170, 3) := by decide +kernel
theorem d_RN_storeExact_111 : decode prog_1_method_30_code 111 = .ok (.iconst 1, 1) := by decide +kernel
theorem d_RN_storeExact_112 : decode prog_1_method_30_code 112 = .ok (.iadd, 1) := by decide +kernel
theorem d_RN_storeExact_113 : decode prog_1_method_30_code 113 = .ok (.istore 11, 2) := by decide +kernel
theorem d_RN_storeExact_115 : decode prog_1_method_30_code 115 = .ok (.iload 11, 2) := by decide +kernel
theorem d_RN_storeExact_117 : decode prog_1_method_30_code 117 = .ok (.sipush 200, 3) := by decide +kernel
theorem d_RN_storeExact_120 : decode prog_1_method_30_code 120 = .ok (.if_icmp .le 12, 3) := by decide +kernel
theorem d_RN_storeExact_123 : decode prog_1_method_30_code 123 = .ok (.aload_n 0, 1) := by decide +kernel
theorem d_RN_storeExact_124 : decode prog_1_method_30_code 124 = .ok (.iload_n 1, 1) := by decide +kernel
theorem d_RN_storeExact_125 : decode prog_1_method_30_code 125 = .ok (.iload_n 2, 1) := by decide +kernel
theorem d_RN_storeExact_126 : decode prog_1_method_30_code 126 = .ok (.iload 5, 2) := by decide +kernel
theorem d_RN_storeExact_128 : decode prog_1_method_30_code 128 = .ok (.invokevirtual 179, 3) := by decide +kernel
theorem d_RN_storeExact_131 : decode prog_1_method_30_code 131 = .ok (.ireturn, 1) := by decide +kernel
theorem d_RN_storeExact_132 : decode prog_1_method_30_code 132 = .ok (.iload 11, 2) := by decide +kernel
theorem d_RN_storeExact_134 : decode prog_1_method_30_code 134 = .ok (.sipush (-200), 3) := by decide +kernel
theorem d_RN_storeExact_137 : decode prog_1_method_30_code 137 = .ok (.if_icmp .ge 31, 3) := by decide +kernel
theorem d_RN_storeExact_140 : decode prog_1_method_30_code 140 = .ok (.aload_n 0, 1) := by decide +kernel
theorem d_RN_storeExact_141 : decode prog_1_method_30_code 141 = .ok (.iload_n 1, 1) := by decide +kernel
theorem d_RN_storeExact_142 : decode prog_1_method_30_code 142 = .ok (.iload_n 2, 1) := by decide +kernel
theorem d_RN_storeExact_143 : decode prog_1_method_30_code 143 = .ok (.iload 5, 2) := by decide +kernel
theorem d_RN_storeExact_145 : decode prog_1_method_30_code 145 = .ok (.iconst 1, 1) := by decide +kernel
theorem d_RN_storeExact_146 : decode prog_1_method_30_code 146 = .ok (.if_icmp .eq 13, 3) := by decide +kernel
theorem d_RN_storeExact_149 : decode prog_1_method_30_code 149 = .ok (.iload 5, 2) := by decide +kernel
theorem d_RN_storeExact_151 : decode prog_1_method_30_code 151 = .ok (.ifCond .ne 12, 3) := by decide +kernel
theorem d_RN_storeExact_154 : decode prog_1_method_30_code 154 = .ok (.iload 8, 2) := by decide +kernel
theorem d_RN_storeExact_156 : decode prog_1_method_30_code 156 = .ok (.ifCond .eq 7, 3) := by decide +kernel
theorem d_RN_storeExact_159 : decode prog_1_method_30_code 159 = .ok (.iconst 1, 1) := by decide +kernel
theorem d_RN_storeExact_160 : decode prog_1_method_30_code 160 = .ok (.goto 4, 3) := by decide +kernel
theorem d_RN_storeExact_163 : decode prog_1_method_30_code 163 = .ok (.iconst 0, 1) := by decide +kernel
theorem d_RN_storeExact_164 : decode prog_1_method_30_code 164 = .ok (.invokevirtual 182, 3) := by decide +kernel
theorem d_RN_storeExact_167 : decode prog_1_method_30_code 167 = .ok (.ireturn, 1) := by decide +kernel
theorem d_RN_storeExact_168 : decode prog_1_method_30_code 168 = .ok (.aload_n 0, 1) := by decide +kernel
theorem d_RN_storeExact_169 : decode prog_1_method_30_code 169 = .ok (.getfield 32, 3) := by decide +kernel
theorem d_RN_storeExact_172 : decode prog_1_method_30_code 172 = .ok (.aload_n 0, 1) := by decide +kernel
theorem d_RN_storeExact_173 : decode prog_1_method_30_code 173 = .ok (.getfield 15, 3) := by decide +kernel
theorem d_RN_storeExact_176 : decode prog_1_method_30_code 176 = .ok (.iload_n 1, 1) := by decide +kernel
theorem d_RN_storeExact_177 : decode prog_1_method_30_code 177 = .ok (.aaload, 1) := by decide +kernel
theorem d_RN_storeExact_178 : decode prog_1_method_30_code 178 = .ok (.iload_n 2, 1) := by decide +kernel
theorem d_RN_storeExact_179 : decode prog_1_method_30_code 179 = .ok (.invokevirtual 185, 3) := by decide +kernel
theorem d_RN_storeExact_182 : decode prog_1_method_30_code 182 = .ok (.iload 10, 2) := by decide +kernel
theorem d_RN_storeExact_184 : decode prog_1_method_30_code 184 = .ok (.iload_n 2, 1) := by decide +kernel
theorem d_RN_storeExact_185 : decode prog_1_method_30_code 185 = .ok (.imul, 1) := by decide +kernel
theorem d_RN_storeExact_186 : decode prog_1_method_30_code 186 = .ok (.ireturn, 1) := by decide +kernel
def RN_storeExact_164 (s0 : Int32) (s1 : Int32) (s2 : Int32) (st : rn_S) : Int32 × rn_S := bd (RN_storeTiny st s2 s1 s0) (fun r164 t164 => (r164, t164))
def RN_storeExact_159 (s0 : Int32) (s1 : Int32) (st : rn_S) : Int32 × rn_S := RN_storeExact_164 (1 : Int32) s0 s1 st
def RN_storeExact_163 (s0 : Int32) (s1 : Int32) (st : rn_S) : Int32 × rn_S := RN_storeExact_164 (0 : Int32) s0 s1 st
def RN_storeExact_87 (L1 : Int32) (L2 : Int32) (L5 : Int32) (L7 : Int32) (L8 : Int32) (s0 : Int32) (st : rn_S) : Int32 × rn_S := bd (RE_roundAt st L7 L5 s0) (fun r99 t99 => nm (RE_topWeight t99) (fun r108 => nm (r108 + (1 : Int32)) (fun x113 => (if x113 ≤ (200 : Int32) then (if (-200 : Int32) ≤ x113 then nm (RE_storeInto t99 L1.toNatClampNeg L2) (fun t179 => ((r99 * L2), t179)) else (if L5 = (1 : Int32) then RN_storeExact_159 L2 L1 t99 else (if L5 = 0 then (if L8 = 0 then RN_storeExact_163 L2 L1 t99 else RN_storeExact_159 L2 L1 t99) else RN_storeExact_163 L2 L1 t99))) else bd (RN_storeHuge t99 L1 L2 L5) (fun r128 t128 => (r128, t128))))))
def RN_storeExact_51 (L1 : Int32) (L2 : Int32) (L4 : Int32) (L5 : Int32) (L6 : Int32) (L7 : Int32) (s0 : Int32) (st : rn_S) : Int32 × rn_S := (if L4 = (1 : Int32) then nm (RN_isOdd (L6 + (1 : Int32))) (fun r63 => RN_storeExact_87 L1 L2 L5 L7 s0 r63 st) else nm (RE_bit st L7) (fun r75 => (if r75 = (1 : Int32) then RN_storeExact_87 L1 L2 L5 L7 s0 (1 : Int32) st else RN_storeExact_87 L1 L2 L5 L7 s0 (0 : Int32) st)))
def RN_storeExact (st : rn_S) (p0 : Int32) (p1 : Int32) (p2 : Int32) : Int32 × rn_S := nm (rn_pr st p0.toNatClampNeg) (fun x6 => nm (RN_modeOnSize p2 p1) (fun r10 => nm (RE_topWeight st) (fun r19 => nm ((r19 - x6) + (1 : Int32)) (fun x31 => nm (RE_isAbovePower st (-202 : Int32)) (fun r40 => (if r40 = 0 then RN_storeExact_51 p0 p1 x6 r10 r19 x31 (1 : Int32) st else RN_storeExact_51 p0 p1 x6 r10 r19 x31 (0 : Int32) st))))))
set_option maxHeartbeats 4000000 in
set_option maxRecDepth 100000 in
theorem c_RN_storeExact (l : Launch) {D : va_G} (a : Nat → Nat) (ci co : ClassId) (hi : rn_inj a) (st : rn_S) (p0 : Int32) (p1 : Int32) (p2 : Int32) (hd : vp_in p0 8) (r0 : Int32) (t0 : rn_S) (hF : RN_storeExact st p0 p1 p2 = (r0, t0)) : ct_i l ⟨"RoundedNumbers", "storeExact", "(III)I"⟩ (.code ⟨"RoundedNumbers", "storeExact", "(III)I"⟩ prog_1_method_30_code 12 (some .int) :: ct_T) { frames := 4, cells := 0, slots := 0, locals := 95 } D vwCl (rn_T ci co) (rn_g a ci co) (rn_X a) [.ref (a 0), .int p0, .int p1, .int p2] st r0 t0 := by
  refine ct_i.mk (cc := prog_1_method_30_code) (maxL := 12) (by decide) rfl (Nat.le_of_ble_eq_true rfl) ?_
  intro p e s m below meth c hx hb hr hml hown hts hlk hK hN hP hS ls hl
  have hown : s.vm.findClass "RoundedNumbers" = some m.cls := hown
  have hl : lv_has ls 12 [(0, .ref (a 0)), (1, .int p0), (2, .int p1), (3, .int p2)] := hl
  have htb := fun w h => hts w (List.mem_cons_of_mem _ h)
  unfold RN_storeExact at hF
  refine lv_aload_n hx hb d_RN_storeExact_0 rfl (lv_at hl 0 rfl) ?_
  refine gf_RN_9 hx hb htb hown hK hP d_RN_storeExact_1 ?_
  refine lv_iload_n hx hb d_RN_storeExact_4 rfl (lv_at hl 1 rfl) ?_
  refine rn_ald_prec hx hb hK hP hd d_RN_storeExact_5 ?_
  refine lv_topi (fun x6 e6 => ?_)
  replace hF := (nm_eq e6.symm).symm.trans hF
  refine lv_istore (lv' := [(4, .int x6), (0, .ref (a 0)), (1, .int p0), (2, .int p1), (3, .int p2)]) hx hb d_RN_storeExact_6 hl (by decide) rfl (fun ls hl => ?_)
  refine lv_iload_n hx hb d_RN_storeExact_8 rfl (lv_at hl 4 rfl) ?_
  refine lv_iload_n hx hb d_RN_storeExact_9 rfl (lv_at hl 3 rfl) ?_
  obtain ⟨r10, e10⟩ := nm_ex (RN_modeOnSize p2 p1)
  replace hF := (nm_eq e10).symm.trans hF
  refine ct_calli (va_runS (As := [.int p2, .int p1]) (rest := []) ⟨hx, hb, hml, hown, hts⟩ (c_RN_modeOnSize l (D := D) a ci co hi st p2 p1 _ e10 _) (kc_RN_149 hts ⟨by decide, by decide⟩) ⟨ct_blind, ct_ok hP hK hN⟩ rfl rfl hl.1 rfl (lv_room (Nat.le_of_ble_eq_true rfl)) d_RN_storeExact_10 ⟨Nat.zero_le _, Nat.zero_le _⟩) hS (fun H locs hP hS => ?_)
  refine lv_istore (lv' := [(5, .int r10), (4, .int x6), (0, .ref (a 0)), (1, .int p0), (2, .int p1), (3, .int p2)]) hx hb d_RN_storeExact_13 hl (by decide) rfl (fun ls hl => ?_)
  refine lv_aload_n hx hb d_RN_storeExact_15 rfl (lv_at hl 2 rfl) ?_
  refine gf_RN_32 hx hb htb hown hK hP d_RN_storeExact_16 ?_
  obtain ⟨r19, e19⟩ := nm_ex (RE_topWeight st)
  replace hF := (nm_eq e19).symm.trans hF
  refine ct_calli (va_runV (As := []) (rest := []) ⟨hx, hb, hml, hown, hts⟩ (c_RE_topWeight l (D := D) a ci co hi st _ e19 _) (kc_RN_170 hts ⟨by decide, by decide⟩) ⟨ct_blind, rn_rc2 hK hP, ct_ok hP hK hN⟩ rfl rfl hl.1 rfl (lv_room (Nat.le_of_ble_eq_true rfl)) d_RN_storeExact_19 ⟨Nat.zero_le _, Nat.zero_le _⟩) hS (fun H locs hP hS => ?_)
  refine lv_istore (lv' := [(6, .int r19), (5, .int r10), (4, .int x6), (0, .ref (a 0)), (1, .int p0), (2, .int p1), (3, .int p2)]) hx hb d_RN_storeExact_22 hl (by decide) rfl (fun ls hl => ?_)
  refine lv_iload hx hb d_RN_storeExact_24 (lv_at hl 0 rfl) ?_
  refine lv_iload hx hb d_RN_storeExact_26 (lv_at hl 2 rfl) ?_
  refine lv_isub hx hb d_RN_storeExact_28 ?_
  refine lv_iconst (v := 1) hx hb d_RN_storeExact_29 (by decide) ?_
  refine lv_iadd hx hb d_RN_storeExact_30 ?_
  refine lv_topi (fun x31 e31 => ?_)
  replace hF := (nm_eq e31.symm).symm.trans hF
  refine lv_istore (lv' := [(7, .int x31), (6, .int r19), (5, .int r10), (4, .int x6), (0, .ref (a 0)), (1, .int p0), (2, .int p1), (3, .int p2)]) hx hb d_RN_storeExact_31 hl (by decide) rfl (fun ls hl => ?_)
  refine lv_aload_n hx hb d_RN_storeExact_33 rfl (lv_at hl 4 rfl) ?_
  refine gf_RN_32 hx hb htb hown hK hP d_RN_storeExact_34 ?_
  refine lv_sipush (v := -202) hx hb d_RN_storeExact_37 (by decide) ?_
  obtain ⟨r40, e40⟩ := nm_ex (RE_isAbovePower st (-202 : Int32))
  replace hF := (nm_eq e40).symm.trans hF
  refine ct_calli (va_runV (As := [.int (-202 : Int32)]) (rest := []) ⟨hx, hb, hml, hown, hts⟩ (c_RE_isAbovePower l (D := D) a ci co hi st (-202 : Int32) _ e40 _) (kc_RN_173 hts ⟨by decide, by decide⟩) ⟨ct_blind, rn_rc2 hK hP, ct_ok hP hK hN⟩ rfl rfl hl.1 rfl (lv_room (Nat.le_of_ble_eq_true rfl)) d_RN_storeExact_40 ⟨Nat.zero_le _, Nat.zero_le _⟩) hS (fun H locs hP hS => ?_)
  refine ct_cut1 (fun (j51s0 : Int32) ls H locs => lv_has ls 12 [(7, .int x31), (6, .int r19), (5, .int r10), (4, .int x6), (0, .ref (a 0)), (1, .int p0), (2, .int p1)] ∧ RN_storeExact_51 p0 p1 x6 r10 r19 x31 j51s0 st = (r0, t0) ∧ va_P D vwCl (rn_g a ci co st) H ∧ va_S (ct_F (rn_X a) s.heap.size) s.heap H locs) 51 (fun j51s0 => [.int j51s0]) ?_ ?_
  · intro j51s0 ls H locs hq
    obtain ⟨hl, hF, hP, hS⟩ := hq
    unfold RN_storeExact_51 at hF
    refine lv_istore (lv' := [(8, .int j51s0), (7, .int x31), (6, .int r19), (5, .int r10), (4, .int x6), (0, .ref (a 0)), (1, .int p0), (2, .int p1)]) hx hb d_RN_storeExact_51 hl (by decide) rfl (fun ls hl => ?_)
    refine lv_iload hx hb d_RN_storeExact_53 (lv_at hl 4 rfl) ?_
    refine lv_iconst (v := 1) hx hb d_RN_storeExact_55 (by decide) ?_
    refine ct_cut1 (fun (j87s0 : Int32) ls H locs => lv_has ls 12 [(8, .int j51s0), (7, .int x31), (5, .int r10), (0, .ref (a 0)), (1, .int p0), (2, .int p1)] ∧ RN_storeExact_87 p0 p1 r10 x31 j51s0 j87s0 st = (r0, t0) ∧ va_P D vwCl (rn_g a ci co st) H ∧ va_S (ct_F (rn_X a) s.heap.size) s.heap H locs) 87 (fun j87s0 => [.int j87s0]) ?_ ?_
    · intro j87s0 ls H locs hq
      obtain ⟨hl, hF, hP, hS⟩ := hq
      unfold RN_storeExact_87 at hF
      refine lv_istore (lv' := [(9, .int j87s0), (8, .int j51s0), (7, .int x31), (5, .int r10), (0, .ref (a 0)), (1, .int p0), (2, .int p1)]) hx hb d_RN_storeExact_87 hl (by decide) rfl (fun ls hl => ?_)
      refine lv_aload_n hx hb d_RN_storeExact_89 rfl (lv_at hl 4 rfl) ?_
      refine gf_RN_32 hx hb htb hown hK hP d_RN_storeExact_90 ?_
      refine lv_iload hx hb d_RN_storeExact_93 (lv_at hl 2 rfl) ?_
      refine lv_iload hx hb d_RN_storeExact_95 (lv_at hl 3 rfl) ?_
      refine lv_iload hx hb d_RN_storeExact_97 (lv_at hl 0 rfl) ?_
      obtain ⟨r99, t99, e99⟩ := bd_ex (RE_roundAt st x31 r10 j87s0)
      replace hF := (bd_eq e99).symm.trans hF
      refine ct_calli (va_runV (As := [.int x31, .int r10, .int j87s0]) (rest := []) ⟨hx, hb, hml, hown, hts⟩ (c_RE_roundAt l (D := D) a ci co hi st x31 r10 j87s0 _ _ e99 _) (kc_RN_155 hts ⟨by decide, by decide⟩) ⟨ct_blind, rn_rc2 hK hP, ct_ok hP hK hN⟩ rfl rfl hl.1 rfl (lv_room (Nat.le_of_ble_eq_true rfl)) d_RN_storeExact_99 ⟨Nat.zero_le _, Nat.zero_le _⟩) hS (fun H locs hP hS => ?_)
      refine lv_istore (lv' := [(10, .int r99), (9, .int j87s0), (8, .int j51s0), (7, .int x31), (5, .int r10), (0, .ref (a 0)), (1, .int p0), (2, .int p1)]) hx hb d_RN_storeExact_102 hl (by decide) rfl (fun ls hl => ?_)
      refine lv_aload_n hx hb d_RN_storeExact_104 rfl (lv_at hl 5 rfl) ?_
      refine gf_RN_32 hx hb htb hown hK hP d_RN_storeExact_105 ?_
      obtain ⟨r108, e108⟩ := nm_ex (RE_topWeight t99)
      replace hF := (nm_eq e108).symm.trans hF
      refine ct_calli (va_runV (As := []) (rest := []) ⟨hx, hb, hml, hown, hts⟩ (c_RE_topWeight l (D := D) a ci co hi t99 _ e108 _) (kc_RN_170 hts ⟨by decide, by decide⟩) ⟨ct_blind, rn_rc2 hK hP, ct_ok hP hK hN⟩ rfl rfl hl.1 rfl (lv_room (Nat.le_of_ble_eq_true rfl)) d_RN_storeExact_108 ⟨Nat.zero_le _, Nat.zero_le _⟩) hS (fun H locs hP hS => ?_)
      refine lv_iconst (v := 1) hx hb d_RN_storeExact_111 (by decide) ?_
      refine lv_iadd hx hb d_RN_storeExact_112 ?_
      refine lv_topi (fun x113 e113 => ?_)
      replace hF := (nm_eq e113.symm).symm.trans hF
      refine lv_istore (lv' := [(11, .int x113), (10, .int r99), (9, .int j87s0), (8, .int j51s0), (7, .int x31), (5, .int r10), (0, .ref (a 0)), (1, .int p0), (2, .int p1)]) hx hb d_RN_storeExact_113 hl (by decide) rfl (fun ls hl => ?_)
      refine lv_iload hx hb d_RN_storeExact_115 (lv_at hl 0 rfl) ?_
      refine lv_sipush (v := 200) hx hb d_RN_storeExact_117 (by decide) ?_
      refine lv_icmp_le hx hb d_RN_storeExact_120 (tgt := 132) (by decide) (fun c120 => ?_) (fun c120 => ?_)
      · replace hF := (if_pos c120).symm.trans hF
        refine lv_iload hx hb d_RN_storeExact_132 (lv_at hl 0 rfl) ?_
        refine lv_sipush (v := -200) hx hb d_RN_storeExact_134 (by decide) ?_
        refine lv_icmp_ge hx hb d_RN_storeExact_137 (tgt := 168) (by decide) (fun c137 => ?_) (fun c137 => ?_)
        · replace hF := (if_pos c137).symm.trans hF
          refine lv_aload_n hx hb d_RN_storeExact_168 rfl (lv_at hl 6 rfl) ?_
          refine gf_RN_32 hx hb htb hown hK hP d_RN_storeExact_169 ?_
          refine lv_aload_n hx hb d_RN_storeExact_172 rfl (lv_at hl 6 rfl) ?_
          refine gf_RN_15 hx hb htb hown hK hP d_RN_storeExact_173 ?_
          refine lv_iload_n hx hb d_RN_storeExact_176 rfl (lv_at hl 7 rfl) ?_
          refine rn_ald_regs hx hb hK hP hd d_RN_storeExact_177 ?_
          refine lv_iload_n hx hb d_RN_storeExact_178 rfl (lv_at hl 8 rfl) ?_
          obtain ⟨t179, e179⟩ := nm_ex (RE_storeInto t99 p0.toNatClampNeg p1)
          replace hF := (nm_eq e179).symm.trans hF
          refine ct_callv (va_runV (As := [.ref (a (8 + p0.toNatClampNeg)), .int p1]) (rest := []) ⟨hx, hb, hml, hown, hts⟩ (c_RE_storeInto l (D := D) a ci co hi t99 p0.toNatClampNeg p1 (rn_lt10 hd) _ e179 _) (kc_RN_185 hts ⟨by decide, by decide⟩) ⟨ct_blind, rn_rc2 hK hP, ct_ok hP hK hN⟩ rfl rfl hl.1 rfl (lv_room (Nat.le_of_ble_eq_true rfl)) d_RN_storeExact_179 ⟨Nat.zero_le _, Nat.zero_le _⟩) hS (fun H locs hP hS => ?_)
          refine lv_iload hx hb d_RN_storeExact_182 (lv_at hl 1 rfl) ?_
          refine lv_iload_n hx hb d_RN_storeExact_184 rfl (lv_at hl 8 rfl) ?_
          refine lv_imul hx hb d_RN_storeExact_185 ?_
          obtain ⟨rfl, rfl⟩ := Prod.mk.inj hF
          exact ct_iret hx hb hr hlk hP hS d_RN_storeExact_186
        · replace hF := (if_neg c137).symm.trans hF
          refine lv_aload_n hx hb d_RN_storeExact_140 rfl (lv_at hl 6 rfl) ?_
          refine lv_iload_n hx hb d_RN_storeExact_141 rfl (lv_at hl 7 rfl) ?_
          refine lv_iload_n hx hb d_RN_storeExact_142 rfl (lv_at hl 8 rfl) ?_
          refine lv_iload hx hb d_RN_storeExact_143 (lv_at hl 5 rfl) ?_
          refine lv_iconst (v := 1) hx hb d_RN_storeExact_145 (by decide) ?_
          refine ct_cut1 (fun (j164s0 : Int32) ls H locs => lv_has ls 12 [] ∧ RN_storeExact_164 j164s0 p1 p0 t99 = (r0, t0) ∧ va_P D vwCl (rn_g a ci co t99) H ∧ va_S (ct_F (rn_X a) s.heap.size) s.heap H locs) 164 (fun j164s0 => [.int j164s0, .int p1, .int p0, .ref (a 0)]) ?_ ?_
          · intro j164s0 ls H locs hq
            obtain ⟨hl, hF, hP, hS⟩ := hq
            unfold RN_storeExact_164 at hF
            obtain ⟨r164, t164, e164⟩ := bd_ex (RN_storeTiny t99 p0 p1 j164s0)
            replace hF := (bd_eq e164).symm.trans hF
            refine ct_calli (va_runV (As := [.int p0, .int p1, .int j164s0]) (rest := []) ⟨hx, hb, hml, hown, hts⟩ (c_RN_storeTiny l (D := D) a ci co hi t99 p0 p1 j164s0 hd _ _ e164 _) (kc_RN_182 hts ⟨by decide, by decide⟩) ⟨ct_blind, rn_rc0 hK hP, ct_ok hP hK hN⟩ rfl rfl hl.1 rfl (lv_room (Nat.le_of_ble_eq_true rfl)) d_RN_storeExact_164 ⟨Nat.zero_le _, Nat.zero_le _⟩) hS (fun H locs hP hS => ?_)
            obtain ⟨rfl, rfl⟩ := Prod.mk.inj hF
            exact ct_iret hx hb hr hlk hP hS d_RN_storeExact_167
          · intro kj164
            refine ct_cut0 (fun  ls H locs => lv_has ls 12 [] ∧ RN_storeExact_159 p1 p0 t99 = (r0, t0) ∧ va_P D vwCl (rn_g a ci co t99) H ∧ va_S (ct_F (rn_X a) s.heap.size) s.heap H locs) 159 [.int p1, .int p0, .ref (a 0)] ?_ ?_
            · intro ls H locs hq
              obtain ⟨hl, hF, hP, hS⟩ := hq
              unfold RN_storeExact_159 at hF
              refine lv_iconst (v := 1) hx hb d_RN_storeExact_159 (by decide) ?_
              refine lv_goto hx hb d_RN_storeExact_160 (tgt := 164) (by decide) ?_
              exact kj164 (1 : Int32) _ _ _ ⟨lv_sub hl [] rfl, hF, hP, hS⟩
            · intro kj159
              refine lv_icmp_eq hx hb d_RN_storeExact_146 (tgt := 159) (by decide) (fun c146 => ?_) (fun c146 => ?_)
              · replace hF := (if_pos c146).symm.trans hF
                exact kj159 _ _ _ ⟨lv_sub hl [] rfl, hF, hP, hS⟩
              · replace hF := (if_neg c146).symm.trans hF
                refine lv_iload hx hb d_RN_storeExact_149 (lv_at hl 5 rfl) ?_
                refine ct_cut0 (fun  ls H locs => lv_has ls 12 [] ∧ RN_storeExact_163 p1 p0 t99 = (r0, t0) ∧ va_P D vwCl (rn_g a ci co t99) H ∧ va_S (ct_F (rn_X a) s.heap.size) s.heap H locs) 163 [.int p1, .int p0, .ref (a 0)] ?_ ?_
                · intro ls H locs hq
                  obtain ⟨hl, hF, hP, hS⟩ := hq
                  unfold RN_storeExact_163 at hF
                  refine lv_iconst (v := 0) hx hb d_RN_storeExact_163 (by decide) ?_
                  exact kj164 (0 : Int32) _ _ _ ⟨lv_sub hl [] rfl, hF, hP, hS⟩
                · intro kj163
                  refine lv_if_ne hx hb d_RN_storeExact_151 (tgt := 163) (by decide) (fun c151 => ?_) (fun c151 => ?_)
                  · replace hF := (if_neg c151).symm.trans hF
                    exact kj163 _ _ _ ⟨lv_sub hl [] rfl, hF, hP, hS⟩
                  · replace hF := (if_pos c151).symm.trans hF
                    refine lv_iload hx hb d_RN_storeExact_154 (lv_at hl 3 rfl) ?_
                    refine lv_if_eq hx hb d_RN_storeExact_156 (tgt := 163) (by decide) (fun c156 => ?_) (fun c156 => ?_)
                    · replace hF := (if_pos c156).symm.trans hF
                      exact kj163 _ _ _ ⟨lv_sub hl [] rfl, hF, hP, hS⟩
                    · replace hF := (if_neg c156).symm.trans hF
                      exact kj159 _ _ _ ⟨lv_sub hl [] rfl, hF, hP, hS⟩
      · replace hF := (if_neg c120).symm.trans hF
        refine lv_aload_n hx hb d_RN_storeExact_123 rfl (lv_at hl 6 rfl) ?_
        refine lv_iload_n hx hb d_RN_storeExact_124 rfl (lv_at hl 7 rfl) ?_
        refine lv_iload_n hx hb d_RN_storeExact_125 rfl (lv_at hl 8 rfl) ?_
        refine lv_iload hx hb d_RN_storeExact_126 (lv_at hl 5 rfl) ?_
        obtain ⟨r128, t128, e128⟩ := bd_ex (RN_storeHuge t99 p0 p1 r10)
        replace hF := (bd_eq e128).symm.trans hF
        refine ct_calli (va_runV (As := [.int p0, .int p1, .int r10]) (rest := []) ⟨hx, hb, hml, hown, hts⟩ (c_RN_storeHuge l (D := D) a ci co hi t99 p0 p1 r10 hd _ _ e128 _) (kc_RN_179 hts ⟨by decide, by decide⟩) ⟨ct_blind, rn_rc0 hK hP, ct_ok hP hK hN⟩ rfl rfl hl.1 rfl (lv_room (Nat.le_of_ble_eq_true rfl)) d_RN_storeExact_128 ⟨Nat.zero_le _, Nat.zero_le _⟩) hS (fun H locs hP hS => ?_)
        obtain ⟨rfl, rfl⟩ := Prod.mk.inj hF
        exact ct_iret hx hb hr hlk hP hS d_RN_storeExact_131
    · intro kj87
      refine lv_icmp_ne hx hb d_RN_storeExact_56 (tgt := 69) (by decide) (fun c56 => ?_) (fun c56 => ?_)
      · replace hF := (if_neg c56).symm.trans hF
        refine lv_aload_n hx hb d_RN_storeExact_69 rfl (lv_at hl 5 rfl) ?_
        refine gf_RN_32 hx hb htb hown hK hP d_RN_storeExact_70 ?_
        refine lv_iload hx hb d_RN_storeExact_73 (lv_at hl 1 rfl) ?_
        obtain ⟨r75, e75⟩ := nm_ex (RE_bit st x31)
        replace hF := (nm_eq e75).symm.trans hF
        refine ct_calli (va_runV (As := [.int x31]) (rest := []) ⟨hx, hb, hml, hown, hts⟩ (c_RE_bit l (D := D) a ci co hi st x31 _ e75 _) (kc_RN_152 hts ⟨by decide, by decide⟩) ⟨ct_blind, rn_rc2 hK hP, ct_ok hP hK hN⟩ rfl rfl hl.1 rfl (lv_room (Nat.le_of_ble_eq_true rfl)) d_RN_storeExact_75 ⟨Nat.zero_le _, Nat.zero_le _⟩) hS (fun H locs hP hS => ?_)
        refine lv_iconst (v := 1) hx hb d_RN_storeExact_78 (by decide) ?_
        refine lv_icmp_ne hx hb d_RN_storeExact_79 (tgt := 86) (by decide) (fun c79 => ?_) (fun c79 => ?_)
        · replace hF := (if_neg c79).symm.trans hF
          refine lv_iconst (v := 0) hx hb d_RN_storeExact_86 (by decide) ?_
          exact kj87 (0 : Int32) _ _ _ ⟨lv_sub hl [0, 1, 3, 5, 6, 7] rfl, hF, hP, hS⟩
        · replace hF := (if_pos c79).symm.trans hF
          refine lv_iconst (v := 1) hx hb d_RN_storeExact_82 (by decide) ?_
          refine lv_goto hx hb d_RN_storeExact_83 (tgt := 87) (by decide) ?_
          exact kj87 (1 : Int32) _ _ _ ⟨lv_sub hl [0, 1, 3, 5, 6, 7] rfl, hF, hP, hS⟩
      · replace hF := (if_pos c56).symm.trans hF
        refine lv_iload hx hb d_RN_storeExact_59 (lv_at hl 2 rfl) ?_
        refine lv_iconst (v := 1) hx hb d_RN_storeExact_61 (by decide) ?_
        refine lv_iadd hx hb d_RN_storeExact_62 ?_
        obtain ⟨r63, e63⟩ := nm_ex (RN_isOdd (r19 + (1 : Int32)))
        replace hF := (nm_eq e63).symm.trans hF
        refine ct_calli (va_runS (As := [.int (r19 + (1 : Int32))]) (rest := []) ⟨hx, hb, hml, hown, hts⟩ (c_RN_isOdd l (D := D) a ci co hi st (r19 + (1 : Int32)) _ e63 _) (kc_RN_176 hts ⟨by decide, by decide⟩) ⟨ct_blind, ct_ok hP hK hN⟩ rfl rfl hl.1 rfl (lv_room (Nat.le_of_ble_eq_true rfl)) d_RN_storeExact_63 ⟨Nat.zero_le _, Nat.zero_le _⟩) hS (fun H locs hP hS => ?_)
        refine lv_goto hx hb d_RN_storeExact_66 (tgt := 87) (by decide) ?_
        exact kj87 r63 _ _ _ ⟨lv_sub hl [0, 1, 3, 5, 6, 7] rfl, hF, hP, hS⟩
  · intro kj51
    refine lv_if_ne hx hb d_RN_storeExact_43 (tgt := 50) (by decide) (fun c43 => ?_) (fun c43 => ?_)
    · replace hF := (if_neg c43).symm.trans hF
      refine lv_iconst (v := 0) hx hb d_RN_storeExact_50 (by decide) ?_
      exact kj51 (0 : Int32) _ _ _ ⟨lv_sub hl [0, 1, 2, 3, 4, 5, 6] rfl, hF, hP, hS⟩
    · replace hF := (if_pos c43).symm.trans hF
      refine lv_iconst (v := 1) hx hb d_RN_storeExact_46 (by decide) ?_
      refine lv_goto hx hb d_RN_storeExact_47 (tgt := 51) (by decide) ?_
      exact kj51 (1 : Int32) _ _ _ ⟨lv_sub hl [0, 1, 2, 3, 4, 5, 6] rfl, hF, hP, hS⟩
theorem d_RN_storeValue_0 : decode prog_1_method_28_code 0 = .ok (.aload_n 2, 1) := by decide +kernel
theorem d_RN_storeValue_1 : decode prog_1_method_28_code 1 = .ok (.getfield 96, 3) := by decide +kernel
theorem d_RN_storeValue_4 : decode prog_1_method_28_code 4 = .ok (.iconst 3, 1) := by decide +kernel
theorem d_RN_storeValue_5 : decode prog_1_method_28_code 5 = .ok (.if_icmp .eq 14, 3) := by decide +kernel
theorem d_RN_storeValue_8 : decode prog_1_method_28_code 8 = .ok (.aload_n 0, 1) := by decide +kernel
theorem d_RN_storeValue_9 : decode prog_1_method_28_code 9 = .ok (.iload_n 1, 1) := by decide +kernel
theorem d_RN_storeValue_10 : decode prog_1_method_28_code 10 = .ok (.aload_n 2, 1) := by decide +kernel
theorem d_RN_storeValue_11 : decode prog_1_method_28_code 11 = .ok (.getfield 96, 3) := by decide +kernel
theorem d_RN_storeValue_14 : decode prog_1_method_28_code 14 = .ok (.iload_n 3, 1) := by decide +kernel
theorem d_RN_storeValue_15 : decode prog_1_method_28_code 15 = .ok (.invokevirtual 102, 3) := by decide +kernel
theorem d_RN_storeValue_18 : decode prog_1_method_28_code 18 = .ok (.ireturn, 1) := by decide +kernel
theorem d_RN_storeValue_19 : decode prog_1_method_28_code 19 = .ok (.aload_n 0, 1) := by decide +kernel
theorem d_RN_storeValue_20 : decode prog_1_method_28_code 20 = .ok (.getfield 32, 3) := by decide +kernel
theorem d_RN_storeValue_23 : decode prog_1_method_28_code 23 = .ok (.invokevirtual 125, 3) := by decide +kernel
theorem d_RN_storeValue_26 : decode prog_1_method_28_code 26 = .ok (.aload_n 0, 1) := by decide +kernel
theorem d_RN_storeValue_27 : decode prog_1_method_28_code 27 = .ok (.getfield 32, 3) := by decide +kernel
theorem d_RN_storeValue_30 : decode prog_1_method_28_code 30 = .ok (.aload_n 2, 1) := by decide +kernel
theorem d_RN_storeValue_31 : decode prog_1_method_28_code 31 = .ok (.iconst 1, 1) := by decide +kernel
theorem d_RN_storeValue_32 : decode prog_1_method_28_code 32 = .ok (.invokevirtual 128, 3) := by decide +kernel
theorem d_RN_storeValue_35 : decode prog_1_method_28_code 35 = .ok (.aload_n 0, 1) := by decide +kernel
theorem d_RN_storeValue_36 : decode prog_1_method_28_code 36 = .ok (.iload_n 1, 1) := by decide +kernel
theorem d_RN_storeValue_37 : decode prog_1_method_28_code 37 = .ok (.iload_n 3, 1) := by decide +kernel
theorem d_RN_storeValue_38 : decode prog_1_method_28_code 38 = .ok (.iload 4, 2) := by decide +kernel
theorem d_RN_storeValue_40 : decode prog_1_method_28_code 40 = .ok (.invokevirtual 109, 3) := by decide +kernel
theorem d_RN_storeValue_43 : decode prog_1_method_28_code 43 = .ok (.ireturn, 1) := by decide +kernel
def RN_storeValue (st : rn_S) (p0 : Int32) (v1 : Nat) (p2 : Int32) (p3 : Int32) : Int32 × rn_S := (if (rn_kd st v1) = (3 : Int32) then nm (RE_clear st) (fun t23 => nm (RE_gather t23 v1 (1 : Int32)) (fun t32 => bd (RN_storeExact t32 p0 p2 p3) (fun r40 t40 => (r40, t40)))) else bd (RN_storePlain st p0 (rn_kd st v1) p2) (fun r15 t15 => (r15, t15)))
set_option maxHeartbeats 4000000 in
set_option maxRecDepth 100000 in
theorem c_RN_storeValue (l : Launch) {D : va_G} (a : Nat → Nat) (ci co : ClassId) (hi : rn_inj a) (st : rn_S) (p0 : Int32) (v1 : Nat) (p2 : Int32) (p3 : Int32) (hv1 : v1 < 10) (hd : vp_in p0 8) (r0 : Int32) (t0 : rn_S) (hF : RN_storeValue st p0 v1 p2 p3 = (r0, t0)) : ct_i l ⟨"RoundedNumbers", "storeValue", "(ILRoundedNumbers$Value;II)I"⟩ (.code ⟨"RoundedNumbers", "storeValue", "(ILRoundedNumbers$Value;II)I"⟩ prog_1_method_28_code 5 (some .int) :: ct_T) { frames := 5, cells := 0, slots := 0, locals := 126 } D vwCl (rn_T ci co) (rn_g a ci co) (rn_X a) [.ref (a 0), .int p0, .ref (a (8 + v1)), .int p2, .int p3] st r0 t0 := by
  refine ct_i.mk (cc := prog_1_method_28_code) (maxL := 5) (by decide) rfl (Nat.le_of_ble_eq_true rfl) ?_
  intro p e s m below meth c hx hb hr hml hown hts hlk hK hN hP hS ls hl
  have hown : s.vm.findClass "RoundedNumbers" = some m.cls := hown
  have hl : lv_has ls 5 [(0, .ref (a 0)), (1, .int p0), (2, .ref (a (8 + v1))), (3, .int p2), (4, .int p3)] := hl
  have htb := fun w h => hts w (List.mem_cons_of_mem _ h)
  unfold RN_storeValue at hF
  refine lv_aload_n hx hb d_RN_storeValue_0 rfl (lv_at hl 2 rfl) ?_
  refine gf_RN_96 hx hb htb hown hK hP (i := v1) hv1 d_RN_storeValue_1 ?_
  refine lv_iconst (v := 3) hx hb d_RN_storeValue_4 (by decide) ?_
  refine lv_icmp_eq hx hb d_RN_storeValue_5 (tgt := 19) (by decide) (fun c5 => ?_) (fun c5 => ?_)
  · replace hF := (if_pos c5).symm.trans hF
    refine lv_aload_n hx hb d_RN_storeValue_19 rfl (lv_at hl 0 rfl) ?_
    refine gf_RN_32 hx hb htb hown hK hP d_RN_storeValue_20 ?_
    obtain ⟨t23, e23⟩ := nm_ex (RE_clear st)
    replace hF := (nm_eq e23).symm.trans hF
    refine ct_callv (va_runV (As := []) (rest := []) ⟨hx, hb, hml, hown, hts⟩ (c_RE_clear l (D := D) a ci co hi st _ e23 _) (kc_RN_125 hts ⟨by decide, by decide⟩) ⟨ct_blind, rn_rc2 hK hP, ct_ok hP hK hN⟩ rfl rfl hl.1 rfl (lv_room (Nat.le_of_ble_eq_true rfl)) d_RN_storeValue_23 ⟨Nat.zero_le _, Nat.zero_le _⟩) hS (fun H locs hP hS => ?_)
    refine lv_aload_n hx hb d_RN_storeValue_26 rfl (lv_at hl 0 rfl) ?_
    refine gf_RN_32 hx hb htb hown hK hP d_RN_storeValue_27 ?_
    refine lv_aload_n hx hb d_RN_storeValue_30 rfl (lv_at hl 2 rfl) ?_
    refine lv_iconst (v := 1) hx hb d_RN_storeValue_31 (by decide) ?_
    obtain ⟨t32, e32⟩ := nm_ex (RE_gather t23 v1 (1 : Int32))
    replace hF := (nm_eq e32).symm.trans hF
    refine ct_callv (va_runV (As := [.ref (a (8 + v1)), .int (1 : Int32)]) (rest := []) ⟨hx, hb, hml, hown, hts⟩ (c_RE_gather l (D := D) a ci co hi t23 v1 (1 : Int32) hv1 _ e32 _) (kc_RN_128 hts ⟨by decide, by decide⟩) ⟨ct_blind, rn_rc2 hK hP, ct_ok hP hK hN⟩ rfl rfl hl.1 rfl (lv_room (Nat.le_of_ble_eq_true rfl)) d_RN_storeValue_32 ⟨Nat.zero_le _, Nat.zero_le _⟩) hS (fun H locs hP hS => ?_)
    refine lv_aload_n hx hb d_RN_storeValue_35 rfl (lv_at hl 0 rfl) ?_
    refine lv_iload_n hx hb d_RN_storeValue_36 rfl (lv_at hl 1 rfl) ?_
    refine lv_iload_n hx hb d_RN_storeValue_37 rfl (lv_at hl 3 rfl) ?_
    refine lv_iload hx hb d_RN_storeValue_38 (lv_at hl 4 rfl) ?_
    obtain ⟨r40, t40, e40⟩ := bd_ex (RN_storeExact t32 p0 p2 p3)
    replace hF := (bd_eq e40).symm.trans hF
    refine ct_calli (va_runV (As := [.int p0, .int p2, .int p3]) (rest := []) ⟨hx, hb, hml, hown, hts⟩ (c_RN_storeExact l (D := D) a ci co hi t32 p0 p2 p3 hd _ _ e40 _) (kc_RN_109 hts ⟨by decide, by decide⟩) ⟨ct_blind, rn_rc0 hK hP, ct_ok hP hK hN⟩ rfl rfl hl.1 rfl (lv_room (Nat.le_of_ble_eq_true rfl)) d_RN_storeValue_40 ⟨Nat.zero_le _, Nat.zero_le _⟩) hS (fun H locs hP hS => ?_)
    obtain ⟨rfl, rfl⟩ := Prod.mk.inj hF
    exact ct_iret hx hb hr hlk hP hS d_RN_storeValue_43
  · replace hF := (if_neg c5).symm.trans hF
    refine lv_aload_n hx hb d_RN_storeValue_8 rfl (lv_at hl 0 rfl) ?_
    refine lv_iload_n hx hb d_RN_storeValue_9 rfl (lv_at hl 1 rfl) ?_
    refine lv_aload_n hx hb d_RN_storeValue_10 rfl (lv_at hl 2 rfl) ?_
    refine gf_RN_96 hx hb htb hown hK hP (i := v1) hv1 d_RN_storeValue_11 ?_
    refine lv_iload_n hx hb d_RN_storeValue_14 rfl (lv_at hl 3 rfl) ?_
    obtain ⟨r15, t15, e15⟩ := bd_ex (RN_storePlain st p0 (rn_kd st v1) p2)
    replace hF := (bd_eq e15).symm.trans hF
    refine ct_calli (va_runV (As := [.int p0, .int (rn_kd st v1), .int p2]) (rest := []) ⟨hx, hb, hml, hown, hts⟩ (c_RN_storePlain l (D := D) a ci co hi st p0 (rn_kd st v1) p2 hd _ _ e15 _) (kc_RN_102 hts ⟨by decide, by decide⟩) ⟨ct_blind, rn_rc0 hK hP, ct_ok hP hK hN⟩ rfl rfl hl.1 rfl (lv_room (Nat.le_of_ble_eq_true rfl)) d_RN_storeValue_15 ⟨Nat.zero_le _, Nat.zero_le _⟩) hS (fun H locs hP hS => ?_)
    obtain ⟨rfl, rfl⟩ := Prod.mk.inj hF
    exact ct_iret hx hb hr hlk hP hS d_RN_storeValue_18
theorem d_RN_storeLoaded_0 : decode prog_1_method_27_code 0 = .ok (.aload_n 0, 1) := by decide +kernel
theorem d_RN_storeLoaded_1 : decode prog_1_method_27_code 1 = .ok (.getfield 22, 3) := by decide +kernel
theorem d_RN_storeLoaded_4 : decode prog_1_method_27_code 4 = .ok (.lload_n 2, 1) := by decide +kernel
theorem d_RN_storeLoaded_5 : decode prog_1_method_27_code 5 = .ok (.iload 4, 2) := by decide +kernel
theorem d_RN_storeLoaded_7 : decode prog_1_method_27_code 7 = .ok (.invokevirtual 163, 3) := by decide +kernel
theorem d_RN_storeLoaded_10 : decode prog_1_method_27_code 10 = .ok (.aload_n 0, 1) := by decide +kernel
theorem d_RN_storeLoaded_11 : decode prog_1_method_27_code 11 = .ok (.iload_n 1, 1) := by decide +kernel
theorem d_RN_storeLoaded_12 : decode prog_1_method_27_code 12 = .ok (.aload_n 0, 1) := by decide +kernel
theorem d_RN_storeLoaded_13 : decode prog_1_method_27_code 13 = .ok (.getfield 22, 3) := by decide +kernel
theorem d_RN_storeLoaded_16 : decode prog_1_method_27_code 16 = .ok (.aload_n 0, 1) := by decide +kernel
theorem d_RN_storeLoaded_17 : decode prog_1_method_27_code 17 = .ok (.getfield 22, 3) := by decide +kernel
theorem d_RN_storeLoaded_20 : decode prog_1_method_27_code 20 = .ok (.getfield 80, 3) := by decide +kernel
theorem d_RN_storeLoaded_23 : decode prog_1_method_27_code 23 = .ok (.iload 5, 2) := by decide +kernel
theorem d_RN_storeLoaded_25 : decode prog_1_method_27_code 25 = .ok (.invokevirtual 84, 3) := by decide +kernel
theorem d_RN_storeLoaded_28 : decode prog_1_method_27_code 28 = .ok (.ireturn, 1) := by decide +kernel
def RN_storeLoaded (st : rn_S) (p0 : Int32) (p1 : Int64) (p2 : Int32) (p3 : Int32) : Int32 × rn_S := nm (RV_takeScaled st 8 p1 p2) (fun t7 => bd (RN_storeValue t7 p0 8 (rn_sg t7 8) p3) (fun r25 t25 => (r25, t25)))
set_option maxHeartbeats 4000000 in
set_option maxRecDepth 100000 in
theorem c_RN_storeLoaded (l : Launch) {D : va_G} (a : Nat → Nat) (ci co : ClassId) (hi : rn_inj a) (st : rn_S) (p0 : Int32) (p1 : Int64) (p2 : Int32) (p3 : Int32) (hd : vp_in p0 8) (r0 : Int32) (t0 : rn_S) (hF : RN_storeLoaded st p0 p1 p2 p3 = (r0, t0)) : ct_i l ⟨"RoundedNumbers", "storeLoaded", "(IJII)I"⟩ (.code ⟨"RoundedNumbers", "storeLoaded", "(IJII)I"⟩ prog_1_method_27_code 6 (some .int) :: ct_T) { frames := 6, cells := 0, slots := 0, locals := 150 } D vwCl (rn_T ci co) (rn_g a ci co) (rn_X a) [.ref (a 0), .int p0, .long p1, .int p2, .int p3] st r0 t0 := by
  refine ct_i.mk (cc := prog_1_method_27_code) (maxL := 6) (by decide) rfl (Nat.le_of_ble_eq_true rfl) ?_
  intro p e s m below meth c hx hb hr hml hown hts hlk hK hN hP hS ls hl
  have hown : s.vm.findClass "RoundedNumbers" = some m.cls := hown
  have hl : lv_has ls 6 [(0, .ref (a 0)), (1, .int p0), (2, .long p1), (4, .int p2), (5, .int p3)] := hl
  have htb := fun w h => hts w (List.mem_cons_of_mem _ h)
  unfold RN_storeLoaded at hF
  refine lv_aload_n hx hb d_RN_storeLoaded_0 rfl (lv_at hl 0 rfl) ?_
  refine gf_RN_22 hx hb htb hown hK hP d_RN_storeLoaded_1 ?_
  refine lv_lload_n hx hb d_RN_storeLoaded_4 rfl (lv_at hl 2 rfl) ?_
  refine lv_iload hx hb d_RN_storeLoaded_5 (lv_at hl 3 rfl) ?_
  obtain ⟨t7, e7⟩ := nm_ex (RV_takeScaled st 8 p1 p2)
  replace hF := (nm_eq e7).symm.trans hF
  refine ct_callv (va_runV (As := [.long p1, .int p2]) (rest := []) ⟨hx, hb, hml, hown, hts⟩ (c_RV_takeScaled l (D := D) a ci co hi st 8 p1 p2 (by decide) _ e7 _) (kc_RN_163 hts ⟨by decide, by decide⟩) ⟨ct_blind, rn_rc1 hK hP (by decide), ct_ok hP hK hN⟩ rfl rfl hl.1 rfl (lv_room (Nat.le_of_ble_eq_true rfl)) d_RN_storeLoaded_7 ⟨Nat.zero_le _, Nat.zero_le _⟩) hS (fun H locs hP hS => ?_)
  refine lv_aload_n hx hb d_RN_storeLoaded_10 rfl (lv_at hl 0 rfl) ?_
  refine lv_iload_n hx hb d_RN_storeLoaded_11 rfl (lv_at hl 1 rfl) ?_
  refine lv_aload_n hx hb d_RN_storeLoaded_12 rfl (lv_at hl 0 rfl) ?_
  refine gf_RN_22 hx hb htb hown hK hP d_RN_storeLoaded_13 ?_
  refine lv_aload_n hx hb d_RN_storeLoaded_16 rfl (lv_at hl 0 rfl) ?_
  refine gf_RN_22 hx hb htb hown hK hP d_RN_storeLoaded_17 ?_
  refine gf_RN_80 hx hb htb hown hK hP (i := 8) (by decide) d_RN_storeLoaded_20 ?_
  refine lv_iload hx hb d_RN_storeLoaded_23 (lv_at hl 4 rfl) ?_
  obtain ⟨r25, t25, e25⟩ := bd_ex (RN_storeValue t7 p0 8 (rn_sg t7 8) p3)
  replace hF := (bd_eq e25).symm.trans hF
  refine ct_calli (va_runV (As := [.int p0, .ref (a (8 + 8)), .int (rn_sg t7 8), .int p3]) (rest := []) ⟨hx, hb, hml, hown, hts⟩ (c_RN_storeValue l (D := D) a ci co hi t7 p0 8 (rn_sg t7 8) p3 (by decide) hd _ _ e25 _) (kc_RN_84 hts ⟨by decide, by decide⟩) ⟨ct_blind, rn_rc0 hK hP, ct_ok hP hK hN⟩ rfl rfl hl.1 rfl (lv_room (Nat.le_of_ble_eq_true rfl)) d_RN_storeLoaded_25 ⟨Nat.zero_le _, Nat.zero_le _⟩) hS (fun H locs hP hS => ?_)
  obtain ⟨rfl, rfl⟩ := Prod.mk.inj hF
  exact ct_iret hx hb hr hlk hP hS d_RN_storeLoaded_28
theorem d_RN_signOfNothing_0 : decode prog_1_method_25_code 0 = .ok (.iload_n 0, 1) := by decide +kernel
theorem d_RN_signOfNothing_1 : decode prog_1_method_25_code 1 = .ok (.iconst 3, 1) := by decide +kernel
theorem d_RN_signOfNothing_2 : decode prog_1_method_25_code 2 = .ok (.if_icmp .ne 7, 3) := by decide +kernel
theorem d_RN_signOfNothing_5 : decode prog_1_method_25_code 5 = .ok (.iconst (-1), 1) := by decide +kernel
theorem d_RN_signOfNothing_6 : decode prog_1_method_25_code 6 = .ok (.goto 4, 3) := by decide +kernel
theorem d_RN_signOfNothing_9 : decode prog_1_method_25_code 9 = .ok (.iconst 1, 1) := by decide +kernel
theorem d_RN_signOfNothing_10 : decode prog_1_method_25_code 10 = .ok (.ireturn, 1) := by decide +kernel
def RN_signOfNothing (p0 : Int32) : Int32 := (if p0 = (3 : Int32) then (-1 : Int32) else (1 : Int32))
set_option maxHeartbeats 4000000 in
set_option maxRecDepth 100000 in
theorem c_RN_signOfNothing (l : Launch) {D : va_G} (a : Nat → Nat) (ci co : ClassId) (hi : rn_inj a) (st : rn_S) (p0 : Int32) (r0 : Int32) (hF : RN_signOfNothing p0 = r0) : ct_i l ⟨"RoundedNumbers", "signOfNothing", "(I)I"⟩ (.code ⟨"RoundedNumbers", "signOfNothing", "(I)I"⟩ prog_1_method_25_code 1 (some .int) :: ct_T) { frames := 0, cells := 0, slots := 0, locals := 0 } D vwCl (rn_T ci co) (rn_g a ci co) (rn_X a) [.int p0] st r0 st := by
  refine ct_i.mk (cc := prog_1_method_25_code) (maxL := 1) (by decide) rfl (Nat.le_of_ble_eq_true rfl) ?_
  intro p e s m below meth c hx hb hr hml hown hts hlk hK hN hP hS ls hl
  have hown : s.vm.findClass "RoundedNumbers" = some m.cls := hown
  have hl : lv_has ls 1 [(0, .int p0)] := hl
  have htb := fun w h => hts w (List.mem_cons_of_mem _ h)
  unfold RN_signOfNothing at hF
  refine lv_iload_n hx hb d_RN_signOfNothing_0 rfl (lv_at hl 0 rfl) ?_
  refine lv_iconst (v := 3) hx hb d_RN_signOfNothing_1 (by decide) ?_
  refine lv_icmp_ne hx hb d_RN_signOfNothing_2 (tgt := 9) (by decide) (fun c2 => ?_) (fun c2 => ?_)
  · replace hF := (if_neg c2).symm.trans hF
    refine lv_iconst (v := 1) hx hb d_RN_signOfNothing_9 (by decide) ?_
    subst hF
    exact ct_iret hx hb hr hlk hP hS d_RN_signOfNothing_10
  · replace hF := (if_pos c2).symm.trans hF
    refine lv_iconst (v := -1) hx hb d_RN_signOfNothing_5 (by decide) ?_
    refine lv_goto hx hb d_RN_signOfNothing_6 (tgt := 10) (by decide) ?_
    subst hF
    exact ct_iret hx hb hr hlk hP hS d_RN_signOfNothing_10
theorem d_RN_storeSum_0 : decode prog_1_method_29_code 0 = .ok (.aload_n 2, 1) := by decide +kernel
theorem d_RN_storeSum_1 : decode prog_1_method_29_code 1 = .ok (.getfield 96, 3) := by decide +kernel
theorem d_RN_storeSum_4 : decode prog_1_method_29_code 4 = .ok (.ifCond .eq 10, 3) := by decide +kernel
theorem d_RN_storeSum_7 : decode prog_1_method_29_code 7 = .ok (.aload_n 3, 1) := by decide +kernel
theorem d_RN_storeSum_8 : decode prog_1_method_29_code 8 = .ok (.getfield 96, 3) := by decide +kernel
theorem d_RN_storeSum_11 : decode prog_1_method_29_code 11 = .ok (.ifCond .ne 11, 3) := by decide +kernel
theorem d_RN_storeSum_14 : decode prog_1_method_29_code 14 = .ok (.aload_n 0, 1) := by decide +kernel
theorem d_RN_storeSum_15 : decode prog_1_method_29_code 15 = .ok (.iload_n 1, 1) := by decide +kernel
theorem d_RN_storeSum_16 : decode prog_1_method_29_code 16 = .ok (.iconst 0, 1) := by decide +kernel
theorem d_RN_storeSum_17 : decode prog_1_method_29_code 17 = .ok (.iconst 0, 1) := by decide +kernel
theorem d_RN_storeSum_18 : decode prog_1_method_29_code 18 = .ok (.invokevirtual 102, 3) := by decide +kernel
theorem d_RN_storeSum_21 : decode prog_1_method_29_code 21 = .ok (.ireturn, 1) := by decide +kernel
theorem d_RN_storeSum_22 : decode prog_1_method_29_code 22 = .ok (.aload_n 2, 1) := by decide +kernel
theorem d_RN_storeSum_23 : decode prog_1_method_29_code 23 = .ok (.getfield 96, 3) := by decide +kernel
theorem d_RN_storeSum_26 : decode prog_1_method_29_code 26 = .ok (.iconst 1, 1) := by decide +kernel
theorem d_RN_storeSum_27 : decode prog_1_method_29_code 27 = .ok (.if_icmp .ne 28, 3) := by decide +kernel
theorem d_RN_storeSum_30 : decode prog_1_method_29_code 30 = .ok (.aload_n 3, 1) := by decide +kernel
theorem d_RN_storeSum_31 : decode prog_1_method_29_code 31 = .ok (.getfield 96, 3) := by decide +kernel
theorem d_RN_storeSum_34 : decode prog_1_method_29_code 34 = .ok (.iconst 1, 1) := by decide +kernel
theorem d_RN_storeSum_35 : decode prog_1_method_29_code 35 = .ok (.if_icmp .ne 20, 3) := by decide +kernel
theorem d_RN_storeSum_38 : decode prog_1_method_29_code 38 = .ok (.aload_n 2, 1) := by decide +kernel
theorem d_RN_storeSum_39 : decode prog_1_method_29_code 39 = .ok (.getfield 80, 3) := by decide +kernel
theorem d_RN_storeSum_42 : decode prog_1_method_29_code 42 = .ok (.iload 4, 2) := by decide +kernel
theorem d_RN_storeSum_44 : decode prog_1_method_29_code 44 = .ok (.if_icmp .eq 11, 3) := by decide +kernel
theorem d_RN_storeSum_47 : decode prog_1_method_29_code 47 = .ok (.aload_n 0, 1) := by decide +kernel
theorem d_RN_storeSum_48 : decode prog_1_method_29_code 48 = .ok (.iload_n 1, 1) := by decide +kernel
theorem d_RN_storeSum_49 : decode prog_1_method_29_code 49 = .ok (.iconst 0, 1) := by decide +kernel
theorem d_RN_storeSum_50 : decode prog_1_method_29_code 50 = .ok (.iconst 0, 1) := by decide +kernel
theorem d_RN_storeSum_51 : decode prog_1_method_29_code 51 = .ok (.invokevirtual 102, 3) := by decide +kernel
theorem d_RN_storeSum_54 : decode prog_1_method_29_code 54 = .ok (.ireturn, 1) := by decide +kernel
theorem d_RN_storeSum_55 : decode prog_1_method_29_code 55 = .ok (.aload_n 2, 1) := by decide +kernel
theorem d_RN_storeSum_56 : decode prog_1_method_29_code 56 = .ok (.getfield 96, 3) := by decide +kernel
theorem d_RN_storeSum_59 : decode prog_1_method_29_code 59 = .ok (.iconst 1, 1) := by decide +kernel
theorem d_RN_storeSum_60 : decode prog_1_method_29_code 60 = .ok (.if_icmp .eq 11, 3) := by decide +kernel
theorem d_RN_storeSum_63 : decode prog_1_method_29_code 63 = .ok (.aload_n 3, 1) := by decide +kernel
theorem d_RN_storeSum_64 : decode prog_1_method_29_code 64 = .ok (.getfield 96, 3) := by decide +kernel
theorem d_RN_storeSum_67 : decode prog_1_method_29_code 67 = .ok (.iconst 1, 1) := by decide +kernel
theorem d_RN_storeSum_68 : decode prog_1_method_29_code 68 = .ok (.if_icmp .ne 27, 3) := by decide +kernel
theorem d_RN_storeSum_71 : decode prog_1_method_29_code 71 = .ok (.aload_n 0, 1) := by decide +kernel
theorem d_RN_storeSum_72 : decode prog_1_method_29_code 72 = .ok (.iload_n 1, 1) := by decide +kernel
theorem d_RN_storeSum_73 : decode prog_1_method_29_code 73 = .ok (.iconst 1, 1) := by decide +kernel
theorem d_RN_storeSum_74 : decode prog_1_method_29_code 74 = .ok (.aload_n 2, 1) := by decide +kernel
theorem d_RN_storeSum_75 : decode prog_1_method_29_code 75 = .ok (.getfield 96, 3) := by decide +kernel
theorem d_RN_storeSum_78 : decode prog_1_method_29_code 78 = .ok (.iconst 1, 1) := by decide +kernel
theorem d_RN_storeSum_79 : decode prog_1_method_29_code 79 = .ok (.if_icmp .ne 10, 3) := by decide +kernel
theorem d_RN_storeSum_82 : decode prog_1_method_29_code 82 = .ok (.aload_n 2, 1) := by decide +kernel
theorem d_RN_storeSum_83 : decode prog_1_method_29_code 83 = .ok (.getfield 80, 3) := by decide +kernel
theorem d_RN_storeSum_86 : decode prog_1_method_29_code 86 = .ok (.goto 5, 3) := by decide +kernel
theorem d_RN_storeSum_89 : decode prog_1_method_29_code 89 = .ok (.iload 4, 2) := by decide +kernel
theorem d_RN_storeSum_91 : decode prog_1_method_29_code 91 = .ok (.invokevirtual 102, 3) := by decide +kernel
theorem d_RN_storeSum_94 : decode prog_1_method_29_code 94 = .ok (.ireturn, 1) := by decide +kernel
theorem d_RN_storeSum_95 : decode prog_1_method_29_code 95 = .ok (.aload_n 2, 1) := by decide +kernel
theorem d_RN_storeSum_96 : decode prog_1_method_29_code 96 = .ok (.getfield 96, 3) := by decide +kernel
theorem d_RN_storeSum_99 : decode prog_1_method_29_code 99 = .ok (.iconst 2, 1) := by decide +kernel
theorem d_RN_storeSum_100 : decode prog_1_method_29_code 100 = .ok (.if_icmp .ne 37, 3) := by decide +kernel
theorem d_RN_storeSum_103 : decode prog_1_method_29_code 103 = .ok (.aload_n 3, 1) := by decide +kernel
theorem d_RN_storeSum_104 : decode prog_1_method_29_code 104 = .ok (.getfield 96, 3) := by decide +kernel
theorem d_RN_storeSum_107 : decode prog_1_method_29_code 107 = .ok (.iconst 2, 1) := by decide +kernel
theorem d_RN_storeSum_108 : decode prog_1_method_29_code 108 = .ok (.if_icmp .ne 29, 3) := by decide +kernel
theorem d_RN_storeSum_111 : decode prog_1_method_29_code 111 = .ok (.aload_n 0, 1) := by decide +kernel
theorem d_RN_storeSum_112 : decode prog_1_method_29_code 112 = .ok (.iload_n 1, 1) := by decide +kernel
theorem d_RN_storeSum_113 : decode prog_1_method_29_code 113 = .ok (.iconst 2, 1) := by decide +kernel
theorem d_RN_storeSum_114 : decode prog_1_method_29_code 114 = .ok (.aload_n 2, 1) := by decide +kernel
theorem d_RN_storeSum_115 : decode prog_1_method_29_code 115 = .ok (.getfield 80, 3) := by decide +kernel
theorem d_RN_storeSum_118 : decode prog_1_method_29_code 118 = .ok (.iload 4, 2) := by decide +kernel
theorem d_RN_storeSum_120 : decode prog_1_method_29_code 120 = .ok (.if_icmp .ne 8, 3) := by decide +kernel
theorem d_RN_storeSum_123 : decode prog_1_method_29_code 123 = .ok (.iload 4, 2) := by decide +kernel
theorem d_RN_storeSum_125 : decode prog_1_method_29_code 125 = .ok (.goto 8, 3) := by decide +kernel
theorem d_RN_storeSum_128 : decode prog_1_method_29_code 128 = .ok (.iload 5, 2) := by decide +kernel
theorem d_RN_storeSum_130 : decode prog_1_method_29_code 130 = .ok (.invokestatic 167, 3) := by decide +kernel
theorem d_RN_storeSum_133 : decode prog_1_method_29_code 133 = .ok (.invokevirtual 102, 3) := by decide +kernel
theorem d_RN_storeSum_136 : decode prog_1_method_29_code 136 = .ok (.ireturn, 1) := by decide +kernel
theorem d_RN_storeSum_137 : decode prog_1_method_29_code 137 = .ok (.aload_n 0, 1) := by decide +kernel
theorem d_RN_storeSum_138 : decode prog_1_method_29_code 138 = .ok (.getfield 32, 3) := by decide +kernel
theorem d_RN_storeSum_141 : decode prog_1_method_29_code 141 = .ok (.invokevirtual 125, 3) := by decide +kernel
theorem d_RN_storeSum_144 : decode prog_1_method_29_code 144 = .ok (.aload_n 0, 1) := by decide +kernel
theorem d_RN_storeSum_145 : decode prog_1_method_29_code 145 = .ok (.getfield 32, 3) := by decide +kernel
theorem d_RN_storeSum_148 : decode prog_1_method_29_code 148 = .ok (.aload_n 2, 1) := by decide +kernel
theorem d_RN_storeSum_149 : decode prog_1_method_29_code 149 = .ok (.aload_n 2, 1) := by decide +kernel
theorem d_RN_storeSum_150 : decode prog_1_method_29_code 150 = .ok (.getfield 80, 3) := by decide +kernel
theorem d_RN_storeSum_153 : decode prog_1_method_29_code 153 = .ok (.invokevirtual 128, 3) := by decide +kernel
theorem d_RN_storeSum_156 : decode prog_1_method_29_code 156 = .ok (.aload_n 0, 1) := by decide +kernel
theorem d_RN_storeSum_157 : decode prog_1_method_29_code 157 = .ok (.getfield 32, 3) := by decide +kernel
theorem d_RN_storeSum_160 : decode prog_1_method_29_code 160 = .ok (.aload_n 3, 1) := by decide +kernel
theorem d_RN_storeSum_161 : decode prog_1_method_29_code 161 = .ok (.iload 4, 2) := by decide +kernel
theorem d_RN_storeSum_163 : decode prog_1_method_29_code 163 = .ok (.invokevirtual 128, 3) := by decide +kernel
theorem d_RN_storeSum_166 : decode prog_1_method_29_code 166 = .ok (.aload_n 0, 1) := by decide +kernel
theorem d_RN_storeSum_167 : decode prog_1_method_29_code 167 = .ok (.getfield 32, 3) := by decide +kernel
theorem d_RN_storeSum_170 : decode prog_1_method_29_code 170 = .ok (.invokevirtual 132, 3) := by decide +kernel
theorem d_RN_storeSum_173 : decode prog_1_method_29_code 173 = .ok (.istore 6, 2) := by decide +kernel
theorem d_RN_storeSum_175 : decode prog_1_method_29_code 175 = .ok (.iload 6, 2) := by decide +kernel
theorem d_RN_storeSum_177 : decode prog_1_method_29_code 177 = .ok (.ifCond .ne 15, 3) := by decide +kernel
theorem d_RN_storeSum_180 : decode prog_1_method_29_code 180 = .ok (.aload_n 0, 1) := by decide +kernel
theorem d_RN_storeSum_181 : decode prog_1_method_29_code 181 = .ok (.iload_n 1, 1) := by decide +kernel
theorem d_RN_storeSum_182 : decode prog_1_method_29_code 182 = .ok (.iconst 2, 1) := by decide +kernel
theorem d_RN_storeSum_183 : decode prog_1_method_29_code 183 = .ok (.iload 5, 2) := by decide +kernel
theorem d_RN_storeSum_185 : decode prog_1_method_29_code 185 = .ok (.invokestatic 167, 3) := by decide +kernel
theorem d_RN_storeSum_188 : decode prog_1_method_29_code 188 = .ok (.invokevirtual 102, 3) := by decide +kernel
theorem d_RN_storeSum_191 : decode prog_1_method_29_code 191 = .ok (.ireturn, 1) := by decide +kernel
theorem d_RN_storeSum_192 : decode prog_1_method_29_code 192 = .ok (.aload_n 0, 1) := by decide +kernel
theorem d_RN_storeSum_193 : decode prog_1_method_29_code 193 = .ok (.iload_n 1, 1) := by decide +kernel
theorem d_RN_storeSum_194 : decode prog_1_method_29_code 194 = .ok (.iload 6, 2) := by decide +kernel
theorem d_RN_storeSum_196 : decode prog_1_method_29_code 196 = .ok (.iload 5, 2) := by decide +kernel
theorem d_RN_storeSum_198 : decode prog_1_method_29_code 198 = .ok (.invokevirtual 109, 3) := by decide +kernel
theorem d_RN_storeSum_201 : decode prog_1_method_29_code 201 = .ok (.ireturn, 1) := by decide +kernel
def RN_storeSum_14 (L1 : Int32) (st : rn_S) : Int32 × rn_S := bd (RN_storePlain st L1 (0 : Int32) (0 : Int32)) (fun r18 t18 => (r18, t18))
def RN_storeSum_91 (s0 : Int32) (s1 : Int32) (s2 : Int32) (st : rn_S) : Int32 × rn_S := bd (RN_storePlain st s2 s1 s0) (fun r91 t91 => (r91, t91))
def RN_storeSum_71 (L1 : Int32) (L2 : Nat) (L4 : Int32) (st : rn_S) : Int32 × rn_S := (if (rn_kd st L2) = (1 : Int32) then RN_storeSum_91 (rn_sg st L2) (1 : Int32) L1 st else RN_storeSum_91 L4 (1 : Int32) L1 st)
def RN_storeSum_137 (L1 : Int32) (L2 : Nat) (L3 : Nat) (L4 : Int32) (L5 : Int32) (st : rn_S) : Int32 × rn_S := nm (RE_clear st) (fun t141 => nm (RE_gather t141 L2 (rn_sg t141 L2)) (fun t153 => nm (RE_gather t153 L3 L4) (fun t163 => bd (RE_splitSign t163) (fun r170 t170 => (if r170 = 0 then nm (RN_signOfNothing L5) (fun r185 => bd (RN_storePlain t170 L1 (2 : Int32) r185) (fun r188 t188 => (r188, t188))) else bd (RN_storeExact t170 L1 r170 L5) (fun r198 t198 => (r198, t198)))))))
def RN_storeSum_133 (s0 : Int32) (s1 : Int32) (s2 : Int32) (st : rn_S) : Int32 × rn_S := bd (RN_storePlain st s2 s1 s0) (fun r133 t133 => (r133, t133))
def RN_storeSum_55 (L1 : Int32) (L2 : Nat) (L3 : Nat) (L4 : Int32) (L5 : Int32) (st : rn_S) : Int32 × rn_S := (if (rn_kd st L2) = (1 : Int32) then RN_storeSum_71 L1 L2 L4 st else (if (rn_kd st L3) = (1 : Int32) then RN_storeSum_71 L1 L2 L4 st else (if (rn_kd st L2) = (2 : Int32) then (if (rn_kd st L3) = (2 : Int32) then (if (rn_sg st L2) = L4 then RN_storeSum_133 L4 (2 : Int32) L1 st else nm (RN_signOfNothing L5) (fun r130 => RN_storeSum_133 r130 (2 : Int32) L1 st)) else RN_storeSum_137 L1 L2 L3 L4 L5 st) else RN_storeSum_137 L1 L2 L3 L4 L5 st)))
def RN_storeSum (st : rn_S) (p0 : Int32) (v1 : Nat) (v2 : Nat) (p3 : Int32) (p4 : Int32) : Int32 × rn_S := (if (rn_kd st v1) = 0 then RN_storeSum_14 p0 st else (if (rn_kd st v2) = 0 then RN_storeSum_14 p0 st else (if (rn_kd st v1) = (1 : Int32) then (if (rn_kd st v2) = (1 : Int32) then (if (rn_sg st v1) = p3 then RN_storeSum_55 p0 v1 v2 p3 p4 st else bd (RN_storePlain st p0 (0 : Int32) (0 : Int32)) (fun r51 t51 => (r51, t51))) else RN_storeSum_55 p0 v1 v2 p3 p4 st) else RN_storeSum_55 p0 v1 v2 p3 p4 st)))
set_option maxHeartbeats 4000000 in
set_option maxRecDepth 100000 in
theorem c_RN_storeSum (l : Launch) {D : va_G} (a : Nat → Nat) (ci co : ClassId) (hi : rn_inj a) (st : rn_S) (p0 : Int32) (v1 : Nat) (v2 : Nat) (p3 : Int32) (p4 : Int32) (hv1 : v1 < 10) (hv2 : v2 < 10) (hd : vp_in p0 8) (r0 : Int32) (t0 : rn_S) (hF : RN_storeSum st p0 v1 v2 p3 p4 = (r0, t0)) : ct_i l ⟨"RoundedNumbers", "storeSum", "(ILRoundedNumbers$Value;LRoundedNumbers$Value;II)I"⟩ (.code ⟨"RoundedNumbers", "storeSum", "(ILRoundedNumbers$Value;LRoundedNumbers$Value;II)I"⟩ prog_1_method_29_code 7 (some .int) :: ct_T) { frames := 5, cells := 0, slots := 0, locals := 126 } D vwCl (rn_T ci co) (rn_g a ci co) (rn_X a) [.ref (a 0), .int p0, .ref (a (8 + v1)), .ref (a (8 + v2)), .int p3, .int p4] st r0 t0 := by
  refine ct_i.mk (cc := prog_1_method_29_code) (maxL := 7) (by decide) rfl (Nat.le_of_ble_eq_true rfl) ?_
  intro p e s m below meth c hx hb hr hml hown hts hlk hK hN hP hS ls hl
  have hown : s.vm.findClass "RoundedNumbers" = some m.cls := hown
  have hl : lv_has ls 7 [(0, .ref (a 0)), (1, .int p0), (2, .ref (a (8 + v1))), (3, .ref (a (8 + v2))), (4, .int p3), (5, .int p4)] := hl
  have htb := fun w h => hts w (List.mem_cons_of_mem _ h)
  unfold RN_storeSum at hF
  refine lv_aload_n hx hb d_RN_storeSum_0 rfl (lv_at hl 2 rfl) ?_
  refine gf_RN_96 hx hb htb hown hK hP (i := v1) hv1 d_RN_storeSum_1 ?_
  refine ct_cut0 (fun  ls H locs => lv_has ls 7 [(0, .ref (a 0)), (1, .int p0)] ∧ RN_storeSum_14 p0 st = (r0, t0) ∧ va_P D vwCl (rn_g a ci co st) H ∧ va_S (ct_F (rn_X a) s.heap.size) s.heap H locs) 14 [] ?_ ?_
  · intro ls H locs hq
    obtain ⟨hl, hF, hP, hS⟩ := hq
    unfold RN_storeSum_14 at hF
    refine lv_aload_n hx hb d_RN_storeSum_14 rfl (lv_at hl 0 rfl) ?_
    refine lv_iload_n hx hb d_RN_storeSum_15 rfl (lv_at hl 1 rfl) ?_
    refine lv_iconst (v := 0) hx hb d_RN_storeSum_16 (by decide) ?_
    refine lv_iconst (v := 0) hx hb d_RN_storeSum_17 (by decide) ?_
    obtain ⟨r18, t18, e18⟩ := bd_ex (RN_storePlain st p0 (0 : Int32) (0 : Int32))
    replace hF := (bd_eq e18).symm.trans hF
    refine ct_calli (va_runV (As := [.int p0, .int (0 : Int32), .int (0 : Int32)]) (rest := []) ⟨hx, hb, hml, hown, hts⟩ (c_RN_storePlain l (D := D) a ci co hi st p0 (0 : Int32) (0 : Int32) hd _ _ e18 _) (kc_RN_102 hts ⟨by decide, by decide⟩) ⟨ct_blind, rn_rc0 hK hP, ct_ok hP hK hN⟩ rfl rfl hl.1 rfl (lv_room (Nat.le_of_ble_eq_true rfl)) d_RN_storeSum_18 ⟨Nat.zero_le _, Nat.zero_le _⟩) hS (fun H locs hP hS => ?_)
    obtain ⟨rfl, rfl⟩ := Prod.mk.inj hF
    exact ct_iret hx hb hr hlk hP hS d_RN_storeSum_21
  · intro kj14
    refine lv_if_eq hx hb d_RN_storeSum_4 (tgt := 14) (by decide) (fun c4 => ?_) (fun c4 => ?_)
    · replace hF := (if_pos c4).symm.trans hF
      exact kj14 _ _ _ ⟨lv_sub hl [0, 1] rfl, hF, hP, hS⟩
    · replace hF := (if_neg c4).symm.trans hF
      refine lv_aload_n hx hb d_RN_storeSum_7 rfl (lv_at hl 3 rfl) ?_
      refine gf_RN_96 hx hb htb hown hK hP (i := v2) hv2 d_RN_storeSum_8 ?_
      refine lv_if_ne hx hb d_RN_storeSum_11 (tgt := 22) (by decide) (fun c11 => ?_) (fun c11 => ?_)
      · replace hF := (if_neg c11).symm.trans hF
        refine lv_aload_n hx hb d_RN_storeSum_22 rfl (lv_at hl 2 rfl) ?_
        refine gf_RN_96 hx hb htb hown hK hP (i := v1) hv1 d_RN_storeSum_23 ?_
        refine lv_iconst (v := 1) hx hb d_RN_storeSum_26 (by decide) ?_
        refine ct_cut0 (fun  ls H locs => lv_has ls 7 [(0, .ref (a 0)), (1, .int p0), (2, .ref (a (8 + v1))), (3, .ref (a (8 + v2))), (4, .int p3), (5, .int p4)] ∧ RN_storeSum_55 p0 v1 v2 p3 p4 st = (r0, t0) ∧ va_P D vwCl (rn_g a ci co st) H ∧ va_S (ct_F (rn_X a) s.heap.size) s.heap H locs) 55 [] ?_ ?_
        · intro ls H locs hq
          obtain ⟨hl, hF, hP, hS⟩ := hq
          unfold RN_storeSum_55 at hF
          refine lv_aload_n hx hb d_RN_storeSum_55 rfl (lv_at hl 2 rfl) ?_
          refine gf_RN_96 hx hb htb hown hK hP (i := v1) hv1 d_RN_storeSum_56 ?_
          refine lv_iconst (v := 1) hx hb d_RN_storeSum_59 (by decide) ?_
          refine ct_cut0 (fun  ls H locs => lv_has ls 7 [(0, .ref (a 0)), (1, .int p0), (2, .ref (a (8 + v1))), (4, .int p3)] ∧ RN_storeSum_71 p0 v1 p3 st = (r0, t0) ∧ va_P D vwCl (rn_g a ci co st) H ∧ va_S (ct_F (rn_X a) s.heap.size) s.heap H locs) 71 [] ?_ ?_
          · intro ls H locs hq
            obtain ⟨hl, hF, hP, hS⟩ := hq
            unfold RN_storeSum_71 at hF
            refine lv_aload_n hx hb d_RN_storeSum_71 rfl (lv_at hl 0 rfl) ?_
            refine lv_iload_n hx hb d_RN_storeSum_72 rfl (lv_at hl 1 rfl) ?_
            refine lv_iconst (v := 1) hx hb d_RN_storeSum_73 (by decide) ?_
            refine lv_aload_n hx hb d_RN_storeSum_74 rfl (lv_at hl 2 rfl) ?_
            refine gf_RN_96 hx hb htb hown hK hP (i := v1) hv1 d_RN_storeSum_75 ?_
            refine lv_iconst (v := 1) hx hb d_RN_storeSum_78 (by decide) ?_
            refine ct_cut1 (fun (j91s0 : Int32) ls H locs => lv_has ls 7 [] ∧ RN_storeSum_91 j91s0 (1 : Int32) p0 st = (r0, t0) ∧ va_P D vwCl (rn_g a ci co st) H ∧ va_S (ct_F (rn_X a) s.heap.size) s.heap H locs) 91 (fun j91s0 => [.int j91s0, .int (1 : Int32), .int p0, .ref (a 0)]) ?_ ?_
            · intro j91s0 ls H locs hq
              obtain ⟨hl, hF, hP, hS⟩ := hq
              unfold RN_storeSum_91 at hF
              obtain ⟨r91, t91, e91⟩ := bd_ex (RN_storePlain st p0 (1 : Int32) j91s0)
              replace hF := (bd_eq e91).symm.trans hF
              refine ct_calli (va_runV (As := [.int p0, .int (1 : Int32), .int j91s0]) (rest := []) ⟨hx, hb, hml, hown, hts⟩ (c_RN_storePlain l (D := D) a ci co hi st p0 (1 : Int32) j91s0 hd _ _ e91 _) (kc_RN_102 hts ⟨by decide, by decide⟩) ⟨ct_blind, rn_rc0 hK hP, ct_ok hP hK hN⟩ rfl rfl hl.1 rfl (lv_room (Nat.le_of_ble_eq_true rfl)) d_RN_storeSum_91 ⟨Nat.zero_le _, Nat.zero_le _⟩) hS (fun H locs hP hS => ?_)
              obtain ⟨rfl, rfl⟩ := Prod.mk.inj hF
              exact ct_iret hx hb hr hlk hP hS d_RN_storeSum_94
            · intro kj91
              refine lv_icmp_ne hx hb d_RN_storeSum_79 (tgt := 89) (by decide) (fun c79 => ?_) (fun c79 => ?_)
              · replace hF := (if_neg c79).symm.trans hF
                refine lv_iload hx hb d_RN_storeSum_89 (lv_at hl 3 rfl) ?_
                exact kj91 p3 _ _ _ ⟨lv_sub hl [] rfl, hF, hP, hS⟩
              · replace hF := (if_pos c79).symm.trans hF
                refine lv_aload_n hx hb d_RN_storeSum_82 rfl (lv_at hl 2 rfl) ?_
                refine gf_RN_80 hx hb htb hown hK hP (i := v1) hv1 d_RN_storeSum_83 ?_
                refine lv_goto hx hb d_RN_storeSum_86 (tgt := 91) (by decide) ?_
                exact kj91 (rn_sg st v1) _ _ _ ⟨lv_sub hl [] rfl, hF, hP, hS⟩
          · intro kj71
            refine lv_icmp_eq hx hb d_RN_storeSum_60 (tgt := 71) (by decide) (fun c60 => ?_) (fun c60 => ?_)
            · replace hF := (if_pos c60).symm.trans hF
              exact kj71 _ _ _ ⟨lv_sub hl [0, 1, 2, 4] rfl, hF, hP, hS⟩
            · replace hF := (if_neg c60).symm.trans hF
              refine lv_aload_n hx hb d_RN_storeSum_63 rfl (lv_at hl 3 rfl) ?_
              refine gf_RN_96 hx hb htb hown hK hP (i := v2) hv2 d_RN_storeSum_64 ?_
              refine lv_iconst (v := 1) hx hb d_RN_storeSum_67 (by decide) ?_
              refine lv_icmp_ne hx hb d_RN_storeSum_68 (tgt := 95) (by decide) (fun c68 => ?_) (fun c68 => ?_)
              · replace hF := (if_neg c68).symm.trans hF
                refine lv_aload_n hx hb d_RN_storeSum_95 rfl (lv_at hl 2 rfl) ?_
                refine gf_RN_96 hx hb htb hown hK hP (i := v1) hv1 d_RN_storeSum_96 ?_
                refine lv_iconst (v := 2) hx hb d_RN_storeSum_99 (by decide) ?_
                refine ct_cut0 (fun  ls H locs => lv_has ls 7 [(0, .ref (a 0)), (1, .int p0), (2, .ref (a (8 + v1))), (3, .ref (a (8 + v2))), (4, .int p3), (5, .int p4)] ∧ RN_storeSum_137 p0 v1 v2 p3 p4 st = (r0, t0) ∧ va_P D vwCl (rn_g a ci co st) H ∧ va_S (ct_F (rn_X a) s.heap.size) s.heap H locs) 137 [] ?_ ?_
                · intro ls H locs hq
                  obtain ⟨hl, hF, hP, hS⟩ := hq
                  unfold RN_storeSum_137 at hF
                  refine lv_aload_n hx hb d_RN_storeSum_137 rfl (lv_at hl 0 rfl) ?_
                  refine gf_RN_32 hx hb htb hown hK hP d_RN_storeSum_138 ?_
                  obtain ⟨t141, e141⟩ := nm_ex (RE_clear st)
                  replace hF := (nm_eq e141).symm.trans hF
                  refine ct_callv (va_runV (As := []) (rest := []) ⟨hx, hb, hml, hown, hts⟩ (c_RE_clear l (D := D) a ci co hi st _ e141 _) (kc_RN_125 hts ⟨by decide, by decide⟩) ⟨ct_blind, rn_rc2 hK hP, ct_ok hP hK hN⟩ rfl rfl hl.1 rfl (lv_room (Nat.le_of_ble_eq_true rfl)) d_RN_storeSum_141 ⟨Nat.zero_le _, Nat.zero_le _⟩) hS (fun H locs hP hS => ?_)
                  refine lv_aload_n hx hb d_RN_storeSum_144 rfl (lv_at hl 0 rfl) ?_
                  refine gf_RN_32 hx hb htb hown hK hP d_RN_storeSum_145 ?_
                  refine lv_aload_n hx hb d_RN_storeSum_148 rfl (lv_at hl 2 rfl) ?_
                  refine lv_aload_n hx hb d_RN_storeSum_149 rfl (lv_at hl 2 rfl) ?_
                  refine gf_RN_80 hx hb htb hown hK hP (i := v1) hv1 d_RN_storeSum_150 ?_
                  obtain ⟨t153, e153⟩ := nm_ex (RE_gather t141 v1 (rn_sg t141 v1))
                  replace hF := (nm_eq e153).symm.trans hF
                  refine ct_callv (va_runV (As := [.ref (a (8 + v1)), .int (rn_sg t141 v1)]) (rest := []) ⟨hx, hb, hml, hown, hts⟩ (c_RE_gather l (D := D) a ci co hi t141 v1 (rn_sg t141 v1) hv1 _ e153 _) (kc_RN_128 hts ⟨by decide, by decide⟩) ⟨ct_blind, rn_rc2 hK hP, ct_ok hP hK hN⟩ rfl rfl hl.1 rfl (lv_room (Nat.le_of_ble_eq_true rfl)) d_RN_storeSum_153 ⟨Nat.zero_le _, Nat.zero_le _⟩) hS (fun H locs hP hS => ?_)
                  refine lv_aload_n hx hb d_RN_storeSum_156 rfl (lv_at hl 0 rfl) ?_
                  refine gf_RN_32 hx hb htb hown hK hP d_RN_storeSum_157 ?_
                  refine lv_aload_n hx hb d_RN_storeSum_160 rfl (lv_at hl 3 rfl) ?_
                  refine lv_iload hx hb d_RN_storeSum_161 (lv_at hl 4 rfl) ?_
                  obtain ⟨t163, e163⟩ := nm_ex (RE_gather t153 v2 p3)
                  replace hF := (nm_eq e163).symm.trans hF
                  refine ct_callv (va_runV (As := [.ref (a (8 + v2)), .int p3]) (rest := []) ⟨hx, hb, hml, hown, hts⟩ (c_RE_gather l (D := D) a ci co hi t153 v2 p3 hv2 _ e163 _) (kc_RN_128 hts ⟨by decide, by decide⟩) ⟨ct_blind, rn_rc2 hK hP, ct_ok hP hK hN⟩ rfl rfl hl.1 rfl (lv_room (Nat.le_of_ble_eq_true rfl)) d_RN_storeSum_163 ⟨Nat.zero_le _, Nat.zero_le _⟩) hS (fun H locs hP hS => ?_)
                  refine lv_aload_n hx hb d_RN_storeSum_166 rfl (lv_at hl 0 rfl) ?_
                  refine gf_RN_32 hx hb htb hown hK hP d_RN_storeSum_167 ?_
                  obtain ⟨r170, t170, e170⟩ := bd_ex (RE_splitSign t163)
                  replace hF := (bd_eq e170).symm.trans hF
                  refine ct_calli (va_runV (As := []) (rest := []) ⟨hx, hb, hml, hown, hts⟩ (c_RE_splitSign l (D := D) a ci co hi t163 _ _ e170 _) (kc_RN_132 hts ⟨by decide, by decide⟩) ⟨ct_blind, rn_rc2 hK hP, ct_ok hP hK hN⟩ rfl rfl hl.1 rfl (lv_room (Nat.le_of_ble_eq_true rfl)) d_RN_storeSum_170 ⟨Nat.zero_le _, Nat.zero_le _⟩) hS (fun H locs hP hS => ?_)
                  refine lv_istore (lv' := [(6, .int r170), (0, .ref (a 0)), (1, .int p0), (2, .ref (a (8 + v1))), (3, .ref (a (8 + v2))), (4, .int p3), (5, .int p4)]) hx hb d_RN_storeSum_173 hl (by decide) rfl (fun ls hl => ?_)
                  refine lv_iload hx hb d_RN_storeSum_175 (lv_at hl 0 rfl) ?_
                  refine lv_if_ne hx hb d_RN_storeSum_177 (tgt := 192) (by decide) (fun c177 => ?_) (fun c177 => ?_)
                  · replace hF := (if_neg c177).symm.trans hF
                    refine lv_aload_n hx hb d_RN_storeSum_192 rfl (lv_at hl 1 rfl) ?_
                    refine lv_iload_n hx hb d_RN_storeSum_193 rfl (lv_at hl 2 rfl) ?_
                    refine lv_iload hx hb d_RN_storeSum_194 (lv_at hl 0 rfl) ?_
                    refine lv_iload hx hb d_RN_storeSum_196 (lv_at hl 6 rfl) ?_
                    obtain ⟨r198, t198, e198⟩ := bd_ex (RN_storeExact t170 p0 r170 p4)
                    replace hF := (bd_eq e198).symm.trans hF
                    refine ct_calli (va_runV (As := [.int p0, .int r170, .int p4]) (rest := []) ⟨hx, hb, hml, hown, hts⟩ (c_RN_storeExact l (D := D) a ci co hi t170 p0 r170 p4 hd _ _ e198 _) (kc_RN_109 hts ⟨by decide, by decide⟩) ⟨ct_blind, rn_rc0 hK hP, ct_ok hP hK hN⟩ rfl rfl hl.1 rfl (lv_room (Nat.le_of_ble_eq_true rfl)) d_RN_storeSum_198 ⟨Nat.zero_le _, Nat.zero_le _⟩) hS (fun H locs hP hS => ?_)
                    obtain ⟨rfl, rfl⟩ := Prod.mk.inj hF
                    exact ct_iret hx hb hr hlk hP hS d_RN_storeSum_201
                  · replace hF := (if_pos c177).symm.trans hF
                    refine lv_aload_n hx hb d_RN_storeSum_180 rfl (lv_at hl 1 rfl) ?_
                    refine lv_iload_n hx hb d_RN_storeSum_181 rfl (lv_at hl 2 rfl) ?_
                    refine lv_iconst (v := 2) hx hb d_RN_storeSum_182 (by decide) ?_
                    refine lv_iload hx hb d_RN_storeSum_183 (lv_at hl 6 rfl) ?_
                    obtain ⟨r185, e185⟩ := nm_ex (RN_signOfNothing p4)
                    replace hF := (nm_eq e185).symm.trans hF
                    refine ct_calli (va_runS (As := [.int p4]) (rest := [.int (2 : Int32), .int p0, .ref (a 0)]) ⟨hx, hb, hml, hown, hts⟩ (c_RN_signOfNothing l (D := D) a ci co hi t170 p4 _ e185 _) (kc_RN_167 hts ⟨by decide, by decide⟩) ⟨ct_blind, ct_ok hP hK hN⟩ rfl rfl hl.1 rfl (lv_room (Nat.le_of_ble_eq_true rfl)) d_RN_storeSum_185 ⟨Nat.zero_le _, Nat.zero_le _⟩) hS (fun H locs hP hS => ?_)
                    obtain ⟨r188, t188, e188⟩ := bd_ex (RN_storePlain t170 p0 (2 : Int32) r185)
                    replace hF := (bd_eq e188).symm.trans hF
                    refine ct_calli (va_runV (As := [.int p0, .int (2 : Int32), .int r185]) (rest := []) ⟨hx, hb, hml, hown, hts⟩ (c_RN_storePlain l (D := D) a ci co hi t170 p0 (2 : Int32) r185 hd _ _ e188 _) (kc_RN_102 hts ⟨by decide, by decide⟩) ⟨ct_blind, rn_rc0 hK hP, ct_ok hP hK hN⟩ rfl rfl hl.1 rfl (lv_room (Nat.le_of_ble_eq_true rfl)) d_RN_storeSum_188 ⟨Nat.zero_le _, Nat.zero_le _⟩) hS (fun H locs hP hS => ?_)
                    obtain ⟨rfl, rfl⟩ := Prod.mk.inj hF
                    exact ct_iret hx hb hr hlk hP hS d_RN_storeSum_191
                · intro kj137
                  refine lv_icmp_ne hx hb d_RN_storeSum_100 (tgt := 137) (by decide) (fun c100 => ?_) (fun c100 => ?_)
                  · replace hF := (if_neg c100).symm.trans hF
                    exact kj137 _ _ _ ⟨lv_sub hl [0, 1, 2, 3, 4, 5] rfl, hF, hP, hS⟩
                  · replace hF := (if_pos c100).symm.trans hF
                    refine lv_aload_n hx hb d_RN_storeSum_103 rfl (lv_at hl 3 rfl) ?_
                    refine gf_RN_96 hx hb htb hown hK hP (i := v2) hv2 d_RN_storeSum_104 ?_
                    refine lv_iconst (v := 2) hx hb d_RN_storeSum_107 (by decide) ?_
                    refine lv_icmp_ne hx hb d_RN_storeSum_108 (tgt := 137) (by decide) (fun c108 => ?_) (fun c108 => ?_)
                    · replace hF := (if_neg c108).symm.trans hF
                      exact kj137 _ _ _ ⟨lv_sub hl [0, 1, 2, 3, 4, 5] rfl, hF, hP, hS⟩
                    · replace hF := (if_pos c108).symm.trans hF
                      refine lv_aload_n hx hb d_RN_storeSum_111 rfl (lv_at hl 0 rfl) ?_
                      refine lv_iload_n hx hb d_RN_storeSum_112 rfl (lv_at hl 1 rfl) ?_
                      refine lv_iconst (v := 2) hx hb d_RN_storeSum_113 (by decide) ?_
                      refine lv_aload_n hx hb d_RN_storeSum_114 rfl (lv_at hl 2 rfl) ?_
                      refine gf_RN_80 hx hb htb hown hK hP (i := v1) hv1 d_RN_storeSum_115 ?_
                      refine lv_iload hx hb d_RN_storeSum_118 (lv_at hl 4 rfl) ?_
                      refine ct_cut1 (fun (j133s0 : Int32) ls H locs => lv_has ls 7 [] ∧ RN_storeSum_133 j133s0 (2 : Int32) p0 st = (r0, t0) ∧ va_P D vwCl (rn_g a ci co st) H ∧ va_S (ct_F (rn_X a) s.heap.size) s.heap H locs) 133 (fun j133s0 => [.int j133s0, .int (2 : Int32), .int p0, .ref (a 0)]) ?_ ?_
                      · intro j133s0 ls H locs hq
                        obtain ⟨hl, hF, hP, hS⟩ := hq
                        unfold RN_storeSum_133 at hF
                        obtain ⟨r133, t133, e133⟩ := bd_ex (RN_storePlain st p0 (2 : Int32) j133s0)
                        replace hF := (bd_eq e133).symm.trans hF
                        refine ct_calli (va_runV (As := [.int p0, .int (2 : Int32), .int j133s0]) (rest := []) ⟨hx, hb, hml, hown, hts⟩ (c_RN_storePlain l (D := D) a ci co hi st p0 (2 : Int32) j133s0 hd _ _ e133 _) (kc_RN_102 hts ⟨by decide, by decide⟩) ⟨ct_blind, rn_rc0 hK hP, ct_ok hP hK hN⟩ rfl rfl hl.1 rfl (lv_room (Nat.le_of_ble_eq_true rfl)) d_RN_storeSum_133 ⟨Nat.zero_le _, Nat.zero_le _⟩) hS (fun H locs hP hS => ?_)
                        obtain ⟨rfl, rfl⟩ := Prod.mk.inj hF
                        exact ct_iret hx hb hr hlk hP hS d_RN_storeSum_136
                      · intro kj133
                        refine lv_icmp_ne hx hb d_RN_storeSum_120 (tgt := 128) (by decide) (fun c120 => ?_) (fun c120 => ?_)
                        · replace hF := (if_neg c120).symm.trans hF
                          refine lv_iload hx hb d_RN_storeSum_128 (lv_at hl 5 rfl) ?_
                          obtain ⟨r130, e130⟩ := nm_ex (RN_signOfNothing p4)
                          replace hF := (nm_eq e130).symm.trans hF
                          refine ct_calli (va_runS (As := [.int p4]) (rest := [.int (2 : Int32), .int p0, .ref (a 0)]) ⟨hx, hb, hml, hown, hts⟩ (c_RN_signOfNothing l (D := D) a ci co hi st p4 _ e130 _) (kc_RN_167 hts ⟨by decide, by decide⟩) ⟨ct_blind, ct_ok hP hK hN⟩ rfl rfl hl.1 rfl (lv_room (Nat.le_of_ble_eq_true rfl)) d_RN_storeSum_130 ⟨Nat.zero_le _, Nat.zero_le _⟩) hS (fun H locs hP hS => ?_)
                          exact kj133 r130 _ _ _ ⟨lv_sub hl [] rfl, hF, hP, hS⟩
                        · replace hF := (if_pos c120).symm.trans hF
                          refine lv_iload hx hb d_RN_storeSum_123 (lv_at hl 4 rfl) ?_
                          refine lv_goto hx hb d_RN_storeSum_125 (tgt := 133) (by decide) ?_
                          exact kj133 p3 _ _ _ ⟨lv_sub hl [] rfl, hF, hP, hS⟩
              · replace hF := (if_pos c68).symm.trans hF
                exact kj71 _ _ _ ⟨lv_sub hl [0, 1, 2, 4] rfl, hF, hP, hS⟩
        · intro kj55
          refine lv_icmp_ne hx hb d_RN_storeSum_27 (tgt := 55) (by decide) (fun c27 => ?_) (fun c27 => ?_)
          · replace hF := (if_neg c27).symm.trans hF
            exact kj55 _ _ _ ⟨lv_sub hl [0, 1, 2, 3, 4, 5] rfl, hF, hP, hS⟩
          · replace hF := (if_pos c27).symm.trans hF
            refine lv_aload_n hx hb d_RN_storeSum_30 rfl (lv_at hl 3 rfl) ?_
            refine gf_RN_96 hx hb htb hown hK hP (i := v2) hv2 d_RN_storeSum_31 ?_
            refine lv_iconst (v := 1) hx hb d_RN_storeSum_34 (by decide) ?_
            refine lv_icmp_ne hx hb d_RN_storeSum_35 (tgt := 55) (by decide) (fun c35 => ?_) (fun c35 => ?_)
            · replace hF := (if_neg c35).symm.trans hF
              exact kj55 _ _ _ ⟨lv_sub hl [0, 1, 2, 3, 4, 5] rfl, hF, hP, hS⟩
            · replace hF := (if_pos c35).symm.trans hF
              refine lv_aload_n hx hb d_RN_storeSum_38 rfl (lv_at hl 2 rfl) ?_
              refine gf_RN_80 hx hb htb hown hK hP (i := v1) hv1 d_RN_storeSum_39 ?_
              refine lv_iload hx hb d_RN_storeSum_42 (lv_at hl 4 rfl) ?_
              refine lv_icmp_eq hx hb d_RN_storeSum_44 (tgt := 55) (by decide) (fun c44 => ?_) (fun c44 => ?_)
              · replace hF := (if_pos c44).symm.trans hF
                exact kj55 _ _ _ ⟨lv_sub hl [0, 1, 2, 3, 4, 5] rfl, hF, hP, hS⟩
              · replace hF := (if_neg c44).symm.trans hF
                refine lv_aload_n hx hb d_RN_storeSum_47 rfl (lv_at hl 0 rfl) ?_
                refine lv_iload_n hx hb d_RN_storeSum_48 rfl (lv_at hl 1 rfl) ?_
                refine lv_iconst (v := 0) hx hb d_RN_storeSum_49 (by decide) ?_
                refine lv_iconst (v := 0) hx hb d_RN_storeSum_50 (by decide) ?_
                obtain ⟨r51, t51, e51⟩ := bd_ex (RN_storePlain st p0 (0 : Int32) (0 : Int32))
                replace hF := (bd_eq e51).symm.trans hF
                refine ct_calli (va_runV (As := [.int p0, .int (0 : Int32), .int (0 : Int32)]) (rest := []) ⟨hx, hb, hml, hown, hts⟩ (c_RN_storePlain l (D := D) a ci co hi st p0 (0 : Int32) (0 : Int32) hd _ _ e51 _) (kc_RN_102 hts ⟨by decide, by decide⟩) ⟨ct_blind, rn_rc0 hK hP, ct_ok hP hK hN⟩ rfl rfl hl.1 rfl (lv_room (Nat.le_of_ble_eq_true rfl)) d_RN_storeSum_51 ⟨Nat.zero_le _, Nat.zero_le _⟩) hS (fun H locs hP hS => ?_)
                obtain ⟨rfl, rfl⟩ := Prod.mk.inj hF
                exact ct_iret hx hb hr hlk hP hS d_RN_storeSum_54
      · replace hF := (if_pos c11).symm.trans hF
        exact kj14 _ _ _ ⟨lv_sub hl [0, 1] rfl, hF, hP, hS⟩
theorem d_RN_quotientKind_0 : decode prog_1_method_24_code 0 = .ok (.iload_n 0, 1) := by decide +kernel
theorem d_RN_quotientKind_1 : decode prog_1_method_24_code 1 = .ok (.ifCond .eq 7, 3) := by decide +kernel
theorem d_RN_quotientKind_4 : decode prog_1_method_24_code 4 = .ok (.iload_n 1, 1) := by decide +kernel
theorem d_RN_quotientKind_5 : decode prog_1_method_24_code 5 = .ok (.ifCond .ne 5, 3) := by decide +kernel
theorem d_RN_quotientKind_8 : decode prog_1_method_24_code 8 = .ok (.iconst 0, 1) := by decide +kernel
theorem d_RN_quotientKind_9 : decode prog_1_method_24_code 9 = .ok (.ireturn, 1) := by decide +kernel
theorem d_RN_quotientKind_10 : decode prog_1_method_24_code 10 = .ok (.iload_n 0, 1) := by decide +kernel
theorem d_RN_quotientKind_11 : decode prog_1_method_24_code 11 = .ok (.iload_n 1, 1) := by decide +kernel
theorem d_RN_quotientKind_12 : decode prog_1_method_24_code 12 = .ok (.if_icmp .ne 10, 3) := by decide +kernel
theorem d_RN_quotientKind_15 : decode prog_1_method_24_code 15 = .ok (.iload_n 0, 1) := by decide +kernel
theorem d_RN_quotientKind_16 : decode prog_1_method_24_code 16 = .ok (.iconst 3, 1) := by decide +kernel
theorem d_RN_quotientKind_17 : decode prog_1_method_24_code 17 = .ok (.if_icmp .eq 5, 3) := by decide +kernel
theorem d_RN_quotientKind_20 : decode prog_1_method_24_code 20 = .ok (.iconst 0, 1) := by decide +kernel
theorem d_RN_quotientKind_21 : decode prog_1_method_24_code 21 = .ok (.ireturn, 1) := by decide +kernel
theorem d_RN_quotientKind_22 : decode prog_1_method_24_code 22 = .ok (.iload_n 0, 1) := by decide +kernel
theorem d_RN_quotientKind_23 : decode prog_1_method_24_code 23 = .ok (.iconst 1, 1) := by decide +kernel
theorem d_RN_quotientKind_24 : decode prog_1_method_24_code 24 = .ok (.if_icmp .eq 8, 3) := by decide +kernel
theorem d_RN_quotientKind_27 : decode prog_1_method_24_code 27 = .ok (.iload_n 1, 1) := by decide +kernel
theorem d_RN_quotientKind_28 : decode prog_1_method_24_code 28 = .ok (.iconst 2, 1) := by decide +kernel
theorem d_RN_quotientKind_29 : decode prog_1_method_24_code 29 = .ok (.if_icmp .ne 5, 3) := by decide +kernel
theorem d_RN_quotientKind_32 : decode prog_1_method_24_code 32 = .ok (.iconst 1, 1) := by decide +kernel
theorem d_RN_quotientKind_33 : decode prog_1_method_24_code 33 = .ok (.ireturn, 1) := by decide +kernel
theorem d_RN_quotientKind_34 : decode prog_1_method_24_code 34 = .ok (.iload_n 0, 1) := by decide +kernel
theorem d_RN_quotientKind_35 : decode prog_1_method_24_code 35 = .ok (.iconst 2, 1) := by decide +kernel
theorem d_RN_quotientKind_36 : decode prog_1_method_24_code 36 = .ok (.if_icmp .eq 8, 3) := by decide +kernel
theorem d_RN_quotientKind_39 : decode prog_1_method_24_code 39 = .ok (.iload_n 1, 1) := by decide +kernel
theorem d_RN_quotientKind_40 : decode prog_1_method_24_code 40 = .ok (.iconst 1, 1) := by decide +kernel
theorem d_RN_quotientKind_41 : decode prog_1_method_24_code 41 = .ok (.if_icmp .ne 7, 3) := by decide +kernel
theorem d_RN_quotientKind_44 : decode prog_1_method_24_code 44 = .ok (.iconst 2, 1) := by decide +kernel
theorem d_RN_quotientKind_45 : decode prog_1_method_24_code 45 = .ok (.goto 4, 3) := by decide +kernel
theorem d_RN_quotientKind_48 : decode prog_1_method_24_code 48 = .ok (.iconst 3, 1) := by decide +kernel
theorem d_RN_quotientKind_49 : decode prog_1_method_24_code 49 = .ok (.ireturn, 1) := by decide +kernel
def RN_quotientKind_44 : Int32 := (2 : Int32)
def RN_quotientKind_22 (L0 : Int32) (L1 : Int32) : Int32 := (if L0 = (1 : Int32) then (1 : Int32) else (if L1 = (2 : Int32) then (1 : Int32) else (if L0 = (2 : Int32) then RN_quotientKind_44 else (if L1 = (1 : Int32) then RN_quotientKind_44 else (3 : Int32)))))
def RN_quotientKind (p0 : Int32) (p1 : Int32) : Int32 := (if p0 = 0 then (0 : Int32) else (if p1 = 0 then (0 : Int32) else (if p0 = p1 then (if p0 = (3 : Int32) then RN_quotientKind_22 p0 p1 else (0 : Int32)) else RN_quotientKind_22 p0 p1)))
set_option maxHeartbeats 4000000 in
set_option maxRecDepth 100000 in
theorem c_RN_quotientKind (l : Launch) {D : va_G} (a : Nat → Nat) (ci co : ClassId) (hi : rn_inj a) (st : rn_S) (p0 : Int32) (p1 : Int32) (r0 : Int32) (hF : RN_quotientKind p0 p1 = r0) : ct_i l ⟨"RoundedNumbers", "quotientKind", "(II)I"⟩ (.code ⟨"RoundedNumbers", "quotientKind", "(II)I"⟩ prog_1_method_24_code 2 (some .int) :: ct_T) { frames := 0, cells := 0, slots := 0, locals := 0 } D vwCl (rn_T ci co) (rn_g a ci co) (rn_X a) [.int p0, .int p1] st r0 st := by
  refine ct_i.mk (cc := prog_1_method_24_code) (maxL := 2) (by decide) rfl (Nat.le_of_ble_eq_true rfl) ?_
  intro p e s m below meth c hx hb hr hml hown hts hlk hK hN hP hS ls hl
  have hown : s.vm.findClass "RoundedNumbers" = some m.cls := hown
  have hl : lv_has ls 2 [(0, .int p0), (1, .int p1)] := hl
  have htb := fun w h => hts w (List.mem_cons_of_mem _ h)
  unfold RN_quotientKind at hF
  refine lv_iload_n hx hb d_RN_quotientKind_0 rfl (lv_at hl 0 rfl) ?_
  refine lv_if_eq hx hb d_RN_quotientKind_1 (tgt := 8) (by decide) (fun c1 => ?_) (fun c1 => ?_)
  · replace hF := (if_pos c1).symm.trans hF
    refine lv_iconst (v := 0) hx hb d_RN_quotientKind_8 (by decide) ?_
    subst hF
    exact ct_iret hx hb hr hlk hP hS d_RN_quotientKind_9
  · replace hF := (if_neg c1).symm.trans hF
    refine lv_iload_n hx hb d_RN_quotientKind_4 rfl (lv_at hl 1 rfl) ?_
    refine lv_if_ne hx hb d_RN_quotientKind_5 (tgt := 10) (by decide) (fun c5 => ?_) (fun c5 => ?_)
    · replace hF := (if_neg c5).symm.trans hF
      refine lv_iload_n hx hb d_RN_quotientKind_10 rfl (lv_at hl 0 rfl) ?_
      refine lv_iload_n hx hb d_RN_quotientKind_11 rfl (lv_at hl 1 rfl) ?_
      refine ct_cut0 (fun  ls H locs => lv_has ls 2 [(0, .int p0), (1, .int p1)] ∧ RN_quotientKind_22 p0 p1 = r0 ∧ va_P D vwCl (rn_g a ci co st) H ∧ va_S (ct_F (rn_X a) s.heap.size) s.heap H locs) 22 [] ?_ ?_
      · intro ls H locs hq
        obtain ⟨hl, hF, hP, hS⟩ := hq
        unfold RN_quotientKind_22 at hF
        refine lv_iload_n hx hb d_RN_quotientKind_22 rfl (lv_at hl 0 rfl) ?_
        refine lv_iconst (v := 1) hx hb d_RN_quotientKind_23 (by decide) ?_
        refine lv_icmp_eq hx hb d_RN_quotientKind_24 (tgt := 32) (by decide) (fun c24 => ?_) (fun c24 => ?_)
        · replace hF := (if_pos c24).symm.trans hF
          refine lv_iconst (v := 1) hx hb d_RN_quotientKind_32 (by decide) ?_
          subst hF
          exact ct_iret hx hb hr hlk hP hS d_RN_quotientKind_33
        · replace hF := (if_neg c24).symm.trans hF
          refine lv_iload_n hx hb d_RN_quotientKind_27 rfl (lv_at hl 1 rfl) ?_
          refine lv_iconst (v := 2) hx hb d_RN_quotientKind_28 (by decide) ?_
          refine lv_icmp_ne hx hb d_RN_quotientKind_29 (tgt := 34) (by decide) (fun c29 => ?_) (fun c29 => ?_)
          · replace hF := (if_neg c29).symm.trans hF
            refine lv_iload_n hx hb d_RN_quotientKind_34 rfl (lv_at hl 0 rfl) ?_
            refine lv_iconst (v := 2) hx hb d_RN_quotientKind_35 (by decide) ?_
            refine ct_cut0 (fun  ls H locs => lv_has ls 2 [] ∧ RN_quotientKind_44 = r0 ∧ va_P D vwCl (rn_g a ci co st) H ∧ va_S (ct_F (rn_X a) s.heap.size) s.heap H locs) 44 [] ?_ ?_
            · intro ls H locs hq
              obtain ⟨hl, hF, hP, hS⟩ := hq
              unfold RN_quotientKind_44 at hF
              refine lv_iconst (v := 2) hx hb d_RN_quotientKind_44 (by decide) ?_
              refine lv_goto hx hb d_RN_quotientKind_45 (tgt := 49) (by decide) ?_
              subst hF
              exact ct_iret hx hb hr hlk hP hS d_RN_quotientKind_49
            · intro kj44
              refine lv_icmp_eq hx hb d_RN_quotientKind_36 (tgt := 44) (by decide) (fun c36 => ?_) (fun c36 => ?_)
              · replace hF := (if_pos c36).symm.trans hF
                exact kj44 _ _ _ ⟨lv_sub hl [] rfl, hF, hP, hS⟩
              · replace hF := (if_neg c36).symm.trans hF
                refine lv_iload_n hx hb d_RN_quotientKind_39 rfl (lv_at hl 1 rfl) ?_
                refine lv_iconst (v := 1) hx hb d_RN_quotientKind_40 (by decide) ?_
                refine lv_icmp_ne hx hb d_RN_quotientKind_41 (tgt := 48) (by decide) (fun c41 => ?_) (fun c41 => ?_)
                · replace hF := (if_neg c41).symm.trans hF
                  refine lv_iconst (v := 3) hx hb d_RN_quotientKind_48 (by decide) ?_
                  subst hF
                  exact ct_iret hx hb hr hlk hP hS d_RN_quotientKind_49
                · replace hF := (if_pos c41).symm.trans hF
                  exact kj44 _ _ _ ⟨lv_sub hl [] rfl, hF, hP, hS⟩
          · replace hF := (if_pos c29).symm.trans hF
            refine lv_iconst (v := 1) hx hb d_RN_quotientKind_32 (by decide) ?_
            subst hF
            exact ct_iret hx hb hr hlk hP hS d_RN_quotientKind_33
      · intro kj22
        refine lv_icmp_ne hx hb d_RN_quotientKind_12 (tgt := 22) (by decide) (fun c12 => ?_) (fun c12 => ?_)
        · replace hF := (if_neg c12).symm.trans hF
          exact kj22 _ _ _ ⟨lv_sub hl [0, 1] rfl, hF, hP, hS⟩
        · replace hF := (if_pos c12).symm.trans hF
          refine lv_iload_n hx hb d_RN_quotientKind_15 rfl (lv_at hl 0 rfl) ?_
          refine lv_iconst (v := 3) hx hb d_RN_quotientKind_16 (by decide) ?_
          refine lv_icmp_eq hx hb d_RN_quotientKind_17 (tgt := 22) (by decide) (fun c17 => ?_) (fun c17 => ?_)
          · replace hF := (if_pos c17).symm.trans hF
            exact kj22 _ _ _ ⟨lv_sub hl [0, 1] rfl, hF, hP, hS⟩
          · replace hF := (if_neg c17).symm.trans hF
            refine lv_iconst (v := 0) hx hb d_RN_quotientKind_20 (by decide) ?_
            subst hF
            exact ct_iret hx hb hr hlk hP hS d_RN_quotientKind_21
    · replace hF := (if_pos c5).symm.trans hF
      refine lv_iconst (v := 0) hx hb d_RN_quotientKind_8 (by decide) ?_
      subst hF
      exact ct_iret hx hb hr hlk hP hS d_RN_quotientKind_9
theorem d_RN_markRemainder_0 : decode prog_1_method_36_code 0 = .ok (.aload_n 0, 1) := by decide +kernel
theorem d_RN_markRemainder_1 : decode prog_1_method_36_code 1 = .ok (.getfield 39, 3) := by decide +kernel
theorem d_RN_markRemainder_4 : decode prog_1_method_36_code 4 = .ok (.invokevirtual 212, 3) := by decide +kernel
theorem d_RN_markRemainder_7 : decode prog_1_method_36_code 7 = .ok (.ifCond .ne 12, 3) := by decide +kernel
theorem d_RN_markRemainder_10 : decode prog_1_method_36_code 10 = .ok (.aload_n 0, 1) := by decide +kernel
theorem d_RN_markRemainder_11 : decode prog_1_method_36_code 11 = .ok (.getfield 32, 3) := by decide +kernel
theorem d_RN_markRemainder_14 : decode prog_1_method_36_code 14 = .ok (.iload_n 1, 1) := by decide +kernel
theorem d_RN_markRemainder_15 : decode prog_1_method_36_code 15 = .ok (.iconst 1, 1) := by decide +kernel
theorem d_RN_markRemainder_16 : decode prog_1_method_36_code 16 = .ok (.invokevirtual 188, 3) := by decide +kernel
theorem d_RN_markRemainder_19 : decode prog_1_method_36_code 19 = .ok (.return_, 1) := by decide +kernel
def RN_markRemainder (st : rn_S) (p0 : Int32) : rn_S := nm (RW_isNothing st 0) (fun r4 => (if r4 = 0 then nm (RE_addPower st p0 (1 : Int32)) (fun t16 => t16) else st))
set_option maxHeartbeats 4000000 in
set_option maxRecDepth 100000 in
theorem c_RN_markRemainder (l : Launch) {D : va_G} (a : Nat → Nat) (ci co : ClassId) (hi : rn_inj a) (st : rn_S) (p0 : Int32) (t0 : rn_S) (hF : RN_markRemainder st p0 = t0) : ct_v l ⟨"RoundedNumbers", "markRemainder", "(I)V"⟩ (.code ⟨"RoundedNumbers", "markRemainder", "(I)V"⟩ prog_1_method_36_code 2 none :: ct_T) { frames := 2, cells := 0, slots := 0, locals := 47 } D vwCl (rn_T ci co) (rn_g a ci co) (rn_X a) [.ref (a 0), .int p0] st t0 := by
  refine ct_v.mk (cc := prog_1_method_36_code) (maxL := 2) (by decide) rfl (Nat.le_of_ble_eq_true rfl) ?_
  intro p e s m below meth c hx hb hr hml hown hts hlk hK hN hP hS ls hl
  have hown : s.vm.findClass "RoundedNumbers" = some m.cls := hown
  have hl : lv_has ls 2 [(0, .ref (a 0)), (1, .int p0)] := hl
  have htb := fun w h => hts w (List.mem_cons_of_mem _ h)
  unfold RN_markRemainder at hF
  refine lv_aload_n hx hb d_RN_markRemainder_0 rfl (lv_at hl 0 rfl) ?_
  refine gf_RN_39 hx hb htb hown hK hP d_RN_markRemainder_1 ?_
  obtain ⟨r4, e4⟩ := nm_ex (RW_isNothing st 0)
  replace hF := (nm_eq e4).symm.trans hF
  refine ct_calli (va_runV (As := []) (rest := []) ⟨hx, hb, hml, hown, hts⟩ (c_RW_isNothing l (D := D) a ci co hi st 0 (by decide) _ e4 _) (kc_RN_212 hts ⟨by decide, by decide⟩) ⟨ct_blind, rn_rc3 hK hP (by decide), ct_ok hP hK hN⟩ rfl rfl hl.1 rfl (lv_room (Nat.le_of_ble_eq_true rfl)) d_RN_markRemainder_4 ⟨Nat.zero_le _, Nat.zero_le _⟩) hS (fun H locs hP hS => ?_)
  refine lv_if_ne hx hb d_RN_markRemainder_7 (tgt := 19) (by decide) (fun c7 => ?_) (fun c7 => ?_)
  · replace hF := (if_neg c7).symm.trans hF
    subst hF
    exact ct_vret hx hb hr hlk hP hS d_RN_markRemainder_19
  · replace hF := (if_pos c7).symm.trans hF
    refine lv_aload_n hx hb d_RN_markRemainder_10 rfl (lv_at hl 0 rfl) ?_
    refine gf_RN_32 hx hb htb hown hK hP d_RN_markRemainder_11 ?_
    refine lv_iload_n hx hb d_RN_markRemainder_14 rfl (lv_at hl 1 rfl) ?_
    refine lv_iconst (v := 1) hx hb d_RN_markRemainder_15 (by decide) ?_
    obtain ⟨t16, e16⟩ := nm_ex (RE_addPower st p0 (1 : Int32))
    replace hF := (nm_eq e16).symm.trans hF
    refine ct_callv (va_runV (As := [.int p0, .int (1 : Int32)]) (rest := []) ⟨hx, hb, hml, hown, hts⟩ (c_RE_addPower l (D := D) a ci co hi st p0 (1 : Int32) _ e16 _) (kc_RN_188 hts ⟨by decide, by decide⟩) ⟨ct_blind, rn_rc2 hK hP, ct_ok hP hK hN⟩ rfl rfl hl.1 rfl (lv_room (Nat.le_of_ble_eq_true rfl)) d_RN_markRemainder_16 ⟨Nat.zero_le _, Nat.zero_le _⟩) hS (fun H locs hP hS => ?_)
    subst hF
    exact ct_vret hx hb hr hlk hP hS d_RN_markRemainder_19
theorem d_RN_workOutQuotient_0 : decode prog_1_method_34_code 0 = .ok (.aload_n 1, 1) := by decide +kernel
theorem d_RN_workOutQuotient_1 : decode prog_1_method_34_code 1 = .ok (.invokevirtual 138, 3) := by decide +kernel
theorem d_RN_workOutQuotient_4 : decode prog_1_method_34_code 4 = .ok (.aload_n 2, 1) := by decide +kernel
theorem d_RN_workOutQuotient_5 : decode prog_1_method_34_code 5 = .ok (.invokevirtual 138, 3) := by decide +kernel
theorem d_RN_workOutQuotient_8 : decode prog_1_method_34_code 8 = .ok (.isub, 1) := by decide +kernel
theorem d_RN_workOutQuotient_9 : decode prog_1_method_34_code 9 = .ok (.istore_n 3, 1) := by decide +kernel
theorem d_RN_workOutQuotient_10 : decode prog_1_method_34_code 10 = .ok (.aload_n 0, 1) := by decide +kernel
theorem d_RN_workOutQuotient_11 : decode prog_1_method_34_code 11 = .ok (.getfield 32, 3) := by decide +kernel
theorem d_RN_workOutQuotient_14 : decode prog_1_method_34_code 14 = .ok (.invokevirtual 125, 3) := by decide +kernel
theorem d_RN_workOutQuotient_17 : decode prog_1_method_34_code 17 = .ok (.aload_n 0, 1) := by decide +kernel
theorem d_RN_workOutQuotient_18 : decode prog_1_method_34_code 18 = .ok (.getfield 39, 3) := by decide +kernel
theorem d_RN_workOutQuotient_21 : decode prog_1_method_34_code 21 = .ok (.aload_n 1, 1) := by decide +kernel
theorem d_RN_workOutQuotient_22 : decode prog_1_method_34_code 22 = .ok (.invokevirtual 191, 3) := by decide +kernel
theorem d_RN_workOutQuotient_25 : decode prog_1_method_34_code 25 = .ok (.aload_n 0, 1) := by decide +kernel
theorem d_RN_workOutQuotient_26 : decode prog_1_method_34_code 26 = .ok (.getfield 43, 3) := by decide +kernel
theorem d_RN_workOutQuotient_29 : decode prog_1_method_34_code 29 = .ok (.aload_n 2, 1) := by decide +kernel
theorem d_RN_workOutQuotient_30 : decode prog_1_method_34_code 30 = .ok (.invokevirtual 191, 3) := by decide +kernel
theorem d_RN_workOutQuotient_33 : decode prog_1_method_34_code 33 = .ok (.iconst 0, 1) := by decide +kernel
theorem d_RN_workOutQuotient_34 : decode prog_1_method_34_code 34 = .ok (.istore 4, 2) := by decide +kernel
theorem d_RN_workOutQuotient_36 : decode prog_1_method_34_code 36 = .ok (.iload 4, 2) := by decide +kernel
theorem d_RN_workOutQuotient_38 : decode prog_1_method_34_code 38 = .ok (.bipush 96, 2) := by decide +kernel
theorem d_RN_workOutQuotient_40 : decode prog_1_method_34_code 40 = .ok (.if_icmp .ge 55, 3) := by decide +kernel
theorem d_RN_workOutQuotient_43 : decode prog_1_method_34_code 43 = .ok (.aload_n 0, 1) := by decide +kernel
theorem d_RN_workOutQuotient_44 : decode prog_1_method_34_code 44 = .ok (.getfield 39, 3) := by decide +kernel
theorem d_RN_workOutQuotient_47 : decode prog_1_method_34_code 47 = .ok (.aload_n 0, 1) := by decide +kernel
theorem d_RN_workOutQuotient_48 : decode prog_1_method_34_code 48 = .ok (.getfield 43, 3) := by decide +kernel
theorem d_RN_workOutQuotient_51 : decode prog_1_method_34_code 51 = .ok (.invokevirtual 194, 3) := by decide +kernel
theorem d_RN_workOutQuotient_54 : decode prog_1_method_34_code 54 = .ok (.ifCond .eq 26, 3) := by decide +kernel
theorem d_RN_workOutQuotient_57 : decode prog_1_method_34_code 57 = .ok (.aload_n 0, 1) := by decide +kernel
theorem d_RN_workOutQuotient_58 : decode prog_1_method_34_code 58 = .ok (.getfield 39, 3) := by decide +kernel
theorem d_RN_workOutQuotient_61 : decode prog_1_method_34_code 61 = .ok (.aload_n 0, 1) := by decide +kernel
theorem d_RN_workOutQuotient_62 : decode prog_1_method_34_code 62 = .ok (.getfield 43, 3) := by decide +kernel
theorem d_RN_workOutQuotient_65 : decode prog_1_method_34_code 65 = .ok (.invokevirtual 198, 3) := by decide +kernel
theorem d_RN_workOutQuotient_68 : decode prog_1_method_34_code 68 = .ok (.aload_n 0, 1) := by decide +kernel
theorem d_RN_workOutQuotient_69 : decode prog_1_method_34_code 69 = .ok (.getfield 32, 3) := by decide +kernel
theorem d_RN_workOutQuotient_72 : decode prog_1_method_34_code 72 = .ok (.iload_n 3, 1) := by decide +kernel
theorem d_RN_workOutQuotient_73 : decode prog_1_method_34_code 73 = .ok (.iload 4, 2) := by decide +kernel
theorem d_RN_workOutQuotient_75 : decode prog_1_method_34_code 75 = .ok (.isub, 1) := by decide +kernel
theorem d_RN_workOutQuotient_76 : decode prog_1_method_34_code 76 = .ok (.iconst 1, 1) := by decide +kernel
theorem d_RN_workOutQuotient_77 : decode prog_1_method_34_code 77 = .ok (.invokevirtual 188, 3) := by decide +kernel
theorem d_RN_workOutQuotient_80 : decode prog_1_method_34_code 80 = .ok (.aload_n 0, 1) := by decide +kernel
theorem d_RN_workOutQuotient_81 : decode prog_1_method_34_code 81 = .ok (.getfield 39, 3) := by decide +kernel
theorem d_RN_workOutQuotient_84 : decode prog_1_method_34_code 84 = .ok (.iconst 1, 1) := by decide +kernel
theorem d_RN_workOutQuotient_85 : decode prog_1_method_34_code 85 = .ok (.iconst 0, 1) := by decide +kernel
theorem d_RN_workOutQuotient_86 : decode prog_1_method_34_code 86 = .ok (.invokevirtual 202, 3) := by decide +kernel
theorem d_RN_workOutQuotient_89 : decode prog_1_method_34_code 89 = .ok (.iinc 4 1, 3) := by decide +kernel
theorem d_RN_workOutQuotient_92 : decode prog_1_method_34_code 92 = .ok (.goto (-56), 3) := by decide +kernel
theorem d_RN_workOutQuotient_95 : decode prog_1_method_34_code 95 = .ok (.aload_n 0, 1) := by decide +kernel
theorem d_RN_workOutQuotient_96 : decode prog_1_method_34_code 96 = .ok (.iload_n 3, 1) := by decide +kernel
theorem d_RN_workOutQuotient_97 : decode prog_1_method_34_code 97 = .ok (.bipush 96, 2) := by decide +kernel
theorem d_RN_workOutQuotient_99 : decode prog_1_method_34_code 99 = .ok (.isub, 1) := by decide +kernel
theorem d_RN_workOutQuotient_100 : decode prog_1_method_34_code 100 = .ok (.invokevirtual 205, 3) := by decide +kernel
theorem d_RN_workOutQuotient_103 : decode prog_1_method_34_code 103 = .ok (.return_, 1) := by decide +kernel
def RN_workOutQuotient_80 (k36 : Int32 → Int32 → rn_S → rn_S) (L3 : Int32) (L4 : Int32) (st : rn_S) : rn_S := nm (RW_shift st 0 (1 : Int32) (0 : Int32)) (fun t86 => nm (L4 + (1 : Int32)) (fun x89 => k36 L3 x89 t86))
def RN_workOutQuotient_36 : Nat → Int32 → Int32 → rn_S → rn_S
  | 0, _, _, st => st
  | n + 1, L3, L4, st => (if (96 : Int32) ≤ L4 then nm (RN_markRemainder st (L3 - (96 : Int32))) (fun t100 => t100) else nm (RW_reaches st 0 1) (fun r51 => (if r51 = 0 then RN_workOutQuotient_80 (RN_workOutQuotient_36 n) L3 L4 st else nm (RW_lessen st 0 1) (fun t65 => nm (RE_addPower t65 (L3 - L4) (1 : Int32)) (fun t77 => RN_workOutQuotient_80 (RN_workOutQuotient_36 n) L3 L4 t77)))))
def RN_workOutQuotient (st : rn_S) (v0 : Nat) (v1 : Nat) : rn_S := nm (RV_exponent st v0) (fun r1 => nm (RV_exponent st v1) (fun r5 => nm (r1 - r5) (fun x9 => nm (RE_clear st) (fun t14 => nm (RW_take t14 0 v0) (fun t22 => nm (RW_take t22 1 v1) (fun t30 => RN_workOutQuotient_36 (97) x9 (0 : Int32) t30))))))
set_option maxHeartbeats 4000000 in
set_option maxRecDepth 100000 in
theorem c_RN_workOutQuotient (l : Launch) {D : va_G} (a : Nat → Nat) (ci co : ClassId) (hi : rn_inj a) (st : rn_S) (v0 : Nat) (v1 : Nat) (hv0 : v0 < 10) (hv1 : v1 < 10) (t0 : rn_S) (hF : RN_workOutQuotient st v0 v1 = t0) : ct_v l ⟨"RoundedNumbers", "workOutQuotient", "(LRoundedNumbers$Value;LRoundedNumbers$Value;)V"⟩ (.code ⟨"RoundedNumbers", "workOutQuotient", "(LRoundedNumbers$Value;LRoundedNumbers$Value;)V"⟩ prog_1_method_34_code 5 none :: ct_T) { frames := 3, cells := 0, slots := 0, locals := 68 } D vwCl (rn_T ci co) (rn_g a ci co) (rn_X a) [.ref (a 0), .ref (a (8 + v0)), .ref (a (8 + v1))] st t0 := by
  refine ct_v.mk (cc := prog_1_method_34_code) (maxL := 5) (by decide) rfl (Nat.le_of_ble_eq_true rfl) ?_
  intro p e s m below meth c hx hb hr hml hown hts hlk hK hN hP hS ls hl
  have hown : s.vm.findClass "RoundedNumbers" = some m.cls := hown
  have hl : lv_has ls 5 [(0, .ref (a 0)), (1, .ref (a (8 + v0))), (2, .ref (a (8 + v1)))] := hl
  have htb := fun w h => hts w (List.mem_cons_of_mem _ h)
  unfold RN_workOutQuotient at hF
  refine lv_aload_n hx hb d_RN_workOutQuotient_0 rfl (lv_at hl 1 rfl) ?_
  obtain ⟨r1, e1⟩ := nm_ex (RV_exponent st v0)
  replace hF := (nm_eq e1).symm.trans hF
  refine ct_calli (va_runV (As := []) (rest := []) ⟨hx, hb, hml, hown, hts⟩ (c_RV_exponent l (D := D) a ci co hi st v0 hv0 _ e1 _) (kc_RN_138 hts ⟨by decide, by decide⟩) ⟨ct_blind, rn_rc1 hK hP hv0, ct_ok hP hK hN⟩ rfl rfl hl.1 rfl (lv_room (Nat.le_of_ble_eq_true rfl)) d_RN_workOutQuotient_1 ⟨Nat.zero_le _, Nat.zero_le _⟩) hS (fun H locs hP hS => ?_)
  refine lv_aload_n hx hb d_RN_workOutQuotient_4 rfl (lv_at hl 2 rfl) ?_
  obtain ⟨r5, e5⟩ := nm_ex (RV_exponent st v1)
  replace hF := (nm_eq e5).symm.trans hF
  refine ct_calli (va_runV (As := []) (rest := [.int r1]) ⟨hx, hb, hml, hown, hts⟩ (c_RV_exponent l (D := D) a ci co hi st v1 hv1 _ e5 _) (kc_RN_138 hts ⟨by decide, by decide⟩) ⟨ct_blind, rn_rc1 hK hP hv1, ct_ok hP hK hN⟩ rfl rfl hl.1 rfl (lv_room (Nat.le_of_ble_eq_true rfl)) d_RN_workOutQuotient_5 ⟨Nat.zero_le _, Nat.zero_le _⟩) hS (fun H locs hP hS => ?_)
  refine lv_isub hx hb d_RN_workOutQuotient_8 ?_
  refine lv_topi (fun x9 e9 => ?_)
  replace hF := (nm_eq e9.symm).symm.trans hF
  refine lv_istore_n (lv' := [(3, .int x9), (0, .ref (a 0)), (1, .ref (a (8 + v0))), (2, .ref (a (8 + v1)))]) hx hb d_RN_workOutQuotient_9 rfl hl (by decide) rfl (fun ls hl => ?_)
  refine lv_aload_n hx hb d_RN_workOutQuotient_10 rfl (lv_at hl 1 rfl) ?_
  refine gf_RN_32 hx hb htb hown hK hP d_RN_workOutQuotient_11 ?_
  obtain ⟨t14, e14⟩ := nm_ex (RE_clear st)
  replace hF := (nm_eq e14).symm.trans hF
  refine ct_callv (va_runV (As := []) (rest := []) ⟨hx, hb, hml, hown, hts⟩ (c_RE_clear l (D := D) a ci co hi st _ e14 _) (kc_RN_125 hts ⟨by decide, by decide⟩) ⟨ct_blind, rn_rc2 hK hP, ct_ok hP hK hN⟩ rfl rfl hl.1 rfl (lv_room (Nat.le_of_ble_eq_true rfl)) d_RN_workOutQuotient_14 ⟨Nat.zero_le _, Nat.zero_le _⟩) hS (fun H locs hP hS => ?_)
  refine lv_aload_n hx hb d_RN_workOutQuotient_17 rfl (lv_at hl 1 rfl) ?_
  refine gf_RN_39 hx hb htb hown hK hP d_RN_workOutQuotient_18 ?_
  refine lv_aload_n hx hb d_RN_workOutQuotient_21 rfl (lv_at hl 2 rfl) ?_
  obtain ⟨t22, e22⟩ := nm_ex (RW_take t14 0 v0)
  replace hF := (nm_eq e22).symm.trans hF
  refine ct_callv (va_runV (As := [.ref (a (8 + v0))]) (rest := []) ⟨hx, hb, hml, hown, hts⟩ (c_RW_take l (D := D) a ci co hi t14 0 v0 (by decide) hv0 _ e22 _) (kc_RN_191 hts ⟨by decide, by decide⟩) ⟨ct_blind, rn_rc3 hK hP (by decide), ct_ok hP hK hN⟩ rfl rfl hl.1 rfl (lv_room (Nat.le_of_ble_eq_true rfl)) d_RN_workOutQuotient_22 ⟨Nat.zero_le _, Nat.zero_le _⟩) hS (fun H locs hP hS => ?_)
  refine lv_aload_n hx hb d_RN_workOutQuotient_25 rfl (lv_at hl 1 rfl) ?_
  refine gf_RN_43 hx hb htb hown hK hP d_RN_workOutQuotient_26 ?_
  refine lv_aload_n hx hb d_RN_workOutQuotient_29 rfl (lv_at hl 3 rfl) ?_
  obtain ⟨t30, e30⟩ := nm_ex (RW_take t22 1 v1)
  replace hF := (nm_eq e30).symm.trans hF
  refine ct_callv (va_runV (As := [.ref (a (8 + v1))]) (rest := []) ⟨hx, hb, hml, hown, hts⟩ (c_RW_take l (D := D) a ci co hi t22 1 v1 (by decide) hv1 _ e30 _) (kc_RN_191 hts ⟨by decide, by decide⟩) ⟨ct_blind, rn_rc3 hK hP (by decide), ct_ok hP hK hN⟩ rfl rfl hl.1 rfl (lv_room (Nat.le_of_ble_eq_true rfl)) d_RN_workOutQuotient_30 ⟨Nat.zero_le _, Nat.zero_le _⟩) hS (fun H locs hP hS => ?_)
  refine lv_iconst (v := 0) hx hb d_RN_workOutQuotient_33 (by decide) ?_
  refine lv_istore (lv' := [(4, .int (0 : Int32)), (3, .int x9), (0, .ref (a 0)), (1, .ref (a (8 + v0))), (2, .ref (a (8 + v1)))]) hx hb d_RN_workOutQuotient_34 hl (by decide) rfl (fun ls hl => ?_)
  refine ct_loop2 (fun n (w36L4 : Int32) (w36t : rn_S) ls H locs => lv_has ls 5 [(4, .int w36L4), (3, .int x9), (0, .ref (a 0))] ∧ (∃ k, w36L4 = nI k ∧ k < 2147483648 ∧ 96 - k < n) ∧ RN_workOutQuotient_36 n x9 w36L4 w36t = t0 ∧ va_P D vwCl (rn_g a ci co w36t) H ∧ va_S (ct_F (rn_X a) s.heap.size) s.heap H locs) 36 ?_ ?_ (97) (0 : Int32) t30 ⟨lv_sub hl [0, 1, 2] rfl, ⟨0, rfl, by omega, by omega⟩, hF, hP, hS⟩
  · intro w36L4 w36t ls H locs hq
    obtain ⟨hl, hq9, hF, hP, hS⟩ := hq
    obtain ⟨k, e9, hk, hn⟩ := hq9
    exact absurd hn (Nat.not_lt_zero _)
  · intro n36 ih36 w36L4 w36t ls H locs hq
    obtain ⟨hl, hq9, hF, hP, hS⟩ := hq
    obtain ⟨k36, e9, hk36, hn36⟩ := hq9
    subst e9
    rw [RN_workOutQuotient_36] at hF
    refine lv_iload hx hb d_RN_workOutQuotient_36 (lv_at hl 0 rfl) ?_
    refine lv_bipush (v := 96) hx hb d_RN_workOutQuotient_38 (by decide) ?_
    refine lv_icmp_ge hx hb d_RN_workOutQuotient_40 (tgt := 95) (by decide) (fun c40 => ?_) (fun c40 => ?_)
    · replace hF := (if_pos c40).symm.trans hF
      refine lv_aload_n hx hb d_RN_workOutQuotient_95 rfl (lv_at hl 2 rfl) ?_
      refine lv_iload_n hx hb d_RN_workOutQuotient_96 rfl (lv_at hl 1 rfl) ?_
      refine lv_bipush (v := 96) hx hb d_RN_workOutQuotient_97 (by decide) ?_
      refine lv_isub hx hb d_RN_workOutQuotient_99 ?_
      obtain ⟨t100, e100⟩ := nm_ex (RN_markRemainder w36t (x9 - (96 : Int32)))
      replace hF := (nm_eq e100).symm.trans hF
      refine ct_callv (va_runV (As := [.int (x9 - (96 : Int32))]) (rest := []) ⟨hx, hb, hml, hown, hts⟩ (c_RN_markRemainder l (D := D) a ci co hi w36t (x9 - (96 : Int32)) _ e100 _) (kc_RN_205 hts ⟨by decide, by decide⟩) ⟨ct_blind, rn_rc0 hK hP, ct_ok hP hK hN⟩ rfl rfl hl.1 rfl (lv_room (Nat.le_of_ble_eq_true rfl)) d_RN_workOutQuotient_100 ⟨Nat.zero_le _, Nat.zero_le _⟩) hS (fun H locs hP hS => ?_)
      subst hF
      exact ct_vret hx hb hr hlk hP hS d_RN_workOutQuotient_103
    · replace hF := (if_neg c40).symm.trans hF
      refine lv_aload_n hx hb d_RN_workOutQuotient_43 rfl (lv_at hl 2 rfl) ?_
      refine gf_RN_39 hx hb htb hown hK hP d_RN_workOutQuotient_44 ?_
      refine lv_aload_n hx hb d_RN_workOutQuotient_47 rfl (lv_at hl 2 rfl) ?_
      refine gf_RN_43 hx hb htb hown hK hP d_RN_workOutQuotient_48 ?_
      obtain ⟨r51, e51⟩ := nm_ex (RW_reaches w36t 0 1)
      replace hF := (nm_eq e51).symm.trans hF
      refine ct_calli (va_runV (As := [.ref (a (5 + 1))]) (rest := []) ⟨hx, hb, hml, hown, hts⟩ (c_RW_reaches l (D := D) a ci co hi w36t 0 1 (by decide) (by decide) _ e51 _) (kc_RN_194 hts ⟨by decide, by decide⟩) ⟨ct_blind, rn_rc3 hK hP (by decide), ct_ok hP hK hN⟩ rfl rfl hl.1 rfl (lv_room (Nat.le_of_ble_eq_true rfl)) d_RN_workOutQuotient_51 ⟨Nat.zero_le _, Nat.zero_le _⟩) hS (fun H locs hP hS => ?_)
      refine ct_cut1 (fun (j80t : rn_S) ls H locs => lv_has ls 5 [(4, .int (nI k36)), (3, .int x9), (0, .ref (a 0))] ∧ RN_workOutQuotient_80 (RN_workOutQuotient_36 n36) x9 (nI k36) j80t = t0 ∧ va_P D vwCl (rn_g a ci co j80t) H ∧ va_S (ct_F (rn_X a) s.heap.size) s.heap H locs) 80 (fun j80t => []) ?_ ?_
      · intro j80t ls H locs hq
        obtain ⟨hl, hF, hP, hS⟩ := hq
        unfold RN_workOutQuotient_80 at hF
        refine lv_aload_n hx hb d_RN_workOutQuotient_80 rfl (lv_at hl 2 rfl) ?_
        refine gf_RN_39 hx hb htb hown hK hP d_RN_workOutQuotient_81 ?_
        refine lv_iconst (v := 1) hx hb d_RN_workOutQuotient_84 (by decide) ?_
        refine lv_iconst (v := 0) hx hb d_RN_workOutQuotient_85 (by decide) ?_
        obtain ⟨t86, e86⟩ := nm_ex (RW_shift j80t 0 (1 : Int32) (0 : Int32))
        replace hF := (nm_eq e86).symm.trans hF
        refine ct_callv (va_runV (As := [.int (1 : Int32), .int (0 : Int32)]) (rest := []) ⟨hx, hb, hml, hown, hts⟩ (c_RW_shift l (D := D) a ci co hi j80t 0 (1 : Int32) (0 : Int32) (by decide) _ e86 _) (kc_RN_202 hts ⟨by decide, by decide⟩) ⟨ct_blind, rn_rc3 hK hP (by decide), ct_ok hP hK hN⟩ rfl rfl hl.1 rfl (lv_room (Nat.le_of_ble_eq_true rfl)) d_RN_workOutQuotient_86 ⟨Nat.zero_le _, Nat.zero_le _⟩) hS (fun H locs hP hS => ?_)
        obtain ⟨x89, e89⟩ := nm_ex ((nI k36) + (1 : Int32))
        replace hF := (nm_eq e89).symm.trans hF
        refine lv_iinc (v := x89) (lv' := [(4, .int x89), (3, .int x9), (0, .ref (a 0))]) hx hb d_RN_workOutQuotient_89 hl (k := 0) rfl e89 (by decide) rfl (fun ls hl => ?_)
        refine lv_goto hx hb d_RN_workOutQuotient_92 (tgt := 36) (by decide) ?_
        have hk9 : k36 < 96 := nk_lt hk36 rfl (by decide) c40
        exact ih36 x89 t86 _ _ _ ⟨lv_sub hl [0, 1, 2] rfl, ⟨k36 + 1, e89.symm.trans (nI_1 k36), by omega, by omega⟩, hF, hP, hS⟩
      · intro kj80
        refine lv_if_eq hx hb d_RN_workOutQuotient_54 (tgt := 80) (by decide) (fun c54 => ?_) (fun c54 => ?_)
        · replace hF := (if_pos c54).symm.trans hF
          exact kj80 w36t _ _ _ ⟨lv_sub hl [0, 1, 2] rfl, hF, hP, hS⟩
        · replace hF := (if_neg c54).symm.trans hF
          refine lv_aload_n hx hb d_RN_workOutQuotient_57 rfl (lv_at hl 2 rfl) ?_
          refine gf_RN_39 hx hb htb hown hK hP d_RN_workOutQuotient_58 ?_
          refine lv_aload_n hx hb d_RN_workOutQuotient_61 rfl (lv_at hl 2 rfl) ?_
          refine gf_RN_43 hx hb htb hown hK hP d_RN_workOutQuotient_62 ?_
          obtain ⟨t65, e65⟩ := nm_ex (RW_lessen w36t 0 1)
          replace hF := (nm_eq e65).symm.trans hF
          refine ct_callv (va_runV (As := [.ref (a (5 + 1))]) (rest := []) ⟨hx, hb, hml, hown, hts⟩ (c_RW_lessen l (D := D) a ci co hi w36t 0 1 (by decide) (by decide) _ e65 _) (kc_RN_198 hts ⟨by decide, by decide⟩) ⟨ct_blind, rn_rc3 hK hP (by decide), ct_ok hP hK hN⟩ rfl rfl hl.1 rfl (lv_room (Nat.le_of_ble_eq_true rfl)) d_RN_workOutQuotient_65 ⟨Nat.zero_le _, Nat.zero_le _⟩) hS (fun H locs hP hS => ?_)
          refine lv_aload_n hx hb d_RN_workOutQuotient_68 rfl (lv_at hl 2 rfl) ?_
          refine gf_RN_32 hx hb htb hown hK hP d_RN_workOutQuotient_69 ?_
          refine lv_iload_n hx hb d_RN_workOutQuotient_72 rfl (lv_at hl 1 rfl) ?_
          refine lv_iload hx hb d_RN_workOutQuotient_73 (lv_at hl 0 rfl) ?_
          refine lv_isub hx hb d_RN_workOutQuotient_75 ?_
          refine lv_iconst (v := 1) hx hb d_RN_workOutQuotient_76 (by decide) ?_
          obtain ⟨t77, e77⟩ := nm_ex (RE_addPower t65 (x9 - (nI k36)) (1 : Int32))
          replace hF := (nm_eq e77).symm.trans hF
          refine ct_callv (va_runV (As := [.int (x9 - (nI k36)), .int (1 : Int32)]) (rest := []) ⟨hx, hb, hml, hown, hts⟩ (c_RE_addPower l (D := D) a ci co hi t65 (x9 - (nI k36)) (1 : Int32) _ e77 _) (kc_RN_188 hts ⟨by decide, by decide⟩) ⟨ct_blind, rn_rc2 hK hP, ct_ok hP hK hN⟩ rfl rfl hl.1 rfl (lv_room (Nat.le_of_ble_eq_true rfl)) d_RN_workOutQuotient_77 ⟨Nat.zero_le _, Nat.zero_le _⟩) hS (fun H locs hP hS => ?_)
          exact kj80 t77 _ _ _ ⟨lv_sub hl [0, 1, 2] rfl, hF, hP, hS⟩
theorem d_RN_workOutRoot_0 : decode prog_1_method_35_code 0 = .ok (.aload_n 1, 1) := by decide +kernel
theorem d_RN_workOutRoot_1 : decode prog_1_method_35_code 1 = .ok (.invokevirtual 138, 3) := by decide +kernel
theorem d_RN_workOutRoot_4 : decode prog_1_method_35_code 4 = .ok (.iconst 1, 1) := by decide +kernel
theorem d_RN_workOutRoot_5 : decode prog_1_method_35_code 5 = .ok (.iand, 1) := by decide +kernel
theorem d_RN_workOutRoot_6 : decode prog_1_method_35_code 6 = .ok (.istore_n 2, 1) := by decide +kernel
theorem d_RN_workOutRoot_7 : decode prog_1_method_35_code 7 = .ok (.aload_n 1, 1) := by decide +kernel
theorem d_RN_workOutRoot_8 : decode prog_1_method_35_code 8 = .ok (.invokevirtual 138, 3) := by decide +kernel
theorem d_RN_workOutRoot_11 : decode prog_1_method_35_code 11 = .ok (.iload_n 2, 1) := by decide +kernel
theorem d_RN_workOutRoot_12 : decode prog_1_method_35_code 12 = .ok (.iadd, 1) := by decide +kernel
theorem d_RN_workOutRoot_13 : decode prog_1_method_35_code 13 = .ok (.iconst 2, 1) := by decide +kernel
theorem d_RN_workOutRoot_14 : decode prog_1_method_35_code 14 = .ok (.idiv, 1) := by decide +kernel
theorem d_RN_workOutRoot_15 : decode prog_1_method_35_code 15 = .ok (.iconst 1, 1) := by decide +kernel
theorem d_RN_workOutRoot_16 : decode prog_1_method_35_code 16 = .ok (.isub, 1) := by decide +kernel
theorem d_RN_workOutRoot_17 : decode prog_1_method_35_code 17 = .ok (.istore_n 3, 1) := by decide +kernel
theorem d_RN_workOutRoot_18 : decode prog_1_method_35_code 18 = .ok (.aload_n 0, 1) := by decide +kernel
theorem d_RN_workOutRoot_19 : decode prog_1_method_35_code 19 = .ok (.getfield 32, 3) := by decide +kernel
theorem d_RN_workOutRoot_22 : decode prog_1_method_35_code 22 = .ok (.invokevirtual 125, 3) := by decide +kernel
theorem d_RN_workOutRoot_25 : decode prog_1_method_35_code 25 = .ok (.aload_n 0, 1) := by decide +kernel
theorem d_RN_workOutRoot_26 : decode prog_1_method_35_code 26 = .ok (.getfield 39, 3) := by decide +kernel
theorem d_RN_workOutRoot_29 : decode prog_1_method_35_code 29 = .ok (.invokevirtual 208, 3) := by decide +kernel
theorem d_RN_workOutRoot_32 : decode prog_1_method_35_code 32 = .ok (.aload_n 0, 1) := by decide +kernel
theorem d_RN_workOutRoot_33 : decode prog_1_method_35_code 33 = .ok (.getfield 46, 3) := by decide +kernel
theorem d_RN_workOutRoot_36 : decode prog_1_method_35_code 36 = .ok (.invokevirtual 208, 3) := by decide +kernel
theorem d_RN_workOutRoot_39 : decode prog_1_method_35_code 39 = .ok (.iconst 0, 1) := by decide +kernel
theorem d_RN_workOutRoot_40 : decode prog_1_method_35_code 40 = .ok (.istore 4, 2) := by decide +kernel
theorem d_RN_workOutRoot_42 : decode prog_1_method_35_code 42 = .ok (.iload 4, 2) := by decide +kernel
theorem d_RN_workOutRoot_44 : decode prog_1_method_35_code 44 = .ok (.bipush 96, 2) := by decide +kernel
theorem d_RN_workOutRoot_46 : decode prog_1_method_35_code 46 = .ok (.if_icmp .ge 121, 3) := by decide +kernel
theorem d_RN_workOutRoot_49 : decode prog_1_method_35_code 49 = .ok (.iconst 2, 1) := by decide +kernel
theorem d_RN_workOutRoot_50 : decode prog_1_method_35_code 50 = .ok (.iload 4, 2) := by decide +kernel
theorem d_RN_workOutRoot_52 : decode prog_1_method_35_code 52 = .ok (.imul, 1) := by decide +kernel
theorem d_RN_workOutRoot_53 : decode prog_1_method_35_code 53 = .ok (.iload_n 2, 1) := by decide +kernel
theorem d_RN_workOutRoot_54 : decode prog_1_method_35_code 54 = .ok (.isub, 1) := by decide +kernel
theorem d_RN_workOutRoot_55 : decode prog_1_method_35_code 55 = .ok (.istore 5, 2) := by decide +kernel
theorem d_RN_workOutRoot_57 : decode prog_1_method_35_code 57 = .ok (.aload_n 0, 1) := by decide +kernel
theorem d_RN_workOutRoot_58 : decode prog_1_method_35_code 58 = .ok (.getfield 39, 3) := by decide +kernel
theorem d_RN_workOutRoot_61 : decode prog_1_method_35_code 61 = .ok (.iconst 2, 1) := by decide +kernel
theorem d_RN_workOutRoot_62 : decode prog_1_method_35_code 62 = .ok (.iconst 2, 1) := by decide +kernel
theorem d_RN_workOutRoot_63 : decode prog_1_method_35_code 63 = .ok (.aload_n 1, 1) := by decide +kernel
theorem d_RN_workOutRoot_64 : decode prog_1_method_35_code 64 = .ok (.iload 5, 2) := by decide +kernel
theorem d_RN_workOutRoot_66 : decode prog_1_method_35_code 66 = .ok (.invokevirtual 141, 3) := by decide +kernel
theorem d_RN_workOutRoot_69 : decode prog_1_method_35_code 69 = .ok (.imul, 1) := by decide +kernel
theorem d_RN_workOutRoot_70 : decode prog_1_method_35_code 70 = .ok (.aload_n 1, 1) := by decide +kernel
theorem d_RN_workOutRoot_71 : decode prog_1_method_35_code 71 = .ok (.iload 5, 2) := by decide +kernel
theorem d_RN_workOutRoot_73 : decode prog_1_method_35_code 73 = .ok (.iconst 1, 1) := by decide +kernel
theorem d_RN_workOutRoot_74 : decode prog_1_method_35_code 74 = .ok (.iadd, 1) := by decide +kernel
theorem d_RN_workOutRoot_75 : decode prog_1_method_35_code 75 = .ok (.invokevirtual 141, 3) := by decide +kernel
theorem d_RN_workOutRoot_78 : decode prog_1_method_35_code 78 = .ok (.iadd, 1) := by decide +kernel
theorem d_RN_workOutRoot_79 : decode prog_1_method_35_code 79 = .ok (.invokevirtual 202, 3) := by decide +kernel
theorem d_RN_workOutRoot_82 : decode prog_1_method_35_code 82 = .ok (.aload_n 0, 1) := by decide +kernel
theorem d_RN_workOutRoot_83 : decode prog_1_method_35_code 83 = .ok (.getfield 43, 3) := by decide +kernel
theorem d_RN_workOutRoot_86 : decode prog_1_method_35_code 86 = .ok (.aload_n 0, 1) := by decide +kernel
theorem d_RN_workOutRoot_87 : decode prog_1_method_35_code 87 = .ok (.getfield 46, 3) := by decide +kernel
theorem d_RN_workOutRoot_90 : decode prog_1_method_35_code 90 = .ok (.invokevirtual 209, 3) := by decide +kernel
theorem d_RN_workOutRoot_93 : decode prog_1_method_35_code 93 = .ok (.aload_n 0, 1) := by decide +kernel
theorem d_RN_workOutRoot_94 : decode prog_1_method_35_code 94 = .ok (.getfield 43, 3) := by decide +kernel
theorem d_RN_workOutRoot_97 : decode prog_1_method_35_code 97 = .ok (.iconst 2, 1) := by decide +kernel
theorem d_RN_workOutRoot_98 : decode prog_1_method_35_code 98 = .ok (.iconst 1, 1) := by decide +kernel
theorem d_RN_workOutRoot_99 : decode prog_1_method_35_code 99 = .ok (.invokevirtual 202, 3) := by decide +kernel
theorem d_RN_workOutRoot_102 : decode prog_1_method_35_code 102 = .ok (.aload_n 0, 1) := by decide +kernel
theorem d_RN_workOutRoot_103 : decode prog_1_method_35_code 103 = .ok (.getfield 39, 3) := by decide +kernel
theorem d_RN_workOutRoot_106 : decode prog_1_method_35_code 106 = .ok (.aload_n 0, 1) := by decide +kernel
theorem d_RN_workOutRoot_107 : decode prog_1_method_35_code 107 = .ok (.getfield 43, 3) := by decide +kernel
theorem d_RN_workOutRoot_110 : decode prog_1_method_35_code 110 = .ok (.invokevirtual 194, 3) := by decide +kernel
theorem d_RN_workOutRoot_113 : decode prog_1_method_35_code 113 = .ok (.istore 6, 2) := by decide +kernel
theorem d_RN_workOutRoot_115 : decode prog_1_method_35_code 115 = .ok (.iload 6, 2) := by decide +kernel
theorem d_RN_workOutRoot_117 : decode prog_1_method_35_code 117 = .ok (.ifCond .eq 26, 3) := by decide +kernel
theorem d_RN_workOutRoot_120 : decode prog_1_method_35_code 120 = .ok (.aload_n 0, 1) := by decide +kernel
theorem d_RN_workOutRoot_121 : decode prog_1_method_35_code 121 = .ok (.getfield 39, 3) := by decide +kernel
theorem d_RN_workOutRoot_124 : decode prog_1_method_35_code 124 = .ok (.aload_n 0, 1) := by decide +kernel
theorem d_RN_workOutRoot_125 : decode prog_1_method_35_code 125 = .ok (.getfield 43, 3) := by decide +kernel
theorem d_RN_workOutRoot_128 : decode prog_1_method_35_code 128 = .ok (.invokevirtual 198, 3) := by decide +kernel
theorem d_RN_workOutRoot_131 : decode prog_1_method_35_code 131 = .ok (.aload_n 0, 1) := by decide +kernel
theorem d_RN_workOutRoot_132 : decode prog_1_method_35_code 132 = .ok (.getfield 32, 3) := by decide +kernel
theorem d_RN_workOutRoot_135 : decode prog_1_method_35_code 135 = .ok (.iload_n 3, 1) := by decide +kernel
theorem d_RN_workOutRoot_136 : decode prog_1_method_35_code 136 = .ok (.iload 4, 2) := by decide +kernel
theorem d_RN_workOutRoot_138 : decode prog_1_method_35_code 138 = .ok (.isub, 1) := by decide +kernel
theorem d_RN_workOutRoot_139 : decode prog_1_method_35_code 139 = .ok (.iconst 1, 1) := by decide +kernel
theorem d_RN_workOutRoot_140 : decode prog_1_method_35_code 140 = .ok (.invokevirtual 188, 3) := by decide +kernel
theorem d_RN_workOutRoot_143 : decode prog_1_method_35_code 143 = .ok (.aload_n 0, 1) := by decide +kernel
theorem d_RN_workOutRoot_144 : decode prog_1_method_35_code 144 = .ok (.getfield 46, 3) := by decide +kernel
theorem d_RN_workOutRoot_147 : decode prog_1_method_35_code 147 = .ok (.iconst 1, 1) := by decide +kernel
theorem d_RN_workOutRoot_148 : decode prog_1_method_35_code 148 = .ok (.iload 6, 2) := by decide +kernel
theorem d_RN_workOutRoot_150 : decode prog_1_method_35_code 150 = .ok (.ifCond .eq 7, 3) := by decide +kernel
theorem d_RN_workOutRoot_153 : decode prog_1_method_35_code 153 = .ok (.iconst 1, 1) := by decide +kernel
theorem d_RN_workOutRoot_154 : decode prog_1_method_35_code 154 = .ok (.goto 4, 3) := by decide +kernel
theorem d_RN_workOutRoot_157 : decode prog_1_method_35_code 157 = .ok (.iconst 0, 1) := by decide +kernel
theorem d_RN_workOutRoot_158 : decode prog_1_method_35_code 158 = .ok (.invokevirtual 202, 3) := by decide +kernel
theorem d_RN_workOutRoot_161 : decode prog_1_method_35_code 161 = .ok (.iinc 4 1, 3) := by decide +kernel
theorem d_RN_workOutRoot_164 : decode prog_1_method_35_code 164 = .ok (.goto (-122), 3) := by decide +kernel
theorem d_RN_workOutRoot_167 : decode prog_1_method_35_code 167 = .ok (.aload_n 0, 1) := by decide +kernel
theorem d_RN_workOutRoot_168 : decode prog_1_method_35_code 168 = .ok (.iload_n 3, 1) := by decide +kernel
theorem d_RN_workOutRoot_169 : decode prog_1_method_35_code 169 = .ok (.bipush 96, 2) := by decide +kernel
theorem d_RN_workOutRoot_171 : decode prog_1_method_35_code 171 = .ok (.isub, 1) := by decide +kernel
theorem d_RN_workOutRoot_172 : decode prog_1_method_35_code 172 = .ok (.invokevirtual 205, 3) := by decide +kernel
theorem d_RN_workOutRoot_175 : decode prog_1_method_35_code 175 = .ok (.return_, 1) := by decide +kernel
def RN_workOutRoot_158 (k42 : Nat → Int32 → Int32 → Int32 → rn_S → rn_S) (L1 : Nat) (L2 : Int32) (L3 : Int32) (L4 : Int32) (s0 : Int32) (s1 : Int32) (s2 : Nat) (st : rn_S) : rn_S := nm (RW_shift st s2 s1 s0) (fun t158 => nm (L4 + (1 : Int32)) (fun x161 => k42 L1 L2 L3 x161 t158))
def RN_workOutRoot_143 (k42 : Nat → Int32 → Int32 → Int32 → rn_S → rn_S) (L1 : Nat) (L2 : Int32) (L3 : Int32) (L4 : Int32) (L6 : Int32) (st : rn_S) : rn_S := (if L6 = 0 then RN_workOutRoot_158 k42 L1 L2 L3 L4 (0 : Int32) (1 : Int32) 2 st else RN_workOutRoot_158 k42 L1 L2 L3 L4 (1 : Int32) (1 : Int32) 2 st)
def RN_workOutRoot_42 : Nat → Nat → Int32 → Int32 → Int32 → rn_S → rn_S
  | 0, _, _, _, _, st => st
  | n + 1, L1, L2, L3, L4, st => (if (96 : Int32) ≤ L4 then nm (RN_markRemainder st (L3 - (96 : Int32))) (fun t172 => t172) else nm (((2 : Int32) * L4) - L2) (fun x55 => nm (RV_bitFromTop st L1 x55) (fun r66 => nm (RV_bitFromTop st L1 (x55 + (1 : Int32))) (fun r75 => nm (RW_shift st 0 (2 : Int32) (((2 : Int32) * r66) + r75)) (fun t79 => nm (RW_takeSame t79 1 2) (fun t90 => nm (RW_shift t90 1 (2 : Int32) (1 : Int32)) (fun t99 => nm (RW_reaches t99 0 1) (fun r110 => (if r110 = 0 then RN_workOutRoot_143 (RN_workOutRoot_42 n) L1 L2 L3 L4 r110 t99 else nm (RW_lessen t99 0 1) (fun t128 => nm (RE_addPower t128 (L3 - L4) (1 : Int32)) (fun t140 => RN_workOutRoot_143 (RN_workOutRoot_42 n) L1 L2 L3 L4 r110 t140)))))))))))
def RN_workOutRoot (st : rn_S) (v0 : Nat) : rn_S := nm (RV_exponent st v0) (fun r1 => nm (r1 &&& (1 : Int32)) (fun x6 => nm (RV_exponent st v0) (fun r8 => nm (((r8 + x6) / (2 : Int32)) - (1 : Int32)) (fun x17 => nm (RE_clear st) (fun t22 => nm (RW_clear t22 0) (fun t29 => nm (RW_clear t29 2) (fun t36 => RN_workOutRoot_42 (97) v0 x6 x17 (0 : Int32) t36)))))))
set_option maxHeartbeats 4000000 in
set_option maxRecDepth 100000 in
theorem c_RN_workOutRoot (l : Launch) {D : va_G} (a : Nat → Nat) (ci co : ClassId) (hi : rn_inj a) (st : rn_S) (v0 : Nat) (hv0 : v0 < 10) (t0 : rn_S) (hF : RN_workOutRoot st v0 = t0) : ct_v l ⟨"RoundedNumbers", "workOutRoot", "(LRoundedNumbers$Value;)V"⟩ (.code ⟨"RoundedNumbers", "workOutRoot", "(LRoundedNumbers$Value;)V"⟩ prog_1_method_35_code 7 none :: ct_T) { frames := 3, cells := 0, slots := 0, locals := 68 } D vwCl (rn_T ci co) (rn_g a ci co) (rn_X a) [.ref (a 0), .ref (a (8 + v0))] st t0 := by
  refine ct_v.mk (cc := prog_1_method_35_code) (maxL := 7) (by decide) rfl (Nat.le_of_ble_eq_true rfl) ?_
  intro p e s m below meth c hx hb hr hml hown hts hlk hK hN hP hS ls hl
  have hown : s.vm.findClass "RoundedNumbers" = some m.cls := hown
  have hl : lv_has ls 7 [(0, .ref (a 0)), (1, .ref (a (8 + v0)))] := hl
  have htb := fun w h => hts w (List.mem_cons_of_mem _ h)
  unfold RN_workOutRoot at hF
  refine lv_aload_n hx hb d_RN_workOutRoot_0 rfl (lv_at hl 1 rfl) ?_
  obtain ⟨r1, e1⟩ := nm_ex (RV_exponent st v0)
  replace hF := (nm_eq e1).symm.trans hF
  refine ct_calli (va_runV (As := []) (rest := []) ⟨hx, hb, hml, hown, hts⟩ (c_RV_exponent l (D := D) a ci co hi st v0 hv0 _ e1 _) (kc_RN_138 hts ⟨by decide, by decide⟩) ⟨ct_blind, rn_rc1 hK hP hv0, ct_ok hP hK hN⟩ rfl rfl hl.1 rfl (lv_room (Nat.le_of_ble_eq_true rfl)) d_RN_workOutRoot_1 ⟨Nat.zero_le _, Nat.zero_le _⟩) hS (fun H locs hP hS => ?_)
  refine lv_iconst (v := 1) hx hb d_RN_workOutRoot_4 (by decide) ?_
  refine lv_iand hx hb d_RN_workOutRoot_5 ?_
  refine lv_topi (fun x6 e6 => ?_)
  replace hF := (nm_eq e6.symm).symm.trans hF
  refine lv_istore_n (lv' := [(2, .int x6), (0, .ref (a 0)), (1, .ref (a (8 + v0)))]) hx hb d_RN_workOutRoot_6 rfl hl (by decide) rfl (fun ls hl => ?_)
  refine lv_aload_n hx hb d_RN_workOutRoot_7 rfl (lv_at hl 2 rfl) ?_
  obtain ⟨r8, e8⟩ := nm_ex (RV_exponent st v0)
  replace hF := (nm_eq e8).symm.trans hF
  refine ct_calli (va_runV (As := []) (rest := []) ⟨hx, hb, hml, hown, hts⟩ (c_RV_exponent l (D := D) a ci co hi st v0 hv0 _ e8 _) (kc_RN_138 hts ⟨by decide, by decide⟩) ⟨ct_blind, rn_rc1 hK hP hv0, ct_ok hP hK hN⟩ rfl rfl hl.1 rfl (lv_room (Nat.le_of_ble_eq_true rfl)) d_RN_workOutRoot_8 ⟨Nat.zero_le _, Nat.zero_le _⟩) hS (fun H locs hP hS => ?_)
  refine lv_iload_n hx hb d_RN_workOutRoot_11 rfl (lv_at hl 0 rfl) ?_
  refine lv_iadd hx hb d_RN_workOutRoot_12 ?_
  refine lv_iconst (v := 2) hx hb d_RN_workOutRoot_13 (by decide) ?_
  refine lv_idiv hx hb d_RN_workOutRoot_14 (by decide) ?_
  refine lv_iconst (v := 1) hx hb d_RN_workOutRoot_15 (by decide) ?_
  refine lv_isub hx hb d_RN_workOutRoot_16 ?_
  refine lv_topi (fun x17 e17 => ?_)
  replace hF := (nm_eq e17.symm).symm.trans hF
  refine lv_istore_n (lv' := [(3, .int x17), (2, .int x6), (0, .ref (a 0)), (1, .ref (a (8 + v0)))]) hx hb d_RN_workOutRoot_17 rfl hl (by decide) rfl (fun ls hl => ?_)
  refine lv_aload_n hx hb d_RN_workOutRoot_18 rfl (lv_at hl 2 rfl) ?_
  refine gf_RN_32 hx hb htb hown hK hP d_RN_workOutRoot_19 ?_
  obtain ⟨t22, e22⟩ := nm_ex (RE_clear st)
  replace hF := (nm_eq e22).symm.trans hF
  refine ct_callv (va_runV (As := []) (rest := []) ⟨hx, hb, hml, hown, hts⟩ (c_RE_clear l (D := D) a ci co hi st _ e22 _) (kc_RN_125 hts ⟨by decide, by decide⟩) ⟨ct_blind, rn_rc2 hK hP, ct_ok hP hK hN⟩ rfl rfl hl.1 rfl (lv_room (Nat.le_of_ble_eq_true rfl)) d_RN_workOutRoot_22 ⟨Nat.zero_le _, Nat.zero_le _⟩) hS (fun H locs hP hS => ?_)
  refine lv_aload_n hx hb d_RN_workOutRoot_25 rfl (lv_at hl 2 rfl) ?_
  refine gf_RN_39 hx hb htb hown hK hP d_RN_workOutRoot_26 ?_
  obtain ⟨t29, e29⟩ := nm_ex (RW_clear t22 0)
  replace hF := (nm_eq e29).symm.trans hF
  refine ct_callv (va_runV (As := []) (rest := []) ⟨hx, hb, hml, hown, hts⟩ (c_RW_clear l (D := D) a ci co hi t22 0 (by decide) _ e29 _) (kc_RN_208 hts ⟨by decide, by decide⟩) ⟨ct_blind, rn_rc3 hK hP (by decide), ct_ok hP hK hN⟩ rfl rfl hl.1 rfl (lv_room (Nat.le_of_ble_eq_true rfl)) d_RN_workOutRoot_29 ⟨Nat.zero_le _, Nat.zero_le _⟩) hS (fun H locs hP hS => ?_)
  refine lv_aload_n hx hb d_RN_workOutRoot_32 rfl (lv_at hl 2 rfl) ?_
  refine gf_RN_46 hx hb htb hown hK hP d_RN_workOutRoot_33 ?_
  obtain ⟨t36, e36⟩ := nm_ex (RW_clear t29 2)
  replace hF := (nm_eq e36).symm.trans hF
  refine ct_callv (va_runV (As := []) (rest := []) ⟨hx, hb, hml, hown, hts⟩ (c_RW_clear l (D := D) a ci co hi t29 2 (by decide) _ e36 _) (kc_RN_208 hts ⟨by decide, by decide⟩) ⟨ct_blind, rn_rc3 hK hP (by decide), ct_ok hP hK hN⟩ rfl rfl hl.1 rfl (lv_room (Nat.le_of_ble_eq_true rfl)) d_RN_workOutRoot_36 ⟨Nat.zero_le _, Nat.zero_le _⟩) hS (fun H locs hP hS => ?_)
  refine lv_iconst (v := 0) hx hb d_RN_workOutRoot_39 (by decide) ?_
  refine lv_istore (lv' := [(4, .int (0 : Int32)), (3, .int x17), (2, .int x6), (0, .ref (a 0)), (1, .ref (a (8 + v0)))]) hx hb d_RN_workOutRoot_40 hl (by decide) rfl (fun ls hl => ?_)
  refine ct_loop2 (fun n (w42L4 : Int32) (w42t : rn_S) ls H locs => lv_has ls 7 [(4, .int w42L4), (3, .int x17), (2, .int x6), (0, .ref (a 0)), (1, .ref (a (8 + v0)))] ∧ (∃ k, w42L4 = nI k ∧ k < 2147483648 ∧ 96 - k < n) ∧ RN_workOutRoot_42 n v0 x6 x17 w42L4 w42t = t0 ∧ va_P D vwCl (rn_g a ci co w42t) H ∧ va_S (ct_F (rn_X a) s.heap.size) s.heap H locs) 42 ?_ ?_ (97) (0 : Int32) t36 ⟨lv_sub hl [0, 1, 2, 3, 4] rfl, ⟨0, rfl, by omega, by omega⟩, hF, hP, hS⟩
  · intro w42L4 w42t ls H locs hq
    obtain ⟨hl, hq9, hF, hP, hS⟩ := hq
    obtain ⟨k, e9, hk, hn⟩ := hq9
    exact absurd hn (Nat.not_lt_zero _)
  · intro n42 ih42 w42L4 w42t ls H locs hq
    obtain ⟨hl, hq9, hF, hP, hS⟩ := hq
    obtain ⟨k42, e9, hk42, hn42⟩ := hq9
    subst e9
    rw [RN_workOutRoot_42] at hF
    refine lv_iload hx hb d_RN_workOutRoot_42 (lv_at hl 0 rfl) ?_
    refine lv_bipush (v := 96) hx hb d_RN_workOutRoot_44 (by decide) ?_
    refine lv_icmp_ge hx hb d_RN_workOutRoot_46 (tgt := 167) (by decide) (fun c46 => ?_) (fun c46 => ?_)
    · replace hF := (if_pos c46).symm.trans hF
      refine lv_aload_n hx hb d_RN_workOutRoot_167 rfl (lv_at hl 3 rfl) ?_
      refine lv_iload_n hx hb d_RN_workOutRoot_168 rfl (lv_at hl 1 rfl) ?_
      refine lv_bipush (v := 96) hx hb d_RN_workOutRoot_169 (by decide) ?_
      refine lv_isub hx hb d_RN_workOutRoot_171 ?_
      obtain ⟨t172, e172⟩ := nm_ex (RN_markRemainder w42t (x17 - (96 : Int32)))
      replace hF := (nm_eq e172).symm.trans hF
      refine ct_callv (va_runV (As := [.int (x17 - (96 : Int32))]) (rest := []) ⟨hx, hb, hml, hown, hts⟩ (c_RN_markRemainder l (D := D) a ci co hi w42t (x17 - (96 : Int32)) _ e172 _) (kc_RN_205 hts ⟨by decide, by decide⟩) ⟨ct_blind, rn_rc0 hK hP, ct_ok hP hK hN⟩ rfl rfl hl.1 rfl (lv_room (Nat.le_of_ble_eq_true rfl)) d_RN_workOutRoot_172 ⟨Nat.zero_le _, Nat.zero_le _⟩) hS (fun H locs hP hS => ?_)
      subst hF
      exact ct_vret hx hb hr hlk hP hS d_RN_workOutRoot_175
    · replace hF := (if_neg c46).symm.trans hF
      refine lv_iconst (v := 2) hx hb d_RN_workOutRoot_49 (by decide) ?_
      refine lv_iload hx hb d_RN_workOutRoot_50 (lv_at hl 0 rfl) ?_
      refine lv_imul hx hb d_RN_workOutRoot_52 ?_
      refine lv_iload_n hx hb d_RN_workOutRoot_53 rfl (lv_at hl 2 rfl) ?_
      refine lv_isub hx hb d_RN_workOutRoot_54 ?_
      refine lv_topi (fun x55 e55 => ?_)
      replace hF := (nm_eq e55.symm).symm.trans hF
      refine lv_istore (lv' := [(5, .int x55), (4, .int (nI k42)), (3, .int x17), (2, .int x6), (0, .ref (a 0)), (1, .ref (a (8 + v0)))]) hx hb d_RN_workOutRoot_55 hl (by decide) rfl (fun ls hl => ?_)
      refine lv_aload_n hx hb d_RN_workOutRoot_57 rfl (lv_at hl 4 rfl) ?_
      refine gf_RN_39 hx hb htb hown hK hP d_RN_workOutRoot_58 ?_
      refine lv_iconst (v := 2) hx hb d_RN_workOutRoot_61 (by decide) ?_
      refine lv_iconst (v := 2) hx hb d_RN_workOutRoot_62 (by decide) ?_
      refine lv_aload_n hx hb d_RN_workOutRoot_63 rfl (lv_at hl 5 rfl) ?_
      refine lv_iload hx hb d_RN_workOutRoot_64 (lv_at hl 0 rfl) ?_
      obtain ⟨r66, e66⟩ := nm_ex (RV_bitFromTop w42t v0 x55)
      replace hF := (nm_eq e66).symm.trans hF
      refine ct_calli (va_runV (As := [.int x55]) (rest := [.int (2 : Int32), .int (2 : Int32), .ref (a (5 + 0))]) ⟨hx, hb, hml, hown, hts⟩ (c_RV_bitFromTop l (D := D) a ci co hi w42t v0 x55 hv0 _ e66 _) (kc_RN_141 hts ⟨by decide, by decide⟩) ⟨ct_blind, rn_rc1 hK hP hv0, ct_ok hP hK hN⟩ rfl rfl hl.1 rfl (lv_room (Nat.le_of_ble_eq_true rfl)) d_RN_workOutRoot_66 ⟨Nat.zero_le _, Nat.zero_le _⟩) hS (fun H locs hP hS => ?_)
      refine lv_imul hx hb d_RN_workOutRoot_69 ?_
      refine lv_aload_n hx hb d_RN_workOutRoot_70 rfl (lv_at hl 5 rfl) ?_
      refine lv_iload hx hb d_RN_workOutRoot_71 (lv_at hl 0 rfl) ?_
      refine lv_iconst (v := 1) hx hb d_RN_workOutRoot_73 (by decide) ?_
      refine lv_iadd hx hb d_RN_workOutRoot_74 ?_
      obtain ⟨r75, e75⟩ := nm_ex (RV_bitFromTop w42t v0 (x55 + (1 : Int32)))
      replace hF := (nm_eq e75).symm.trans hF
      refine ct_calli (va_runV (As := [.int (x55 + (1 : Int32))]) (rest := [.int ((2 : Int32) * r66), .int (2 : Int32), .ref (a (5 + 0))]) ⟨hx, hb, hml, hown, hts⟩ (c_RV_bitFromTop l (D := D) a ci co hi w42t v0 (x55 + (1 : Int32)) hv0 _ e75 _) (kc_RN_141 hts ⟨by decide, by decide⟩) ⟨ct_blind, rn_rc1 hK hP hv0, ct_ok hP hK hN⟩ rfl rfl hl.1 rfl (lv_room (Nat.le_of_ble_eq_true rfl)) d_RN_workOutRoot_75 ⟨Nat.zero_le _, Nat.zero_le _⟩) hS (fun H locs hP hS => ?_)
      refine lv_iadd hx hb d_RN_workOutRoot_78 ?_
      obtain ⟨t79, e79⟩ := nm_ex (RW_shift w42t 0 (2 : Int32) (((2 : Int32) * r66) + r75))
      replace hF := (nm_eq e79).symm.trans hF
      refine ct_callv (va_runV (As := [.int (2 : Int32), .int (((2 : Int32) * r66) + r75)]) (rest := []) ⟨hx, hb, hml, hown, hts⟩ (c_RW_shift l (D := D) a ci co hi w42t 0 (2 : Int32) (((2 : Int32) * r66) + r75) (by decide) _ e79 _) (kc_RN_202 hts ⟨by decide, by decide⟩) ⟨ct_blind, rn_rc3 hK hP (by decide), ct_ok hP hK hN⟩ rfl rfl hl.1 rfl (lv_room (Nat.le_of_ble_eq_true rfl)) d_RN_workOutRoot_79 ⟨Nat.zero_le _, Nat.zero_le _⟩) hS (fun H locs hP hS => ?_)
      refine lv_aload_n hx hb d_RN_workOutRoot_82 rfl (lv_at hl 4 rfl) ?_
      refine gf_RN_43 hx hb htb hown hK hP d_RN_workOutRoot_83 ?_
      refine lv_aload_n hx hb d_RN_workOutRoot_86 rfl (lv_at hl 4 rfl) ?_
      refine gf_RN_46 hx hb htb hown hK hP d_RN_workOutRoot_87 ?_
      obtain ⟨t90, e90⟩ := nm_ex (RW_takeSame t79 1 2)
      replace hF := (nm_eq e90).symm.trans hF
      refine ct_callv (va_runV (As := [.ref (a (5 + 2))]) (rest := []) ⟨hx, hb, hml, hown, hts⟩ (c_RW_takeSame l (D := D) a ci co hi t79 1 2 (by decide) (by decide) _ e90 _) (kc_RN_209 hts ⟨by decide, by decide⟩) ⟨ct_blind, rn_rc3 hK hP (by decide), ct_ok hP hK hN⟩ rfl rfl hl.1 rfl (lv_room (Nat.le_of_ble_eq_true rfl)) d_RN_workOutRoot_90 ⟨Nat.zero_le _, Nat.zero_le _⟩) hS (fun H locs hP hS => ?_)
      refine lv_aload_n hx hb d_RN_workOutRoot_93 rfl (lv_at hl 4 rfl) ?_
      refine gf_RN_43 hx hb htb hown hK hP d_RN_workOutRoot_94 ?_
      refine lv_iconst (v := 2) hx hb d_RN_workOutRoot_97 (by decide) ?_
      refine lv_iconst (v := 1) hx hb d_RN_workOutRoot_98 (by decide) ?_
      obtain ⟨t99, e99⟩ := nm_ex (RW_shift t90 1 (2 : Int32) (1 : Int32))
      replace hF := (nm_eq e99).symm.trans hF
      refine ct_callv (va_runV (As := [.int (2 : Int32), .int (1 : Int32)]) (rest := []) ⟨hx, hb, hml, hown, hts⟩ (c_RW_shift l (D := D) a ci co hi t90 1 (2 : Int32) (1 : Int32) (by decide) _ e99 _) (kc_RN_202 hts ⟨by decide, by decide⟩) ⟨ct_blind, rn_rc3 hK hP (by decide), ct_ok hP hK hN⟩ rfl rfl hl.1 rfl (lv_room (Nat.le_of_ble_eq_true rfl)) d_RN_workOutRoot_99 ⟨Nat.zero_le _, Nat.zero_le _⟩) hS (fun H locs hP hS => ?_)
      refine lv_aload_n hx hb d_RN_workOutRoot_102 rfl (lv_at hl 4 rfl) ?_
      refine gf_RN_39 hx hb htb hown hK hP d_RN_workOutRoot_103 ?_
      refine lv_aload_n hx hb d_RN_workOutRoot_106 rfl (lv_at hl 4 rfl) ?_
      refine gf_RN_43 hx hb htb hown hK hP d_RN_workOutRoot_107 ?_
      obtain ⟨r110, e110⟩ := nm_ex (RW_reaches t99 0 1)
      replace hF := (nm_eq e110).symm.trans hF
      refine ct_calli (va_runV (As := [.ref (a (5 + 1))]) (rest := []) ⟨hx, hb, hml, hown, hts⟩ (c_RW_reaches l (D := D) a ci co hi t99 0 1 (by decide) (by decide) _ e110 _) (kc_RN_194 hts ⟨by decide, by decide⟩) ⟨ct_blind, rn_rc3 hK hP (by decide), ct_ok hP hK hN⟩ rfl rfl hl.1 rfl (lv_room (Nat.le_of_ble_eq_true rfl)) d_RN_workOutRoot_110 ⟨Nat.zero_le _, Nat.zero_le _⟩) hS (fun H locs hP hS => ?_)
      refine lv_istore (lv' := [(6, .int r110), (5, .int x55), (4, .int (nI k42)), (3, .int x17), (2, .int x6), (0, .ref (a 0)), (1, .ref (a (8 + v0)))]) hx hb d_RN_workOutRoot_113 hl (by decide) rfl (fun ls hl => ?_)
      refine lv_iload hx hb d_RN_workOutRoot_115 (lv_at hl 0 rfl) ?_
      refine ct_cut1 (fun (j143t : rn_S) ls H locs => lv_has ls 7 [(6, .int r110), (4, .int (nI k42)), (3, .int x17), (2, .int x6), (0, .ref (a 0)), (1, .ref (a (8 + v0)))] ∧ RN_workOutRoot_143 (RN_workOutRoot_42 n42) v0 x6 x17 (nI k42) r110 j143t = t0 ∧ va_P D vwCl (rn_g a ci co j143t) H ∧ va_S (ct_F (rn_X a) s.heap.size) s.heap H locs) 143 (fun j143t => []) ?_ ?_
      · intro j143t ls H locs hq
        obtain ⟨hl, hF, hP, hS⟩ := hq
        unfold RN_workOutRoot_143 at hF
        refine lv_aload_n hx hb d_RN_workOutRoot_143 rfl (lv_at hl 4 rfl) ?_
        refine gf_RN_46 hx hb htb hown hK hP d_RN_workOutRoot_144 ?_
        refine lv_iconst (v := 1) hx hb d_RN_workOutRoot_147 (by decide) ?_
        refine lv_iload hx hb d_RN_workOutRoot_148 (lv_at hl 0 rfl) ?_
        refine ct_cut1 (fun (j158s0 : Int32) ls H locs => lv_has ls 7 [(4, .int (nI k42)), (3, .int x17), (2, .int x6), (0, .ref (a 0)), (1, .ref (a (8 + v0)))] ∧ RN_workOutRoot_158 (RN_workOutRoot_42 n42) v0 x6 x17 (nI k42) j158s0 (1 : Int32) 2 j143t = t0 ∧ va_P D vwCl (rn_g a ci co j143t) H ∧ va_S (ct_F (rn_X a) s.heap.size) s.heap H locs) 158 (fun j158s0 => [.int j158s0, .int (1 : Int32), .ref (a (5 + 2))]) ?_ ?_
        · intro j158s0 ls H locs hq
          obtain ⟨hl, hF, hP, hS⟩ := hq
          unfold RN_workOutRoot_158 at hF
          obtain ⟨t158, e158⟩ := nm_ex (RW_shift j143t 2 (1 : Int32) j158s0)
          replace hF := (nm_eq e158).symm.trans hF
          refine ct_callv (va_runV (As := [.int (1 : Int32), .int j158s0]) (rest := []) ⟨hx, hb, hml, hown, hts⟩ (c_RW_shift l (D := D) a ci co hi j143t 2 (1 : Int32) j158s0 (by decide) _ e158 _) (kc_RN_202 hts ⟨by decide, by decide⟩) ⟨ct_blind, rn_rc3 hK hP (by decide), ct_ok hP hK hN⟩ rfl rfl hl.1 rfl (lv_room (Nat.le_of_ble_eq_true rfl)) d_RN_workOutRoot_158 ⟨Nat.zero_le _, Nat.zero_le _⟩) hS (fun H locs hP hS => ?_)
          obtain ⟨x161, e161⟩ := nm_ex ((nI k42) + (1 : Int32))
          replace hF := (nm_eq e161).symm.trans hF
          refine lv_iinc (v := x161) (lv' := [(4, .int x161), (3, .int x17), (2, .int x6), (0, .ref (a 0)), (1, .ref (a (8 + v0)))]) hx hb d_RN_workOutRoot_161 hl (k := 0) rfl e161 (by decide) rfl (fun ls hl => ?_)
          refine lv_goto hx hb d_RN_workOutRoot_164 (tgt := 42) (by decide) ?_
          have hk9 : k42 < 96 := nk_lt hk42 rfl (by decide) c46
          exact ih42 x161 t158 _ _ _ ⟨lv_sub hl [0, 1, 2, 3, 4] rfl, ⟨k42 + 1, e161.symm.trans (nI_1 k42), by omega, by omega⟩, hF, hP, hS⟩
        · intro kj158
          refine lv_if_eq hx hb d_RN_workOutRoot_150 (tgt := 157) (by decide) (fun c150 => ?_) (fun c150 => ?_)
          · replace hF := (if_pos c150).symm.trans hF
            refine lv_iconst (v := 0) hx hb d_RN_workOutRoot_157 (by decide) ?_
            exact kj158 (0 : Int32) _ _ _ ⟨lv_sub hl [1, 2, 3, 4, 5] rfl, hF, hP, hS⟩
          · replace hF := (if_neg c150).symm.trans hF
            refine lv_iconst (v := 1) hx hb d_RN_workOutRoot_153 (by decide) ?_
            refine lv_goto hx hb d_RN_workOutRoot_154 (tgt := 158) (by decide) ?_
            exact kj158 (1 : Int32) _ _ _ ⟨lv_sub hl [1, 2, 3, 4, 5] rfl, hF, hP, hS⟩
      · intro kj143
        refine lv_if_eq hx hb d_RN_workOutRoot_117 (tgt := 143) (by decide) (fun c117 => ?_) (fun c117 => ?_)
        · replace hF := (if_pos c117).symm.trans hF
          exact kj143 t99 _ _ _ ⟨lv_sub hl [0, 2, 3, 4, 5, 6] rfl, hF, hP, hS⟩
        · replace hF := (if_neg c117).symm.trans hF
          refine lv_aload_n hx hb d_RN_workOutRoot_120 rfl (lv_at hl 5 rfl) ?_
          refine gf_RN_39 hx hb htb hown hK hP d_RN_workOutRoot_121 ?_
          refine lv_aload_n hx hb d_RN_workOutRoot_124 rfl (lv_at hl 5 rfl) ?_
          refine gf_RN_43 hx hb htb hown hK hP d_RN_workOutRoot_125 ?_
          obtain ⟨t128, e128⟩ := nm_ex (RW_lessen t99 0 1)
          replace hF := (nm_eq e128).symm.trans hF
          refine ct_callv (va_runV (As := [.ref (a (5 + 1))]) (rest := []) ⟨hx, hb, hml, hown, hts⟩ (c_RW_lessen l (D := D) a ci co hi t99 0 1 (by decide) (by decide) _ e128 _) (kc_RN_198 hts ⟨by decide, by decide⟩) ⟨ct_blind, rn_rc3 hK hP (by decide), ct_ok hP hK hN⟩ rfl rfl hl.1 rfl (lv_room (Nat.le_of_ble_eq_true rfl)) d_RN_workOutRoot_128 ⟨Nat.zero_le _, Nat.zero_le _⟩) hS (fun H locs hP hS => ?_)
          refine lv_aload_n hx hb d_RN_workOutRoot_131 rfl (lv_at hl 5 rfl) ?_
          refine gf_RN_32 hx hb htb hown hK hP d_RN_workOutRoot_132 ?_
          refine lv_iload_n hx hb d_RN_workOutRoot_135 rfl (lv_at hl 3 rfl) ?_
          refine lv_iload hx hb d_RN_workOutRoot_136 (lv_at hl 2 rfl) ?_
          refine lv_isub hx hb d_RN_workOutRoot_138 ?_
          refine lv_iconst (v := 1) hx hb d_RN_workOutRoot_139 (by decide) ?_
          obtain ⟨t140, e140⟩ := nm_ex (RE_addPower t128 (x17 - (nI k42)) (1 : Int32))
          replace hF := (nm_eq e140).symm.trans hF
          refine ct_callv (va_runV (As := [.int (x17 - (nI k42)), .int (1 : Int32)]) (rest := []) ⟨hx, hb, hml, hown, hts⟩ (c_RE_addPower l (D := D) a ci co hi t128 (x17 - (nI k42)) (1 : Int32) _ e140 _) (kc_RN_188 hts ⟨by decide, by decide⟩) ⟨ct_blind, rn_rc2 hK hP, ct_ok hP hK hN⟩ rfl rfl hl.1 rfl (lv_room (Nat.le_of_ble_eq_true rfl)) d_RN_workOutRoot_140 ⟨Nat.zero_le _, Nat.zero_le _⟩) hS (fun H locs hP hS => ?_)
          exact kj143 t140 _ _ _ ⟨lv_sub hl [0, 2, 3, 4, 5, 6] rfl, hF, hP, hS⟩
theorem d_RN_isRegular_0 : decode prog_1_method_21_code 0 = .ok (.iload_n 1, 1) := by decide +kernel
theorem d_RN_isRegular_1 : decode prog_1_method_21_code 1 = .ok (.invokestatic 64, 3) := by decide +kernel
theorem d_RN_isRegular_4 : decode prog_1_method_21_code 4 = .ok (.ifCond .eq 20, 3) := by decide +kernel
theorem d_RN_isRegular_7 : decode prog_1_method_21_code 7 = .ok (.aload_n 0, 1) := by decide +kernel
theorem d_RN_isRegular_8 : decode prog_1_method_21_code 8 = .ok (.getfield 15, 3) := by decide +kernel
theorem d_RN_isRegular_11 : decode prog_1_method_21_code 11 = .ok (.iload_n 1, 1) := by decide +kernel
theorem d_RN_isRegular_12 : decode prog_1_method_21_code 12 = .ok (.aaload, 1) := by decide +kernel
theorem d_RN_isRegular_13 : decode prog_1_method_21_code 13 = .ok (.getfield 96, 3) := by decide +kernel
theorem d_RN_isRegular_16 : decode prog_1_method_21_code 16 = .ok (.iconst 3, 1) := by decide +kernel
theorem d_RN_isRegular_17 : decode prog_1_method_21_code 17 = .ok (.if_icmp .ne 7, 3) := by decide +kernel
theorem d_RN_isRegular_20 : decode prog_1_method_21_code 20 = .ok (.iconst 1, 1) := by decide +kernel
theorem d_RN_isRegular_21 : decode prog_1_method_21_code 21 = .ok (.goto 4, 3) := by decide +kernel
theorem d_RN_isRegular_24 : decode prog_1_method_21_code 24 = .ok (.iconst 0, 1) := by decide +kernel
theorem d_RN_isRegular_25 : decode prog_1_method_21_code 25 = .ok (.ireturn, 1) := by decide +kernel
def RN_isRegular (st : rn_S) (p0 : Int32) : Int32 := nm (RN_isRegister p0) (fun r1 => (if r1 = 0 then (0 : Int32) else (if (rn_kd st p0.toNatClampNeg) = (3 : Int32) then (1 : Int32) else (0 : Int32))))
set_option maxHeartbeats 4000000 in
set_option maxRecDepth 100000 in
theorem c_RN_isRegular (l : Launch) {D : va_G} (a : Nat → Nat) (ci co : ClassId) (hi : rn_inj a) (st : rn_S) (p0 : Int32) (r0 : Int32) (hF : RN_isRegular st p0 = r0) : ct_i l ⟨"RoundedNumbers", "isRegular", "(I)Z"⟩ (.code ⟨"RoundedNumbers", "isRegular", "(I)Z"⟩ prog_1_method_21_code 2 (some .boolean) :: ct_T) { frames := 1, cells := 0, slots := 0, locals := 20 } D vwCl (rn_T ci co) (rn_g a ci co) (rn_X a) [.ref (a 0), .int p0] st r0 st := by
  refine ct_i.mk (cc := prog_1_method_21_code) (maxL := 2) (by decide) rfl (Nat.le_of_ble_eq_true rfl) ?_
  intro p e s m below meth c hx hb hr hml hown hts hlk hK hN hP hS ls hl
  have hown : s.vm.findClass "RoundedNumbers" = some m.cls := hown
  have hl : lv_has ls 2 [(0, .ref (a 0)), (1, .int p0)] := hl
  have htb := fun w h => hts w (List.mem_cons_of_mem _ h)
  unfold RN_isRegular at hF
  refine lv_iload_n hx hb d_RN_isRegular_0 rfl (lv_at hl 1 rfl) ?_
  obtain ⟨r1, e1⟩ := nm_ex (RN_isRegister p0)
  replace hF := (nm_eq e1).symm.trans hF
  refine ct_calli (va_runS (As := [.int p0]) (rest := []) ⟨hx, hb, hml, hown, hts⟩ (c_RN_isRegister l (D := D) a ci co hi st p0 _ e1 _) (kc_RN_64 hts ⟨by decide, by decide⟩) ⟨ct_blind, ct_ok hP hK hN⟩ rfl rfl hl.1 rfl (lv_room (Nat.le_of_ble_eq_true rfl)) d_RN_isRegular_1 ⟨Nat.zero_le _, Nat.zero_le _⟩) hS (fun H locs hP hS => ?_)
  refine lv_if_eq hx hb d_RN_isRegular_4 (tgt := 24) (by decide) (fun c4 => ?_) (fun c4 => ?_)
  · replace hF := (if_pos c4).symm.trans hF
    refine lv_iconst (v := 0) hx hb d_RN_isRegular_24 (by decide) ?_
    subst hF
    exact ct_zret hx hb hr hlk (by decide) hP hS d_RN_isRegular_25
  · replace hF := (if_neg c4).symm.trans hF
    refine lv_aload_n hx hb d_RN_isRegular_7 rfl (lv_at hl 0 rfl) ?_
    refine gf_RN_15 hx hb htb hown hK hP d_RN_isRegular_8 ?_
    refine lv_iload_n hx hb d_RN_isRegular_11 rfl (lv_at hl 1 rfl) ?_
    refine rn_ald_regs hx hb hK hP (rg_in e1 c4) d_RN_isRegular_12 ?_
    refine gf_RN_96 hx hb htb hown hK hP (i := p0.toNatClampNeg) (rn_lt10 (rg_in e1 c4)) d_RN_isRegular_13 ?_
    refine lv_iconst (v := 3) hx hb d_RN_isRegular_16 (by decide) ?_
    refine lv_icmp_ne hx hb d_RN_isRegular_17 (tgt := 24) (by decide) (fun c17 => ?_) (fun c17 => ?_)
    · replace hF := (if_neg c17).symm.trans hF
      refine lv_iconst (v := 0) hx hb d_RN_isRegular_24 (by decide) ?_
      subst hF
      exact ct_zret hx hb hr hlk (by decide) hP hS d_RN_isRegular_25
    · replace hF := (if_pos c17).symm.trans hF
      refine lv_iconst (v := 1) hx hb d_RN_isRegular_20 (by decide) ?_
      refine lv_goto hx hb d_RN_isRegular_21 (tgt := 25) (by decide) ?_
      subst hF
      exact ct_zret hx hb hr hlk (by decide) hP hS d_RN_isRegular_25
theorem rr_in {st : rn_S} {x r : Int32} (e : RN_isRegular st x = r) (h : ¬ r = 0) : vp_in x 8 := by
  unfold RN_isRegular at e
  obtain ⟨z, ez⟩ := nm_ex (RN_isRegister x)
  replace e := (nm_eq ez).symm.trans e
  by_cases h1 : z = 0
  · rw [if_pos h1] at e
    exact absurd e.symm h
  · exact rg_in ez h1
