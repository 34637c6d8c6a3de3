theorem d_RW_take_0 : decode prog_4_method_3_code 0 = .ok (.aload_n 0, 1) := by decide +kernel
theorem d_RW_take_1 : decode prog_4_method_3_code 1 = .ok (.aload_n 1, 1) := by decide +kernel
theorem d_RW_take_2 : decode prog_4_method_3_code 2 = .ok (.getfield 18, 3) := by decide +kernel
theorem d_RW_take_5 : decode prog_4_method_3_code 5 = .ok (.iconst 2, 1) := by decide +kernel
theorem d_RW_take_6 : decode prog_4_method_3_code 6 = .ok (.iaload, 1) := by decide +kernel
theorem d_RW_take_7 : decode prog_4_method_3_code 7 = .ok (.i2l, 1) := by decide +kernel
theorem d_RW_take_8 : decode prog_4_method_3_code 8 = .ok (.putfield 11, 3) := by decide +kernel
theorem d_RW_take_11 : decode prog_4_method_3_code 11 = .ok (.aload_n 0, 1) := by decide +kernel
theorem d_RW_take_12 : decode prog_4_method_3_code 12 = .ok (.aload_n 1, 1) := by decide +kernel
theorem d_RW_take_13 : decode prog_4_method_3_code 13 = .ok (.getfield 18, 3) := by decide +kernel
theorem d_RW_take_16 : decode prog_4_method_3_code 16 = .ok (.iconst 1, 1) := by decide +kernel
theorem d_RW_take_17 : decode prog_4_method_3_code 17 = .ok (.iaload, 1) := by decide +kernel
theorem d_RW_take_18 : decode prog_4_method_3_code 18 = .ok (.i2l, 1) := by decide +kernel
theorem d_RW_take_19 : decode prog_4_method_3_code 19 = .ok (.bipush 31, 2) := by decide +kernel
theorem d_RW_take_21 : decode prog_4_method_3_code 21 = .ok (.lshl, 1) := by decide +kernel
theorem d_RW_take_22 : decode prog_4_method_3_code 22 = .ok (.aload_n 1, 1) := by decide +kernel
theorem d_RW_take_23 : decode prog_4_method_3_code 23 = .ok (.getfield 18, 3) := by decide +kernel
theorem d_RW_take_26 : decode prog_4_method_3_code 26 = .ok (.iconst 0, 1) := by decide +kernel
theorem d_RW_take_27 : decode prog_4_method_3_code 27 = .ok (.iaload, 1) := by decide +kernel
theorem d_RW_take_28 : decode prog_4_method_3_code 28 = .ok (.i2l, 1) := by decide +kernel
theorem d_RW_take_29 : decode prog_4_method_3_code 29 = .ok (.lor, 1) := by decide +kernel
theorem d_RW_take_30 : decode prog_4_method_3_code 30 = .ok (.putfield 15, 3) := by decide +kernel
theorem d_RW_take_33 : decode prog_4_method_3_code 33 = .ok (.return_, 1) := by decide +kernel
def RW_take (st : rn_S) (w : Nat) (v0 : Nat) : rn_S := nm (rn_whs st w ((rn_lb st v0 (2 : Int32).toNatClampNeg).toInt64)) (fun t8 => nm (rn_wls t8 w (((rn_lb t8 v0 (1 : Int32).toNatClampNeg).toInt64 <<< ((31 : Int32).toInt64 &&& 63)) ||| (rn_lb t8 v0 (0 : Int32).toNatClampNeg).toInt64)) (fun t30 => t30))
set_option maxHeartbeats 4000000 in
set_option maxRecDepth 100000 in
theorem c_RW_take (l : Launch) {D : va_G} (a : Nat → Nat) (ci co : ClassId) (hi : rn_inj a) (st : rn_S) (w : Nat) (v0 : Nat) (hw : w < 3) (hv0 : v0 < 10) (t0 : rn_S) (hF : RW_take st w v0 = t0) : ct_v l ⟨"RoundedNumbers$Wide", "take", "(LRoundedNumbers$Value;)V"⟩ (.code ⟨"RoundedNumbers$Wide", "take", "(LRoundedNumbers$Value;)V"⟩ prog_4_method_3_code 2 none :: ct_T) { frames := 0, cells := 0, slots := 0, locals := 0 } D vwCl (rn_T ci co) (rn_g a ci co) (rn_X a) [.ref (a (5 + w)), .ref (a (8 + v0))] st t0 := by
  refine ct_v.mk (cc := prog_4_method_3_code) (maxL := 2) (by decide) rfl (Nat.le_of_ble_eq_true rfl) ?_
  intro p e s m below meth c hx hb hr hml hown hts hlk hK hN hP hS ls hl
  have hown : s.vm.findClass "RoundedNumbers$Wide" = some m.cls := hown
  have hl : lv_has ls 2 [(0, .ref (a (5 + w))), (1, .ref (a (8 + v0)))] := hl
  have htb := fun w h => hts w (List.mem_cons_of_mem _ h)
  unfold RW_take at hF
  refine lv_aload_n hx hb d_RW_take_0 rfl (lv_at hl 0 rfl) ?_
  refine lv_aload_n hx hb d_RW_take_1 rfl (lv_at hl 1 rfl) ?_
  refine gf_RW_18 hx hb htb hown hK hP (i := v0) hv0 d_RW_take_2 ?_
  refine lv_iconst (v := 2) hx hb d_RW_take_5 (by decide) ?_
  refine rn_ald_limbs hx hb hK hP (i := v0) hv0 (nk_i3 (k := 2) (by decide)) d_RW_take_6 ?_
  refine lv_i2l hx hb d_RW_take_7 rfl ?_
  refine pf_RW_11 hx hb htb hown hK hP hS hi (i := w) hw d_RW_take_8 (fun H locs hP hS => ?_)
  obtain ⟨t8, e8, hP⟩ := nm_st hP
  replace hF := (nm_eq e8).symm.trans hF
  refine lv_aload_n hx hb d_RW_take_11 rfl (lv_at hl 0 rfl) ?_
  refine lv_aload_n hx hb d_RW_take_12 rfl (lv_at hl 1 rfl) ?_
  refine gf_RW_18 hx hb htb hown hK hP (i := v0) hv0 d_RW_take_13 ?_
  refine lv_iconst (v := 1) hx hb d_RW_take_16 (by decide) ?_
  refine rn_ald_limbs hx hb hK hP (i := v0) hv0 (nk_i3 (k := 1) (by decide)) d_RW_take_17 ?_
  refine lv_i2l hx hb d_RW_take_18 rfl ?_
  refine lv_bipush (v := 31) hx hb d_RW_take_19 (by decide) ?_
  refine lv_lshl hx hb d_RW_take_21 rfl ?_
  refine lv_aload_n hx hb d_RW_take_22 rfl (lv_at hl 1 rfl) ?_
  refine gf_RW_18 hx hb htb hown hK hP (i := v0) hv0 d_RW_take_23 ?_
  refine lv_iconst (v := 0) hx hb d_RW_take_26 (by decide) ?_
  refine rn_ald_limbs hx hb hK hP (i := v0) hv0 (nk_i3 (k := 0) (by decide)) d_RW_take_27 ?_
  refine lv_i2l hx hb d_RW_take_28 rfl ?_
  refine lv_lor hx hb d_RW_take_29 ?_
  refine pf_RW_15 hx hb htb hown hK hP hS hi (i := w) hw d_RW_take_30 (fun H locs hP hS => ?_)
  obtain ⟨t30, e30, hP⟩ := nm_st hP
  replace hF := (nm_eq e30).symm.trans hF
  subst hF
  exact ct_vret hx hb hr hlk hP hS d_RW_take_33
theorem d_RW_reaches_0 : decode prog_4_method_6_code 0 = .ok (.aload_n 0, 1) := by decide +kernel
theorem d_RW_reaches_1 : decode prog_4_method_6_code 1 = .ok (.getfield 11, 3) := by decide +kernel
theorem d_RW_reaches_4 : decode prog_4_method_6_code 4 = .ok (.aload_n 1, 1) := by decide +kernel
theorem d_RW_reaches_5 : decode prog_4_method_6_code 5 = .ok (.getfield 11, 3) := by decide +kernel
theorem d_RW_reaches_8 : decode prog_4_method_6_code 8 = .ok (.lcmp, 1) := by decide +kernel
theorem d_RW_reaches_9 : decode prog_4_method_6_code 9 = .ok (.ifCond .gt 27, 3) := by decide +kernel
theorem d_RW_reaches_12 : decode prog_4_method_6_code 12 = .ok (.aload_n 0, 1) := by decide +kernel
theorem d_RW_reaches_13 : decode prog_4_method_6_code 13 = .ok (.getfield 11, 3) := by decide +kernel
theorem d_RW_reaches_16 : decode prog_4_method_6_code 16 = .ok (.aload_n 1, 1) := by decide +kernel
theorem d_RW_reaches_17 : decode prog_4_method_6_code 17 = .ok (.getfield 11, 3) := by decide +kernel
theorem d_RW_reaches_20 : decode prog_4_method_6_code 20 = .ok (.lcmp, 1) := by decide +kernel
theorem d_RW_reaches_21 : decode prog_4_method_6_code 21 = .ok (.ifCond .ne 19, 3) := by decide +kernel
theorem d_RW_reaches_24 : decode prog_4_method_6_code 24 = .ok (.aload_n 0, 1) := by decide +kernel
theorem d_RW_reaches_25 : decode prog_4_method_6_code 25 = .ok (.getfield 15, 3) := by decide +kernel
theorem d_RW_reaches_28 : decode prog_4_method_6_code 28 = .ok (.aload_n 1, 1) := by decide +kernel
theorem d_RW_reaches_29 : decode prog_4_method_6_code 29 = .ok (.getfield 15, 3) := by decide +kernel
theorem d_RW_reaches_32 : decode prog_4_method_6_code 32 = .ok (.lcmp, 1) := by decide +kernel
theorem d_RW_reaches_33 : decode prog_4_method_6_code 33 = .ok (.ifCond .lt 7, 3) := by decide +kernel
theorem d_RW_reaches_36 : decode prog_4_method_6_code 36 = .ok (.iconst 1, 1) := by decide +kernel
theorem d_RW_reaches_37 : decode prog_4_method_6_code 37 = .ok (.goto 4, 3) := by decide +kernel
theorem d_RW_reaches_40 : decode prog_4_method_6_code 40 = .ok (.iconst 0, 1) := by decide +kernel
theorem d_RW_reaches_41 : decode prog_4_method_6_code 41 = .ok (.ireturn, 1) := by decide +kernel
def RW_reaches_36 (st : rn_S) : Int32 := (1 : Int32)
def RW_reaches (st : rn_S) (w : Nat) (v0 : Nat) : Int32 := (if 0 < (lg_cmp (rn_wh st w) (rn_wh st v0)) then RW_reaches_36 st else (if (lg_cmp (rn_wh st w) (rn_wh st v0)) = 0 then (if (lg_cmp (rn_wl st w) (rn_wl st v0)) < 0 then (0 : Int32) else RW_reaches_36 st) else (0 : Int32)))
set_option maxHeartbeats 4000000 in
set_option maxRecDepth 100000 in
theorem c_RW_reaches (l : Launch) {D : va_G} (a : Nat → Nat) (ci co : ClassId) (hi : rn_inj a) (st : rn_S) (w : Nat) (v0 : Nat) (hw : w < 3) (hv0 : v0 < 3) (r0 : Int32) (hF : RW_reaches st w v0 = r0) : ct_i l ⟨"RoundedNumbers$Wide", "reaches", "(LRoundedNumbers$Wide;)Z"⟩ (.code ⟨"RoundedNumbers$Wide", "reaches", "(LRoundedNumbers$Wide;)Z"⟩ prog_4_method_6_code 2 (some .boolean) :: ct_T) { frames := 0, cells := 0, slots := 0, locals := 0 } D vwCl (rn_T ci co) (rn_g a ci co) (rn_X a) [.ref (a (5 + w)), .ref (a (5 + v0))] st r0 st := by
  refine ct_i.mk (cc := prog_4_method_6_code) (maxL := 2) (by decide) rfl (Nat.le_of_ble_eq_true rfl) ?_
  intro p e s m below meth c hx hb hr hml hown hts hlk hK hN hP hS ls hl
  have hown : s.vm.findClass "RoundedNumbers$Wide" = some m.cls := hown
  have hl : lv_has ls 2 [(0, .ref (a (5 + w))), (1, .ref (a (5 + v0)))] := hl
  have htb := fun w h => hts w (List.mem_cons_of_mem _ h)
  unfold RW_reaches at hF
  refine lv_aload_n hx hb d_RW_reaches_0 rfl (lv_at hl 0 rfl) ?_
  refine gf_RW_11 hx hb htb hown hK hP (i := w) hw d_RW_reaches_1 ?_
  refine lv_aload_n hx hb d_RW_reaches_4 rfl (lv_at hl 1 rfl) ?_
  refine gf_RW_11 hx hb htb hown hK hP (i := v0) hv0 d_RW_reaches_5 ?_
  refine W.lcmp hx hb d_RW_reaches_8 ?_
  refine ct_cut0 (fun  ls H locs => lv_has ls 2 [] ∧ RW_reaches_36 st = r0 ∧ va_P D vwCl (rn_g a ci co st) H ∧ va_S (ct_F (rn_X a) s.heap.size) s.heap H locs) 36 [] ?_ ?_
  · intro ls H locs hq
    obtain ⟨hl, hF, hP, hS⟩ := hq
    unfold RW_reaches_36 at hF
    refine lv_iconst (v := 1) hx hb d_RW_reaches_36 (by decide) ?_
    refine lv_goto hx hb d_RW_reaches_37 (tgt := 41) (by decide) ?_
    subst hF
    exact ct_zret hx hb hr hlk (by decide) hP hS d_RW_reaches_41
  · intro kj36
    refine lv_if_gt hx hb d_RW_reaches_9 (tgt := 36) (by decide) (fun c9 => ?_) (fun c9 => ?_)
    · replace hF := (if_pos c9).symm.trans hF
      exact kj36 _ _ _ ⟨lv_sub hl [] rfl, hF, hP, hS⟩
    · replace hF := (if_neg c9).symm.trans hF
      refine lv_aload_n hx hb d_RW_reaches_12 rfl (lv_at hl 0 rfl) ?_
      refine gf_RW_11 hx hb htb hown hK hP (i := w) hw d_RW_reaches_13 ?_
      refine lv_aload_n hx hb d_RW_reaches_16 rfl (lv_at hl 1 rfl) ?_
      refine gf_RW_11 hx hb htb hown hK hP (i := v0) hv0 d_RW_reaches_17 ?_
      refine W.lcmp hx hb d_RW_reaches_20 ?_
      refine lv_if_ne hx hb d_RW_reaches_21 (tgt := 40) (by decide) (fun c21 => ?_) (fun c21 => ?_)
      · replace hF := (if_neg c21).symm.trans hF
        refine lv_iconst (v := 0) hx hb d_RW_reaches_40 (by decide) ?_
        subst hF
        exact ct_zret hx hb hr hlk (by decide) hP hS d_RW_reaches_41
      · replace hF := (if_pos c21).symm.trans hF
        refine lv_aload_n hx hb d_RW_reaches_24 rfl (lv_at hl 0 rfl) ?_
        refine gf_RW_15 hx hb htb hown hK hP (i := w) hw d_RW_reaches_25 ?_
        refine lv_aload_n hx hb d_RW_reaches_28 rfl (lv_at hl 1 rfl) ?_
        refine gf_RW_15 hx hb htb hown hK hP (i := v0) hv0 d_RW_reaches_29 ?_
        refine W.lcmp hx hb d_RW_reaches_32 ?_
        refine lv_if_lt hx hb d_RW_reaches_33 (tgt := 40) (by decide) (fun c33 => ?_) (fun c33 => ?_)
        · replace hF := (if_pos c33).symm.trans hF
          refine lv_iconst (v := 0) hx hb d_RW_reaches_40 (by decide) ?_
          subst hF
          exact ct_zret hx hb hr hlk (by decide) hP hS d_RW_reaches_41
        · replace hF := (if_neg c33).symm.trans hF
          exact kj36 _ _ _ ⟨lv_sub hl [] rfl, hF, hP, hS⟩
theorem d_RW_lessen_0 : decode prog_4_method_7_code 0 = .ok (.aload_n 0, 1) := by decide +kernel
theorem d_RW_lessen_1 : decode prog_4_method_7_code 1 = .ok (.dup, 1) := by decide +kernel
theorem d_RW_lessen_2 : decode prog_4_method_7_code 2 = .ok (.getfield 11, 3) := by decide +kernel
theorem d_RW_lessen_5 : decode prog_4_method_7_code 5 = .ok (.aload_n 1, 1) := by decide +kernel
theorem d_RW_lessen_6 : decode prog_4_method_7_code 6 = .ok (.getfield 11, 3) := by decide +kernel
theorem d_RW_lessen_9 : decode prog_4_method_7_code 9 = .ok (.lsub, 1) := by decide +kernel
theorem d_RW_lessen_10 : decode prog_4_method_7_code 10 = .ok (.putfield 11, 3) := by decide +kernel
theorem d_RW_lessen_13 : decode prog_4_method_7_code 13 = .ok (.aload_n 0, 1) := by decide +kernel
theorem d_RW_lessen_14 : decode prog_4_method_7_code 14 = .ok (.dup, 1) := by decide +kernel
theorem d_RW_lessen_15 : decode prog_4_method_7_code 15 = .ok (.getfield 15, 3) := by decide +kernel
theorem d_RW_lessen_18 : decode prog_4_method_7_code 18 = .ok (.aload_n 1, 1) := by decide +kernel
theorem d_RW_lessen_19 : decode prog_4_method_7_code 19 = .ok (.getfield 15, 3) := by decide +kernel
theorem d_RW_lessen_22 : decode prog_4_method_7_code 22 = .ok (.lsub, 1) := by decide +kernel
theorem d_RW_lessen_23 : decode prog_4_method_7_code 23 = .ok (.putfield 15, 3) := by decide +kernel
theorem d_RW_lessen_26 : decode prog_4_method_7_code 26 = .ok (.aload_n 0, 1) := by decide +kernel
theorem d_RW_lessen_27 : decode prog_4_method_7_code 27 = .ok (.getfield 15, 3) := by decide +kernel
theorem d_RW_lessen_30 : decode prog_4_method_7_code 30 = .ok (.lconst 0, 1) := by decide +kernel
theorem d_RW_lessen_31 : decode prog_4_method_7_code 31 = .ok (.lcmp, 1) := by decide +kernel
theorem d_RW_lessen_32 : decode prog_4_method_7_code 32 = .ok (.ifCond .ge 25, 3) := by decide +kernel
theorem d_RW_lessen_35 : decode prog_4_method_7_code 35 = .ok (.aload_n 0, 1) := by decide +kernel
theorem d_RW_lessen_36 : decode prog_4_method_7_code 36 = .ok (.dup, 1) := by decide +kernel
theorem d_RW_lessen_37 : decode prog_4_method_7_code 37 = .ok (.getfield 15, 3) := by decide +kernel
theorem d_RW_lessen_40 : decode prog_4_method_7_code 40 = .ok (.ldc2_w 26, 3) := by decide +kernel
theorem d_RW_lessen_43 : decode prog_4_method_7_code 43 = .ok (.ladd, 1) := by decide +kernel
theorem d_RW_lessen_44 : decode prog_4_method_7_code 44 = .ok (.putfield 15, 3) := by decide +kernel
theorem d_RW_lessen_47 : decode prog_4_method_7_code 47 = .ok (.aload_n 0, 1) := by decide +kernel
theorem d_RW_lessen_48 : decode prog_4_method_7_code 48 = .ok (.dup, 1) := by decide +kernel
theorem d_RW_lessen_49 : decode prog_4_method_7_code 49 = .ok (.getfield 11, 3) := by decide +kernel
theorem d_RW_lessen_52 : decode prog_4_method_7_code 52 = .ok (.lconst 1, 1) := by decide +kernel
theorem d_RW_lessen_53 : decode prog_4_method_7_code 53 = .ok (.lsub, 1) := by decide +kernel
theorem d_RW_lessen_54 : decode prog_4_method_7_code 54 = .ok (.putfield 11, 3) := by decide +kernel
theorem d_RW_lessen_57 : decode prog_4_method_7_code 57 = .ok (.return_, 1) := by decide +kernel
def RW_lessen (st : rn_S) (w : Nat) (v0 : Nat) : rn_S := nm (rn_whs st w ((rn_wh st w) - (rn_wh st v0))) (fun t10 => nm (rn_wls t10 w ((rn_wl t10 w) - (rn_wl t10 v0))) (fun t23 => (if 0 ≤ (lg_cmp (rn_wl t23 w) (0 : Int64)) then t23 else nm (rn_wls t23 w ((rn_wl t23 w) + (4611686018427387904 : Int64))) (fun t44 => nm (rn_whs t44 w ((rn_wh t44 w) - (1 : Int64))) (fun t54 => t54)))))
set_option maxHeartbeats 4000000 in
set_option maxRecDepth 100000 in
theorem c_RW_lessen (l : Launch) {D : va_G} (a : Nat → Nat) (ci co : ClassId) (hi : rn_inj a) (st : rn_S) (w : Nat) (v0 : Nat) (hw : w < 3) (hv0 : v0 < 3) (t0 : rn_S) (hF : RW_lessen st w v0 = t0) : ct_v l ⟨"RoundedNumbers$Wide", "lessen", "(LRoundedNumbers$Wide;)V"⟩ (.code ⟨"RoundedNumbers$Wide", "lessen", "(LRoundedNumbers$Wide;)V"⟩ prog_4_method_7_code 2 none :: ct_T) { frames := 0, cells := 0, slots := 0, locals := 0 } D vwCl (rn_T ci co) (rn_g a ci co) (rn_X a) [.ref (a (5 + w)), .ref (a (5 + v0))] st t0 := by
  refine ct_v.mk (cc := prog_4_method_7_code) (maxL := 2) (by decide) rfl (Nat.le_of_ble_eq_true rfl) ?_
  intro p e s m below meth c hx hb hr hml hown hts hlk hK hN hP hS ls hl
  have hown : s.vm.findClass "RoundedNumbers$Wide" = some m.cls := hown
  have hl : lv_has ls 2 [(0, .ref (a (5 + w))), (1, .ref (a (5 + v0)))] := hl
  have htb := fun w h => hts w (List.mem_cons_of_mem _ h)
  unfold RW_lessen at hF
  refine lv_aload_n hx hb d_RW_lessen_0 rfl (lv_at hl 0 rfl) ?_
  refine lv_dup hx hb d_RW_lessen_1 rfl ?_
  refine gf_RW_11 hx hb htb hown hK hP (i := w) hw d_RW_lessen_2 ?_
  refine lv_aload_n hx hb d_RW_lessen_5 rfl (lv_at hl 1 rfl) ?_
  refine gf_RW_11 hx hb htb hown hK hP (i := v0) hv0 d_RW_lessen_6 ?_
  refine lv_lsub hx hb d_RW_lessen_9 ?_
  refine pf_RW_11 hx hb htb hown hK hP hS hi (i := w) hw d_RW_lessen_10 (fun H locs hP hS => ?_)
  obtain ⟨t10, e10, hP⟩ := nm_st hP
  replace hF := (nm_eq e10).symm.trans hF
  refine lv_aload_n hx hb d_RW_lessen_13 rfl (lv_at hl 0 rfl) ?_
  refine lv_dup hx hb d_RW_lessen_14 rfl ?_
  refine gf_RW_15 hx hb htb hown hK hP (i := w) hw d_RW_lessen_15 ?_
  refine lv_aload_n hx hb d_RW_lessen_18 rfl (lv_at hl 1 rfl) ?_
  refine gf_RW_15 hx hb htb hown hK hP (i := v0) hv0 d_RW_lessen_19 ?_
  refine lv_lsub hx hb d_RW_lessen_22 ?_
  refine pf_RW_15 hx hb htb hown hK hP hS hi (i := w) hw d_RW_lessen_23 (fun H locs hP hS => ?_)
  obtain ⟨t23, e23, hP⟩ := nm_st hP
  replace hF := (nm_eq e23).symm.trans hF
  refine lv_aload_n hx hb d_RW_lessen_26 rfl (lv_at hl 0 rfl) ?_
  refine gf_RW_15 hx hb htb hown hK hP (i := w) hw d_RW_lessen_27 ?_
  refine lv_lconst (v := 0) hx hb d_RW_lessen_30 (by decide) ?_
  refine W.lcmp hx hb d_RW_lessen_31 ?_
  refine lv_if_ge hx hb d_RW_lessen_32 (tgt := 57) (by decide) (fun c32 => ?_) (fun c32 => ?_)
  · replace hF := (if_pos c32).symm.trans hF
    subst hF
    exact ct_vret hx hb hr hlk hP hS d_RW_lessen_57
  · replace hF := (if_neg c32).symm.trans hF
    refine lv_aload_n hx hb d_RW_lessen_35 rfl (lv_at hl 0 rfl) ?_
    refine lv_dup hx hb d_RW_lessen_36 rfl ?_
    refine gf_RW_15 hx hb htb hown hK hP (i := w) hw d_RW_lessen_37 ?_
    refine lv_ldc2 (v := 4611686018427387904) hx hb hown (htb _ mw_154) d_RW_lessen_40 ?_
    refine lv_ladd hx hb d_RW_lessen_43 ?_
    refine pf_RW_15 hx hb htb hown hK hP hS hi (i := w) hw d_RW_lessen_44 (fun H locs hP hS => ?_)
    obtain ⟨t44, e44, hP⟩ := nm_st hP
    replace hF := (nm_eq e44).symm.trans hF
    refine lv_aload_n hx hb d_RW_lessen_47 rfl (lv_at hl 0 rfl) ?_
    refine lv_dup hx hb d_RW_lessen_48 rfl ?_
    refine gf_RW_11 hx hb htb hown hK hP (i := w) hw d_RW_lessen_49 ?_
    refine lv_lconst (v := 1) hx hb d_RW_lessen_52 (by decide) ?_
    refine lv_lsub hx hb d_RW_lessen_53 ?_
    refine pf_RW_11 hx hb htb hown hK hP hS hi (i := w) hw d_RW_lessen_54 (fun H locs hP hS => ?_)
    obtain ⟨t54, e54, hP⟩ := nm_st hP
    replace hF := (nm_eq e54).symm.trans hF
    subst hF
    exact ct_vret hx hb hr hlk hP hS d_RW_lessen_57
theorem d_RW_shift_0 : decode prog_4_method_5_code 0 = .ok (.aload_n 0, 1) := by decide +kernel
theorem d_RW_shift_1 : decode prog_4_method_5_code 1 = .ok (.aload_n 0, 1) := by decide +kernel
theorem d_RW_shift_2 : decode prog_4_method_5_code 2 = .ok (.getfield 11, 3) := by decide +kernel
theorem d_RW_shift_5 : decode prog_4_method_5_code 5 = .ok (.iload_n 1, 1) := by decide +kernel
theorem d_RW_shift_6 : decode prog_4_method_5_code 6 = .ok (.lshl, 1) := by decide +kernel
theorem d_RW_shift_7 : decode prog_4_method_5_code 7 = .ok (.aload_n 0, 1) := by decide +kernel
theorem d_RW_shift_8 : decode prog_4_method_5_code 8 = .ok (.getfield 15, 3) := by decide +kernel
theorem d_RW_shift_11 : decode prog_4_method_5_code 11 = .ok (.bipush 62, 2) := by decide +kernel
theorem d_RW_shift_13 : decode prog_4_method_5_code 13 = .ok (.iload_n 1, 1) := by decide +kernel
theorem d_RW_shift_14 : decode prog_4_method_5_code 14 = .ok (.isub, 1) := by decide +kernel
theorem d_RW_shift_15 : decode prog_4_method_5_code 15 = .ok (.lshr, 1) := by decide +kernel
theorem d_RW_shift_16 : decode prog_4_method_5_code 16 = .ok (.lor, 1) := by decide +kernel
theorem d_RW_shift_17 : decode prog_4_method_5_code 17 = .ok (.putfield 11, 3) := by decide +kernel
theorem d_RW_shift_20 : decode prog_4_method_5_code 20 = .ok (.aload_n 0, 1) := by decide +kernel
theorem d_RW_shift_21 : decode prog_4_method_5_code 21 = .ok (.aload_n 0, 1) := by decide +kernel
theorem d_RW_shift_22 : decode prog_4_method_5_code 22 = .ok (.getfield 15, 3) := by decide +kernel
theorem d_RW_shift_25 : decode prog_4_method_5_code 25 = .ok (.iload_n 1, 1) := by decide +kernel
theorem d_RW_shift_26 : decode prog_4_method_5_code 26 = .ok (.lshl, 1) := by decide +kernel
theorem d_RW_shift_27 : decode prog_4_method_5_code 27 = .ok (.ldc2_w 24, 3) := by decide +kernel
theorem d_RW_shift_30 : decode prog_4_method_5_code 30 = .ok (.land, 1) := by decide +kernel
theorem d_RW_shift_31 : decode prog_4_method_5_code 31 = .ok (.iload_n 2, 1) := by decide +kernel
theorem d_RW_shift_32 : decode prog_4_method_5_code 32 = .ok (.i2l, 1) := by decide +kernel
theorem d_RW_shift_33 : decode prog_4_method_5_code 33 = .ok (.lor, 1) := by decide +kernel
theorem d_RW_shift_34 : decode prog_4_method_5_code 34 = .ok (.putfield 15, 3) := by decide +kernel
theorem d_RW_shift_37 : decode prog_4_method_5_code 37 = .ok (.return_, 1) := by decide +kernel
def RW_shift (st : rn_S) (w : Nat) (p0 : Int32) (p1 : Int32) : rn_S := nm (rn_whs st w (((rn_wh st w) <<< (p0.toInt64 &&& 63)) ||| ((rn_wl st w) >>> (((62 : Int32) - p0).toInt64 &&& 63)))) (fun t17 => nm (rn_wls t17 w ((((rn_wl t17 w) <<< (p0.toInt64 &&& 63)) &&& (4611686018427387903 : Int64)) ||| p1.toInt64)) (fun t34 => t34))
set_option maxHeartbeats 4000000 in
set_option maxRecDepth 100000 in
theorem c_RW_shift (l : Launch) {D : va_G} (a : Nat → Nat) (ci co : ClassId) (hi : rn_inj a) (st : rn_S) (w : Nat) (p0 : Int32) (p1 : Int32) (hw : w < 3) (t0 : rn_S) (hF : RW_shift st w p0 p1 = t0) : ct_v l ⟨"RoundedNumbers$Wide", "shift", "(II)V"⟩ (.code ⟨"RoundedNumbers$Wide", "shift", "(II)V"⟩ prog_4_method_5_code 3 none :: ct_T) { frames := 0, cells := 0, slots := 0, locals := 0 } D vwCl (rn_T ci co) (rn_g a ci co) (rn_X a) [.ref (a (5 + w)), .int p0, .int p1] st t0 := by
  refine ct_v.mk (cc := prog_4_method_5_code) (maxL := 3) (by decide) rfl (Nat.le_of_ble_eq_true rfl) ?_
  intro p e s m below meth c hx hb hr hml hown hts hlk hK hN hP hS ls hl
  have hown : s.vm.findClass "RoundedNumbers$Wide" = some m.cls := hown
  have hl : lv_has ls 3 [(0, .ref (a (5 + w))), (1, .int p0), (2, .int p1)] := hl
  have htb := fun w h => hts w (List.mem_cons_of_mem _ h)
  unfold RW_shift at hF
  refine lv_aload_n hx hb d_RW_shift_0 rfl (lv_at hl 0 rfl) ?_
  refine lv_aload_n hx hb d_RW_shift_1 rfl (lv_at hl 0 rfl) ?_
  refine gf_RW_11 hx hb htb hown hK hP (i := w) hw d_RW_shift_2 ?_
  refine lv_iload_n hx hb d_RW_shift_5 rfl (lv_at hl 1 rfl) ?_
  refine lv_lshl hx hb d_RW_shift_6 rfl ?_
  refine lv_aload_n hx hb d_RW_shift_7 rfl (lv_at hl 0 rfl) ?_
  refine gf_RW_15 hx hb htb hown hK hP (i := w) hw d_RW_shift_8 ?_
  refine lv_bipush (v := 62) hx hb d_RW_shift_11 (by decide) ?_
  refine lv_iload_n hx hb d_RW_shift_13 rfl (lv_at hl 1 rfl) ?_
  refine lv_isub hx hb d_RW_shift_14 ?_
  refine lv_lshr hx hb d_RW_shift_15 rfl ?_
  refine lv_lor hx hb d_RW_shift_16 ?_
  refine pf_RW_11 hx hb htb hown hK hP hS hi (i := w) hw d_RW_shift_17 (fun H locs hP hS => ?_)
  obtain ⟨t17, e17, hP⟩ := nm_st hP
  replace hF := (nm_eq e17).symm.trans hF
  refine lv_aload_n hx hb d_RW_shift_20 rfl (lv_at hl 0 rfl) ?_
  refine lv_aload_n hx hb d_RW_shift_21 rfl (lv_at hl 0 rfl) ?_
  refine gf_RW_15 hx hb htb hown hK hP (i := w) hw d_RW_shift_22 ?_
  refine lv_iload_n hx hb d_RW_shift_25 rfl (lv_at hl 1 rfl) ?_
  refine lv_lshl hx hb d_RW_shift_26 rfl ?_
  refine lv_ldc2 (v := 4611686018427387903) hx hb hown (htb _ mw_155) d_RW_shift_27 ?_
  refine lv_land hx hb d_RW_shift_30 ?_
  refine lv_iload_n hx hb d_RW_shift_31 rfl (lv_at hl 2 rfl) ?_
  refine lv_i2l hx hb d_RW_shift_32 rfl ?_
  refine lv_lor hx hb d_RW_shift_33 ?_
  refine pf_RW_15 hx hb htb hown hK hP hS hi (i := w) hw d_RW_shift_34 (fun H locs hP hS => ?_)
  obtain ⟨t34, e34, hP⟩ := nm_st hP
  replace hF := (nm_eq e34).symm.trans hF
  subst hF
  exact ct_vret hx hb hr hlk hP hS d_RW_shift_37
theorem d_RW_isNothing_0 : decode prog_4_method_8_code 0 = .ok (.aload_n 0, 1) := by decide +kernel
theorem d_RW_isNothing_1 : decode prog_4_method_8_code 1 = .ok (.getfield 11, 3) := by decide +kernel
theorem d_RW_isNothing_4 : decode prog_4_method_8_code 4 = .ok (.lconst 0, 1) := by decide +kernel
theorem d_RW_isNothing_5 : decode prog_4_method_8_code 5 = .ok (.lcmp, 1) := by decide +kernel
theorem d_RW_isNothing_6 : decode prog_4_method_8_code 6 = .ok (.ifCond .ne 16, 3) := by decide +kernel
theorem d_RW_isNothing_9 : decode prog_4_method_8_code 9 = .ok (.aload_n 0, 1) := by decide +kernel
theorem d_RW_isNothing_10 : decode prog_4_method_8_code 10 = .ok (.getfield 15, 3) := by decide +kernel
theorem d_RW_isNothing_13 : decode prog_4_method_8_code 13 = .ok (.lconst 0, 1) := by decide +kernel
theorem d_RW_isNothing_14 : decode prog_4_method_8_code 14 = .ok (.lcmp, 1) := by decide +kernel
theorem d_RW_isNothing_15 : decode prog_4_method_8_code 15 = .ok (.ifCond .ne 7, 3) := by decide +kernel
theorem d_RW_isNothing_18 : decode prog_4_method_8_code 18 = .ok (.iconst 1, 1) := by decide +kernel
theorem d_RW_isNothing_19 : decode prog_4_method_8_code 19 = .ok (.goto 4, 3) := by decide +kernel
theorem d_RW_isNothing_22 : decode prog_4_method_8_code 22 = .ok (.iconst 0, 1) := by decide +kernel
theorem d_RW_isNothing_23 : decode prog_4_method_8_code 23 = .ok (.ireturn, 1) := by decide +kernel
def RW_isNothing (st : rn_S) (w : Nat) : Int32 := (if (lg_cmp (rn_wh st w) (0 : Int64)) = 0 then (if (lg_cmp (rn_wl st w) (0 : Int64)) = 0 then (1 : Int32) else (0 : Int32)) else (0 : Int32))
set_option maxHeartbeats 4000000 in
set_option maxRecDepth 100000 in
theorem c_RW_isNothing (l : Launch) {D : va_G} (a : Nat → Nat) (ci co : ClassId) (hi : rn_inj a) (st : rn_S) (w : Nat) (hw : w < 3) (r0 : Int32) (hF : RW_isNothing st w = r0) : ct_i l ⟨"RoundedNumbers$Wide", "isNothing", "()Z"⟩ (.code ⟨"RoundedNumbers$Wide", "isNothing", "()Z"⟩ prog_4_method_8_code 1 (some .boolean) :: ct_T) { frames := 0, cells := 0, slots := 0, locals := 0 } D vwCl (rn_T ci co) (rn_g a ci co) (rn_X a) [.ref (a (5 + w))] st r0 st := by
  refine ct_i.mk (cc := prog_4_method_8_code) (maxL := 1) (by decide) rfl (Nat.le_of_ble_eq_true rfl) ?_
  intro p e s m below meth c hx hb hr hml hown hts hlk hK hN hP hS ls hl
  have hown : s.vm.findClass "RoundedNumbers$Wide" = some m.cls := hown
  have hl : lv_has ls 1 [(0, .ref (a (5 + w)))] := hl
  have htb := fun w h => hts w (List.mem_cons_of_mem _ h)
  unfold RW_isNothing at hF
  refine lv_aload_n hx hb d_RW_isNothing_0 rfl (lv_at hl 0 rfl) ?_
  refine gf_RW_11 hx hb htb hown hK hP (i := w) hw d_RW_isNothing_1 ?_
  refine lv_lconst (v := 0) hx hb d_RW_isNothing_4 (by decide) ?_
  refine W.lcmp hx hb d_RW_isNothing_5 ?_
  refine lv_if_ne hx hb d_RW_isNothing_6 (tgt := 22) (by decide) (fun c6 => ?_) (fun c6 => ?_)
  · replace hF := (if_neg c6).symm.trans hF
    refine lv_iconst (v := 0) hx hb d_RW_isNothing_22 (by decide) ?_
    subst hF
    exact ct_zret hx hb hr hlk (by decide) hP hS d_RW_isNothing_23
  · replace hF := (if_pos c6).symm.trans hF
    refine lv_aload_n hx hb d_RW_isNothing_9 rfl (lv_at hl 0 rfl) ?_
    refine gf_RW_15 hx hb htb hown hK hP (i := w) hw d_RW_isNothing_10 ?_
    refine lv_lconst (v := 0) hx hb d_RW_isNothing_13 (by decide) ?_
    refine W.lcmp hx hb d_RW_isNothing_14 ?_
    refine lv_if_ne hx hb d_RW_isNothing_15 (tgt := 22) (by decide) (fun c15 => ?_) (fun c15 => ?_)
    · replace hF := (if_neg c15).symm.trans hF
      refine lv_iconst (v := 0) hx hb d_RW_isNothing_22 (by decide) ?_
      subst hF
      exact ct_zret hx hb hr hlk (by decide) hP hS d_RW_isNothing_23
    · replace hF := (if_pos c15).symm.trans hF
      refine lv_iconst (v := 1) hx hb d_RW_isNothing_18 (by decide) ?_
      refine lv_goto hx hb d_RW_isNothing_19 (tgt := 23) (by decide) ?_
      subst hF
      exact ct_zret hx hb hr hlk (by decide) hP hS d_RW_isNothing_23
theorem d_RW_clear_0 : decode prog_4_method_2_code 0 = .ok (.aload_n 0, 1) := by decide +kernel
theorem d_RW_clear_1 : decode prog_4_method_2_code 1 = .ok (.lconst 0, 1) := by decide +kernel
theorem d_RW_clear_2 : decode prog_4_method_2_code 2 = .ok (.putfield 11, 3) := by decide +kernel
theorem d_RW_clear_5 : decode prog_4_method_2_code 5 = .ok (.aload_n 0, 1) := by decide +kernel
theorem d_RW_clear_6 : decode prog_4_method_2_code 6 = .ok (.lconst 0, 1) := by decide +kernel
theorem d_RW_clear_7 : decode prog_4_method_2_code 7 = .ok (.putfield 15, 3) := by decide +kernel
theorem d_RW_clear_10 : decode prog_4_method_2_code 10 = .ok (.return_, 1) := by decide +kernel
def RW_clear (st : rn_S) (w : Nat) : rn_S := nm (rn_whs st w (0 : Int64)) (fun t2 => nm (rn_wls t2 w (0 : Int64)) (fun t7 => t7))
set_option maxHeartbeats 4000000 in
set_option maxRecDepth 100000 in
theorem c_RW_clear (l : Launch) {D : va_G} (a : Nat → Nat) (ci co : ClassId) (hi : rn_inj a) (st : rn_S) (w : Nat) (hw : w < 3) (t0 : rn_S) (hF : RW_clear st w = t0) : ct_v l ⟨"RoundedNumbers$Wide", "clear", "()V"⟩ (.code ⟨"RoundedNumbers$Wide", "clear", "()V"⟩ prog_4_method_2_code 1 none :: ct_T) { frames := 0, cells := 0, slots := 0, locals := 0 } D vwCl (rn_T ci co) (rn_g a ci co) (rn_X a) [.ref (a (5 + w))] st t0 := by
  refine ct_v.mk (cc := prog_4_method_2_code) (maxL := 1) (by decide) rfl (Nat.le_of_ble_eq_true rfl) ?_
  intro p e s m below meth c hx hb hr hml hown hts hlk hK hN hP hS ls hl
  have hown : s.vm.findClass "RoundedNumbers$Wide" = some m.cls := hown
  have hl : lv_has ls 1 [(0, .ref (a (5 + w)))] := hl
  have htb := fun w h => hts w (List.mem_cons_of_mem _ h)
  unfold RW_clear at hF
  refine lv_aload_n hx hb d_RW_clear_0 rfl (lv_at hl 0 rfl) ?_
  refine lv_lconst (v := 0) hx hb d_RW_clear_1 (by decide) ?_
  refine pf_RW_11 hx hb htb hown hK hP hS hi (i := w) hw d_RW_clear_2 (fun H locs hP hS => ?_)
  obtain ⟨t2, e2, hP⟩ := nm_st hP
  replace hF := (nm_eq e2).symm.trans hF
  refine lv_aload_n hx hb d_RW_clear_5 rfl (lv_at hl 0 rfl) ?_
  refine lv_lconst (v := 0) hx hb d_RW_clear_6 (by decide) ?_
  refine pf_RW_15 hx hb htb hown hK hP hS hi (i := w) hw d_RW_clear_7 (fun H locs hP hS => ?_)
  obtain ⟨t7, e7, hP⟩ := nm_st hP
  replace hF := (nm_eq e7).symm.trans hF
  subst hF
  exact ct_vret hx hb hr hlk hP hS d_RW_clear_10
theorem d_RW_takeSame_0 : decode prog_4_method_4_code 0 = .ok (.aload_n 0, 1) := by decide +kernel
theorem d_RW_takeSame_1 : decode prog_4_method_4_code 1 = .ok (.aload_n 1, 1) := by decide +kernel
theorem d_RW_takeSame_2 : decode prog_4_method_4_code 2 = .ok (.getfield 11, 3) := by decide +kernel
theorem d_RW_takeSame_5 : decode prog_4_method_4_code 5 = .ok (.putfield 11, 3) := by decide +kernel
theorem d_RW_takeSame_8 : decode prog_4_method_4_code 8 = .ok (.aload_n 0, 1) := by decide +kernel
theorem d_RW_takeSame_9 : decode prog_4_method_4_code 9 = .ok (.aload_n 1, 1) := by decide +kernel
theorem d_RW_takeSame_10 : decode prog_4_method_4_code 10 = .ok (.getfield 15, 3) := by decide +kernel
theorem d_RW_takeSame_13 : decode prog_4_method_4_code 13 = .ok (.putfield 15, 3) := by decide +kernel
theorem d_RW_takeSame_16 : decode prog_4_method_4_code 16 = .ok (.return_, 1) := by decide +kernel
def RW_takeSame (st : rn_S) (w : Nat) (v0 : Nat) : rn_S := nm (rn_whs st w (rn_wh st v0)) (fun t5 => nm (rn_wls t5 w (rn_wl t5 v0)) (fun t13 => t13))
set_option maxHeartbeats 4000000 in
set_option maxRecDepth 100000 in
theorem c_RW_takeSame (l : Launch) {D : va_G} (a : Nat → Nat) (ci co : ClassId) (hi : rn_inj a) (st : rn_S) (w : Nat) (v0 : Nat) (hw : w < 3) (hv0 : v0 < 3) (t0 : rn_S) (hF : RW_takeSame st w v0 = t0) : ct_v l ⟨"RoundedNumbers$Wide", "takeSame", "(LRoundedNumbers$Wide;)V"⟩ (.code ⟨"RoundedNumbers$Wide", "takeSame", "(LRoundedNumbers$Wide;)V"⟩ prog_4_method_4_code 2 none :: ct_T) { frames := 0, cells := 0, slots := 0, locals := 0 } D vwCl (rn_T ci co) (rn_g a ci co) (rn_X a) [.ref (a (5 + w)), .ref (a (5 + v0))] st t0 := by
  refine ct_v.mk (cc := prog_4_method_4_code) (maxL := 2) (by decide) rfl (Nat.le_of_ble_eq_true rfl) ?_
  intro p e s m below meth c hx hb hr hml hown hts hlk hK hN hP hS ls hl
  have hown : s.vm.findClass "RoundedNumbers$Wide" = some m.cls := hown
  have hl : lv_has ls 2 [(0, .ref (a (5 + w))), (1, .ref (a (5 + v0)))] := hl
  have htb := fun w h => hts w (List.mem_cons_of_mem _ h)
  unfold RW_takeSame at hF
  refine lv_aload_n hx hb d_RW_takeSame_0 rfl (lv_at hl 0 rfl) ?_
  refine lv_aload_n hx hb d_RW_takeSame_1 rfl (lv_at hl 1 rfl) ?_
  refine gf_RW_11 hx hb htb hown hK hP (i := v0) hv0 d_RW_takeSame_2 ?_
  refine pf_RW_11 hx hb htb hown hK hP hS hi (i := w) hw d_RW_takeSame_5 (fun H locs hP hS => ?_)
  obtain ⟨t5, e5, hP⟩ := nm_st hP
  replace hF := (nm_eq e5).symm.trans hF
  refine lv_aload_n hx hb d_RW_takeSame_8 rfl (lv_at hl 0 rfl) ?_
  refine lv_aload_n hx hb d_RW_takeSame_9 rfl (lv_at hl 1 rfl) ?_
  refine gf_RW_15 hx hb htb hown hK hP (i := v0) hv0 d_RW_takeSame_10 ?_
  refine pf_RW_15 hx hb htb hown hK hP hS hi (i := w) hw d_RW_takeSame_13 (fun H locs hP hS => ?_)
  obtain ⟨t13, e13, hP⟩ := nm_st hP
  replace hF := (nm_eq e13).symm.trans hF
  subst hF
  exact ct_vret hx hb hr hlk hP hS d_RW_takeSame_16
