theorem d_RV_become_0 : decode prog_3_method_2_code 0 = .ok (.aload_n 0, 1) := by decide +kernel
theorem d_RV_become_1 : decode prog_3_method_2_code 1 = .ok (.iload_n 1, 1) := by decide +kernel
theorem d_RV_become_2 : decode prog_3_method_2_code 2 = .ok (.putfield 15, 3) := by decide +kernel
theorem d_RV_become_5 : decode prog_3_method_2_code 5 = .ok (.aload_n 0, 1) := by decide +kernel
theorem d_RV_become_6 : decode prog_3_method_2_code 6 = .ok (.iload_n 2, 1) := by decide +kernel
theorem d_RV_become_7 : decode prog_3_method_2_code 7 = .ok (.putfield 19, 3) := by decide +kernel
theorem d_RV_become_10 : decode prog_3_method_2_code 10 = .ok (.return_, 1) := by decide +kernel
def RV_become (st : rn_S) (v : Nat) (p0 : Int32) (p1 : Int32) : rn_S := nm (rn_kds st v p0) (fun t2 => nm (rn_sgs t2 v p1) (fun t7 => t7))
set_option maxHeartbeats 4000000 in
set_option maxRecDepth 100000 in
theorem c_RV_become (l : Launch) {D : va_G} (a : Nat → Nat) (ci co : ClassId) (hi : rn_inj a) (st : rn_S) (v : Nat) (p0 : Int32) (p1 : Int32) (hv : v < 10) (t0 : rn_S) (hF : RV_become st v p0 p1 = t0) : ct_v l ⟨"RoundedNumbers$Value", "become", "(II)V"⟩ (.code ⟨"RoundedNumbers$Value", "become", "(II)V"⟩ prog_3_method_2_code 3 none :: ct_T) { frames := 0, cells := 0, slots := 0, locals := 0 } D vwCl (rn_T ci co) (rn_g a ci co) (rn_X a) [.ref (a (8 + v)), .int p0, .int p1] st t0 := by
  refine ct_v.mk (cc := prog_3_method_2_code) (maxL := 3) (by decide) rfl (Nat.le_of_ble_eq_true rfl) ?_
  intro p e s m below meth c hx hb hr hml hown hts hlk hK hN hP hS ls hl
  have hown : s.vm.findClass "RoundedNumbers$Value" = some m.cls := hown
  have hl : lv_has ls 3 [(0, .ref (a (8 + v))), (1, .int p0), (2, .int p1)] := hl
  have htb := fun w h => hts w (List.mem_cons_of_mem _ h)
  unfold RV_become at hF
  refine lv_aload_n hx hb d_RV_become_0 rfl (lv_at hl 0 rfl) ?_
  refine lv_iload_n hx hb d_RV_become_1 rfl (lv_at hl 1 rfl) ?_
  refine pf_RV_15 hx hb htb hown hK hP hS hi (i := v) hv d_RV_become_2 (fun H locs hP hS => ?_)
  obtain ⟨t2, e2, hP⟩ := nm_st hP
  replace hF := (nm_eq e2).symm.trans hF
  refine lv_aload_n hx hb d_RV_become_5 rfl (lv_at hl 0 rfl) ?_
  refine lv_iload_n hx hb d_RV_become_6 rfl (lv_at hl 2 rfl) ?_
  refine pf_RV_19 hx hb htb hown hK hP hS hi (i := v) hv d_RV_become_7 (fun H locs hP hS => ?_)
  obtain ⟨t7, e7, hP⟩ := nm_st hP
  replace hF := (nm_eq e7).symm.trans hF
  subst hF
  exact ct_vret hx hb hr hlk hP hS d_RV_become_10
theorem d_RV_takeScaled_0 : decode prog_3_method_3_code 0 = .ok (.aload_n 0, 1) := by decide +kernel
theorem d_RV_takeScaled_1 : decode prog_3_method_3_code 1 = .ok (.lload_n 1, 1) := by decide +kernel
theorem d_RV_takeScaled_2 : decode prog_3_method_3_code 2 = .ok (.lconst 0, 1) := by decide +kernel
theorem d_RV_takeScaled_3 : decode prog_3_method_3_code 3 = .ok (.lcmp, 1) := by decide +kernel
theorem d_RV_takeScaled_4 : decode prog_3_method_3_code 4 = .ok (.ifCond .ne 7, 3) := by decide +kernel
theorem d_RV_takeScaled_7 : decode prog_3_method_3_code 7 = .ok (.iconst 2, 1) := by decide +kernel
theorem d_RV_takeScaled_8 : decode prog_3_method_3_code 8 = .ok (.goto 4, 3) := by decide +kernel
theorem d_RV_takeScaled_11 : decode prog_3_method_3_code 11 = .ok (.iconst 3, 1) := by decide +kernel
theorem d_RV_takeScaled_12 : decode prog_3_method_3_code 12 = .ok (.lload_n 1, 1) := by decide +kernel
theorem d_RV_takeScaled_13 : decode prog_3_method_3_code 13 = .ok (.lconst 0, 1) := by decide +kernel
theorem d_RV_takeScaled_14 : decode prog_3_method_3_code 14 = .ok (.lcmp, 1) := by decide +kernel
theorem d_RV_takeScaled_15 : decode prog_3_method_3_code 15 = .ok (.ifCond .ge 7, 3) := by decide +kernel
theorem d_RV_takeScaled_18 : decode prog_3_method_3_code 18 = .ok (.iconst (-1), 1) := by decide +kernel
theorem d_RV_takeScaled_19 : decode prog_3_method_3_code 19 = .ok (.goto 4, 3) := by decide +kernel
theorem d_RV_takeScaled_22 : decode prog_3_method_3_code 22 = .ok (.iconst 1, 1) := by decide +kernel
theorem d_RV_takeScaled_23 : decode prog_3_method_3_code 23 = .ok (.invokevirtual 22, 3) := by decide +kernel
theorem d_RV_takeScaled_26 : decode prog_3_method_3_code 26 = .ok (.lload_n 1, 1) := by decide +kernel
theorem d_RV_takeScaled_27 : decode prog_3_method_3_code 27 = .ok (.lconst 0, 1) := by decide +kernel
theorem d_RV_takeScaled_28 : decode prog_3_method_3_code 28 = .ok (.lcmp, 1) := by decide +kernel
theorem d_RV_takeScaled_29 : decode prog_3_method_3_code 29 = .ok (.ifCond .ge 8, 3) := by decide +kernel
theorem d_RV_takeScaled_32 : decode prog_3_method_3_code 32 = .ok (.lload_n 1, 1) := by decide +kernel
theorem d_RV_takeScaled_33 : decode prog_3_method_3_code 33 = .ok (.lneg, 1) := by decide +kernel
theorem d_RV_takeScaled_34 : decode prog_3_method_3_code 34 = .ok (.goto 4, 3) := by decide +kernel
theorem d_RV_takeScaled_37 : decode prog_3_method_3_code 37 = .ok (.lload_n 1, 1) := by decide +kernel
theorem d_RV_takeScaled_38 : decode prog_3_method_3_code 38 = .ok (.lstore 4, 2) := by decide +kernel
theorem d_RV_takeScaled_40 : decode prog_3_method_3_code 40 = .ok (.iconst 0, 1) := by decide +kernel
theorem d_RV_takeScaled_41 : decode prog_3_method_3_code 41 = .ok (.istore 6, 2) := by decide +kernel
theorem d_RV_takeScaled_43 : decode prog_3_method_3_code 43 = .ok (.iload 6, 2) := by decide +kernel
theorem d_RV_takeScaled_45 : decode prog_3_method_3_code 45 = .ok (.iconst 3, 1) := by decide +kernel
theorem d_RV_takeScaled_46 : decode prog_3_method_3_code 46 = .ok (.if_icmp .ge 28, 3) := by decide +kernel
theorem d_RV_takeScaled_49 : decode prog_3_method_3_code 49 = .ok (.aload_n 0, 1) := by decide +kernel
theorem d_RV_takeScaled_50 : decode prog_3_method_3_code 50 = .ok (.getfield 9, 3) := by decide +kernel
theorem d_RV_takeScaled_53 : decode prog_3_method_3_code 53 = .ok (.iload 6, 2) := by decide +kernel
theorem d_RV_takeScaled_55 : decode prog_3_method_3_code 55 = .ok (.lload 4, 2) := by decide +kernel
theorem d_RV_takeScaled_57 : decode prog_3_method_3_code 57 = .ok (.iload 6, 2) := by decide +kernel
theorem d_RV_takeScaled_59 : decode prog_3_method_3_code 59 = .ok (.bipush 31, 2) := by decide +kernel
theorem d_RV_takeScaled_61 : decode prog_3_method_3_code 61 = .ok (.imul, 1) := by decide +kernel
theorem d_RV_takeScaled_62 : decode prog_3_method_3_code 62 = .ok (.lushr, 1) := by decide +kernel
theorem d_RV_takeScaled_63 : decode prog_3_method_3_code 63 = .ok (.l2i, 1) := by decide +kernel
theorem d_RV_takeScaled_64 : decode prog_3_method_3_code 64 = .ok (.ldc 26, 2) := by decide +kernel
theorem d_RV_takeScaled_66 : decode prog_3_method_3_code 66 = .ok (.iand, 1) := by decide +kernel
theorem d_RV_takeScaled_67 : decode prog_3_method_3_code 67 = .ok (.iastore, 1) := by decide +kernel
theorem d_RV_takeScaled_68 : decode prog_3_method_3_code 68 = .ok (.iinc 6 1, 3) := by decide +kernel
theorem d_RV_takeScaled_71 : decode prog_3_method_3_code 71 = .ok (.goto (-28), 3) := by decide +kernel
theorem d_RV_takeScaled_74 : decode prog_3_method_3_code 74 = .ok (.aload_n 0, 1) := by decide +kernel
theorem d_RV_takeScaled_75 : decode prog_3_method_3_code 75 = .ok (.iload_n 3, 1) := by decide +kernel
theorem d_RV_takeScaled_76 : decode prog_3_method_3_code 76 = .ok (.putfield 27, 3) := by decide +kernel
theorem d_RV_takeScaled_79 : decode prog_3_method_3_code 79 = .ok (.return_, 1) := by decide +kernel
def RV_takeScaled_43 : Nat → Nat → Int32 → Int64 → Int32 → rn_S → rn_S
  | 0, _, _, _, _, st => st
  | n + 1, L0, L3, L4, L6, st => (if (3 : Int32) ≤ L6 then nm (rn_lws st L0 L3) (fun t76 => t76) else nm (rn_lbs st L0 L6.toNatClampNeg (((L4.toUInt64 >>> ((L6 * (31 : Int32)).toInt64.toUInt64 &&& Int64.toUInt64 63)).toInt64).toInt32 &&& (2147483647 : Int32))) (fun t67 => nm (L6 + (1 : Int32)) (fun x68 => (RV_takeScaled_43 n) L0 L3 L4 x68 t67)))
def RV_takeScaled_38 (L0 : Nat) (L3 : Int32) (s0 : Int64) (st : rn_S) : rn_S := RV_takeScaled_43 (4) L0 L3 s0 (0 : Int32) st
def RV_takeScaled_23 (L0 : Nat) (L1 : Int64) (L3 : Int32) (s0 : Int32) (s1 : Int32) (s2 : Nat) (st : rn_S) : rn_S := nm (RV_become st s2 s1 s0) (fun t23 => (if 0 ≤ (lg_cmp L1 (0 : Int64)) then RV_takeScaled_38 L0 L3 L1 t23 else RV_takeScaled_38 L0 L3 (-L1) t23))
def RV_takeScaled_12 (L0 : Nat) (L1 : Int64) (L3 : Int32) (s0 : Int32) (s1 : Nat) (st : rn_S) : rn_S := (if 0 ≤ (lg_cmp L1 (0 : Int64)) then RV_takeScaled_23 L0 L1 L3 (1 : Int32) s0 s1 st else RV_takeScaled_23 L0 L1 L3 (-1 : Int32) s0 s1 st)
def RV_takeScaled (st : rn_S) (v : Nat) (p0 : Int64) (p1 : Int32) : rn_S := (if (lg_cmp p0 (0 : Int64)) = 0 then RV_takeScaled_12 v p0 p1 (2 : Int32) v st else RV_takeScaled_12 v p0 p1 (3 : Int32) v st)
set_option maxHeartbeats 4000000 in
set_option maxRecDepth 100000 in
theorem c_RV_takeScaled (l : Launch) {D : va_G} (a : Nat → Nat) (ci co : ClassId) (hi : rn_inj a) (st : rn_S) (v : Nat) (p0 : Int64) (p1 : Int32) (hv : v < 10) (t0 : rn_S) (hF : RV_takeScaled st v p0 p1 = t0) : ct_v l ⟨"RoundedNumbers$Value", "takeScaled", "(JI)V"⟩ (.code ⟨"RoundedNumbers$Value", "takeScaled", "(JI)V"⟩ prog_3_method_3_code 7 none :: ct_T) { frames := 1, cells := 0, slots := 0, locals := 22 } D vwCl (rn_T ci co) (rn_g a ci co) (rn_X a) [.ref (a (8 + v)), .long p0, .int p1] st t0 := by
  refine ct_v.mk (cc := prog_3_method_3_code) (maxL := 7) (by decide) rfl (Nat.le_of_ble_eq_true rfl) ?_
  intro p e s m below meth c hx hb hr hml hown hts hlk hK hN hP hS ls hl
  have hown : s.vm.findClass "RoundedNumbers$Value" = some m.cls := hown
  have hl : lv_has ls 7 [(0, .ref (a (8 + v))), (1, .long p0), (3, .int p1)] := hl
  have htb := fun w h => hts w (List.mem_cons_of_mem _ h)
  unfold RV_takeScaled at hF
  refine lv_aload_n hx hb d_RV_takeScaled_0 rfl (lv_at hl 0 rfl) ?_
  refine lv_lload_n hx hb d_RV_takeScaled_1 rfl (lv_at hl 1 rfl) ?_
  refine lv_lconst (v := 0) hx hb d_RV_takeScaled_2 (by decide) ?_
  refine W.lcmp hx hb d_RV_takeScaled_3 ?_
  refine ct_cut1 (fun (j12s0 : Int32) ls H locs => lv_has ls 7 [(0, .ref (a (8 + v))), (1, .long p0), (3, .int p1)] ∧ RV_takeScaled_12 v p0 p1 j12s0 v st = t0 ∧ va_P D vwCl (rn_g a ci co st) H ∧ va_S (ct_F (rn_X a) s.heap.size) s.heap H locs) 12 (fun j12s0 => [.int j12s0, .ref (a (8 + v))]) ?_ ?_
  · intro j12s0 ls H locs hq
    obtain ⟨hl, hF, hP, hS⟩ := hq
    unfold RV_takeScaled_12 at hF
    refine lv_lload_n hx hb d_RV_takeScaled_12 rfl (lv_at hl 1 rfl) ?_
    refine lv_lconst (v := 0) hx hb d_RV_takeScaled_13 (by decide) ?_
    refine W.lcmp hx hb d_RV_takeScaled_14 ?_
    refine ct_cut1 (fun (j23s0 : Int32) ls H locs => lv_has ls 7 [(0, .ref (a (8 + v))), (1, .long p0), (3, .int p1)] ∧ RV_takeScaled_23 v p0 p1 j23s0 j12s0 v st = t0 ∧ va_P D vwCl (rn_g a ci co st) H ∧ va_S (ct_F (rn_X a) s.heap.size) s.heap H locs) 23 (fun j23s0 => [.int j23s0, .int j12s0, .ref (a (8 + v))]) ?_ ?_
    · intro j23s0 ls H locs hq
      obtain ⟨hl, hF, hP, hS⟩ := hq
      unfold RV_takeScaled_23 at hF
      obtain ⟨t23, e23⟩ := nm_ex (RV_become st v j12s0 j23s0)
      replace hF := (nm_eq e23).symm.trans hF
      refine ct_callv (va_runV (As := [.int j12s0, .int j23s0]) (rest := []) ⟨hx, hb, hml, hown, hts⟩ (c_RV_become l (D := D) a ci co hi st v j12s0 j23s0 hv _ e23 _) (kc_RV_22 hts ⟨by decide, by decide⟩) ⟨ct_blind, rn_rc1 hK hP hv, ct_ok hP hK hN⟩ rfl rfl hl.1 rfl (lv_room (Nat.le_of_ble_eq_true rfl)) d_RV_takeScaled_23 ⟨Nat.zero_le _, Nat.zero_le _⟩) hS (fun H locs hP hS => ?_)
      refine lv_lload_n hx hb d_RV_takeScaled_26 rfl (lv_at hl 1 rfl) ?_
      refine lv_lconst (v := 0) hx hb d_RV_takeScaled_27 (by decide) ?_
      refine W.lcmp hx hb d_RV_takeScaled_28 ?_
      refine ct_cut1 (fun (j38s0 : Int64) ls H locs => lv_has ls 7 [(0, .ref (a (8 + v))), (3, .int p1)] ∧ RV_takeScaled_38 v p1 j38s0 t23 = t0 ∧ va_P D vwCl (rn_g a ci co t23) H ∧ va_S (ct_F (rn_X a) s.heap.size) s.heap H locs) 38 (fun j38s0 => [.long j38s0]) ?_ ?_
      · intro j38s0 ls H locs hq
        obtain ⟨hl, hF, hP, hS⟩ := hq
        unfold RV_takeScaled_38 at hF
        refine lv_lstore (lv' := [(4, .long j38s0), (0, .ref (a (8 + v))), (3, .int p1)]) hx hb d_RV_takeScaled_38 hl (by decide) rfl (fun ls hl => ?_)
        refine lv_iconst (v := 0) hx hb d_RV_takeScaled_40 (by decide) ?_
        refine lv_istore (lv' := [(6, .int (0 : Int32)), (4, .long j38s0), (0, .ref (a (8 + v))), (3, .int p1)]) hx hb d_RV_takeScaled_41 hl (by decide) rfl (fun ls hl => ?_)
        refine ct_loop2 (fun n (w43L6 : Int32) (w43t : rn_S) ls H locs => lv_has ls 7 [(6, .int w43L6), (4, .long j38s0), (0, .ref (a (8 + v))), (3, .int p1)] ∧ (∃ k, w43L6 = nI k ∧ k < 2147483648 ∧ 3 - k < n) ∧ RV_takeScaled_43 n v p1 j38s0 w43L6 w43t = t0 ∧ va_P D vwCl (rn_g a ci co w43t) H ∧ va_S (ct_F (rn_X a) s.heap.size) s.heap H locs) 43 ?_ ?_ (4) (0 : Int32) t23 ⟨lv_sub hl [0, 1, 2, 3] rfl, ⟨0, rfl, by omega, by omega⟩, hF, hP, hS⟩
        · intro w43L6 w43t ls H locs hq
          obtain ⟨hl, hq9, hF, hP, hS⟩ := hq
          obtain ⟨k, e9, hk, hn⟩ := hq9
          exact absurd hn (Nat.not_lt_zero _)
        · intro n43 ih43 w43L6 w43t ls H locs hq
          obtain ⟨hl, hq9, hF, hP, hS⟩ := hq
          obtain ⟨k43, e9, hk43, hn43⟩ := hq9
          subst e9
          rw [RV_takeScaled_43] at hF
          refine lv_iload hx hb d_RV_takeScaled_43 (lv_at hl 0 rfl) ?_
          refine lv_iconst (v := 3) hx hb d_RV_takeScaled_45 (by decide) ?_
          refine lv_icmp_ge hx hb d_RV_takeScaled_46 (tgt := 74) (by decide) (fun c46 => ?_) (fun c46 => ?_)
          · replace hF := (if_pos c46).symm.trans hF
            refine lv_aload_n hx hb d_RV_takeScaled_74 rfl (lv_at hl 2 rfl) ?_
            refine lv_iload_n hx hb d_RV_takeScaled_75 rfl (lv_at hl 3 rfl) ?_
            refine pf_RV_27 hx hb htb hown hK hP hS hi (i := v) hv d_RV_takeScaled_76 (fun H locs hP hS => ?_)
            obtain ⟨t76, e76, hP⟩ := nm_st hP
            replace hF := (nm_eq e76).symm.trans hF
            subst hF
            exact ct_vret hx hb hr hlk hP hS d_RV_takeScaled_79
          · replace hF := (if_neg c46).symm.trans hF
            refine lv_aload_n hx hb d_RV_takeScaled_49 rfl (lv_at hl 2 rfl) ?_
            refine gf_RV_9 hx hb htb hown hK hP (i := v) hv d_RV_takeScaled_50 ?_
            refine lv_iload hx hb d_RV_takeScaled_53 (lv_at hl 0 rfl) ?_
            refine lv_lload hx hb d_RV_takeScaled_55 (lv_at hl 1 rfl) ?_
            refine lv_iload hx hb d_RV_takeScaled_57 (lv_at hl 0 rfl) ?_
            refine lv_bipush (v := 31) hx hb d_RV_takeScaled_59 (by decide) ?_
            refine lv_imul hx hb d_RV_takeScaled_61 ?_
            refine lv_lushr hx hb d_RV_takeScaled_62 rfl ?_
            refine lv_l2i hx hb d_RV_takeScaled_63 rfl ?_
            refine lv_ldc (v := 2147483647) hx hb hown (htb _ mw_16) d_RV_takeScaled_64 ?_
            refine lv_iand hx hb d_RV_takeScaled_66 ?_
            refine rn_ast_limbs hx hb hK hP hS hi (i := v) hv (nk_in3 hk43 c46) d_RV_takeScaled_67 (fun H locs hP hS => ?_)
            obtain ⟨t67, e67, hP⟩ := nm_st hP
            replace hF := (nm_eq e67).symm.trans hF
            obtain ⟨x68, e68⟩ := nm_ex ((nI k43) + (1 : Int32))
            replace hF := (nm_eq e68).symm.trans hF
            refine lv_iinc (v := x68) (lv' := [(6, .int x68), (4, .long j38s0), (0, .ref (a (8 + v))), (3, .int p1)]) hx hb d_RV_takeScaled_68 hl (k := 0) rfl e68 (by decide) rfl (fun ls hl => ?_)
            refine lv_goto hx hb d_RV_takeScaled_71 (tgt := 43) (by decide) ?_
            have hk9 : k43 < 3 := nk_lt hk43 rfl (by decide) c46
            exact ih43 x68 t67 _ _ _ ⟨lv_sub hl [0, 1, 2, 3] rfl, ⟨k43 + 1, e68.symm.trans (nI_1 k43), by omega, by omega⟩, hF, hP, hS⟩
      · intro kj38
        refine lv_if_ge hx hb d_RV_takeScaled_29 (tgt := 37) (by decide) (fun c29 => ?_) (fun c29 => ?_)
        · replace hF := (if_pos c29).symm.trans hF
          refine lv_lload_n hx hb d_RV_takeScaled_37 rfl (lv_at hl 1 rfl) ?_
          exact kj38 p0 _ _ _ ⟨lv_sub hl [0, 2] rfl, hF, hP, hS⟩
        · replace hF := (if_neg c29).symm.trans hF
          refine lv_lload_n hx hb d_RV_takeScaled_32 rfl (lv_at hl 1 rfl) ?_
          refine lv_lneg hx hb d_RV_takeScaled_33 ?_
          refine lv_goto hx hb d_RV_takeScaled_34 (tgt := 38) (by decide) ?_
          exact kj38 (-p0) _ _ _ ⟨lv_sub hl [0, 2] rfl, hF, hP, hS⟩
    · intro kj23
      refine lv_if_ge hx hb d_RV_takeScaled_15 (tgt := 22) (by decide) (fun c15 => ?_) (fun c15 => ?_)
      · replace hF := (if_pos c15).symm.trans hF
        refine lv_iconst (v := 1) hx hb d_RV_takeScaled_22 (by decide) ?_
        exact kj23 (1 : Int32) _ _ _ ⟨lv_sub hl [0, 1, 2] rfl, hF, hP, hS⟩
      · replace hF := (if_neg c15).symm.trans hF
        refine lv_iconst (v := -1) hx hb d_RV_takeScaled_18 (by decide) ?_
        refine lv_goto hx hb d_RV_takeScaled_19 (tgt := 23) (by decide) ?_
        exact kj23 (-1 : Int32) _ _ _ ⟨lv_sub hl [0, 1, 2] rfl, hF, hP, hS⟩
  · intro kj12
    refine lv_if_ne hx hb d_RV_takeScaled_4 (tgt := 11) (by decide) (fun c4 => ?_) (fun c4 => ?_)
    · replace hF := (if_neg c4).symm.trans hF
      refine lv_iconst (v := 3) hx hb d_RV_takeScaled_11 (by decide) ?_
      exact kj12 (3 : Int32) _ _ _ ⟨lv_sub hl [0, 1, 2] rfl, hF, hP, hS⟩
    · replace hF := (if_pos c4).symm.trans hF
      refine lv_iconst (v := 2) hx hb d_RV_takeScaled_7 (by decide) ?_
      refine lv_goto hx hb d_RV_takeScaled_8 (tgt := 12) (by decide) ?_
      exact kj12 (2 : Int32) _ _ _ ⟨lv_sub hl [0, 1, 2] rfl, hF, hP, hS⟩
theorem d_RN_productKind_0 : decode prog_1_method_23_code 0 = .ok (.iload_n 0, 1) := by decide +kernel
theorem d_RN_productKind_1 : decode prog_1_method_23_code 1 = .ok (.ifCond .eq 7, 3) := by decide +kernel
theorem d_RN_productKind_4 : decode prog_1_method_23_code 4 = .ok (.iload_n 1, 1) := by decide +kernel
theorem d_RN_productKind_5 : decode prog_1_method_23_code 5 = .ok (.ifCond .ne 5, 3) := by decide +kernel
theorem d_RN_productKind_8 : decode prog_1_method_23_code 8 = .ok (.iconst 0, 1) := by decide +kernel
theorem d_RN_productKind_9 : decode prog_1_method_23_code 9 = .ok (.ireturn, 1) := by decide +kernel
theorem d_RN_productKind_10 : decode prog_1_method_23_code 10 = .ok (.iload_n 0, 1) := by decide +kernel
theorem d_RN_productKind_11 : decode prog_1_method_23_code 11 = .ok (.iconst 1, 1) := by decide +kernel
theorem d_RN_productKind_12 : decode prog_1_method_23_code 12 = .ok (.if_icmp .eq 8, 3) := by decide +kernel
theorem d_RN_productKind_15 : decode prog_1_method_23_code 15 = .ok (.iload_n 1, 1) := by decide +kernel
theorem d_RN_productKind_16 : decode prog_1_method_23_code 16 = .ok (.iconst 1, 1) := by decide +kernel
theorem d_RN_productKind_17 : decode prog_1_method_23_code 17 = .ok (.if_icmp .ne 19, 3) := by decide +kernel
theorem d_RN_productKind_20 : decode prog_1_method_23_code 20 = .ok (.iload_n 0, 1) := by decide +kernel
theorem d_RN_productKind_21 : decode prog_1_method_23_code 21 = .ok (.iconst 2, 1) := by decide +kernel
theorem d_RN_productKind_22 : decode prog_1_method_23_code 22 = .ok (.if_icmp .eq 8, 3) := by decide +kernel
theorem d_RN_productKind_25 : decode prog_1_method_23_code 25 = .ok (.iload_n 1, 1) := by decide +kernel
theorem d_RN_productKind_26 : decode prog_1_method_23_code 26 = .ok (.iconst 2, 1) := by decide +kernel
theorem d_RN_productKind_27 : decode prog_1_method_23_code 27 = .ok (.if_icmp .ne 7, 3) := by decide +kernel
theorem d_RN_productKind_30 : decode prog_1_method_23_code 30 = .ok (.iconst 0, 1) := by decide +kernel
theorem d_RN_productKind_31 : decode prog_1_method_23_code 31 = .ok (.goto 4, 3) := by decide +kernel
theorem d_RN_productKind_34 : decode prog_1_method_23_code 34 = .ok (.iconst 1, 1) := by decide +kernel
theorem d_RN_productKind_35 : decode prog_1_method_23_code 35 = .ok (.ireturn, 1) := by decide +kernel
theorem d_RN_productKind_36 : decode prog_1_method_23_code 36 = .ok (.iload_n 0, 1) := by decide +kernel
theorem d_RN_productKind_37 : decode prog_1_method_23_code 37 = .ok (.iconst 2, 1) := by decide +kernel
theorem d_RN_productKind_38 : decode prog_1_method_23_code 38 = .ok (.if_icmp .eq 8, 3) := by decide +kernel
theorem d_RN_productKind_41 : decode prog_1_method_23_code 41 = .ok (.iload_n 1, 1) := by decide +kernel
theorem d_RN_productKind_42 : decode prog_1_method_23_code 42 = .ok (.iconst 2, 1) := by decide +kernel
theorem d_RN_productKind_43 : decode prog_1_method_23_code 43 = .ok (.if_icmp .ne 7, 3) := by decide +kernel
theorem d_RN_productKind_46 : decode prog_1_method_23_code 46 = .ok (.iconst 2, 1) := by decide +kernel
theorem d_RN_productKind_47 : decode prog_1_method_23_code 47 = .ok (.goto 4, 3) := by decide +kernel
theorem d_RN_productKind_50 : decode prog_1_method_23_code 50 = .ok (.iconst 3, 1) := by decide +kernel
theorem d_RN_productKind_51 : decode prog_1_method_23_code 51 = .ok (.ireturn, 1) := by decide +kernel
def RN_productKind_30 : Int32 := (0 : Int32)
def RN_productKind_20 (L0 : Int32) (L1 : Int32) : Int32 := (if L0 = (2 : Int32) then RN_productKind_30 else (if L1 = (2 : Int32) then RN_productKind_30 else (1 : Int32)))
def RN_productKind_46 : Int32 := (2 : Int32)
def RN_productKind (p0 : Int32) (p1 : Int32) : Int32 := (if p0 = 0 then (0 : Int32) else (if p1 = 0 then (0 : Int32) else (if p0 = (1 : Int32) then RN_productKind_20 p0 p1 else (if p1 = (1 : Int32) then RN_productKind_20 p0 p1 else (if p0 = (2 : Int32) then RN_productKind_46 else (if p1 = (2 : Int32) then RN_productKind_46 else (3 : Int32)))))))
set_option maxHeartbeats 4000000 in
set_option maxRecDepth 100000 in
theorem c_RN_productKind (l : Launch) {D : va_G} (a : Nat → Nat) (ci co : ClassId) (hi : rn_inj a) (st : rn_S) (p0 : Int32) (p1 : Int32) (r0 : Int32) (hF : RN_productKind p0 p1 = r0) : ct_i l ⟨"RoundedNumbers", "productKind", "(II)I"⟩ (.code ⟨"RoundedNumbers", "productKind", "(II)I"⟩ prog_1_method_23_code 2 (some .int) :: ct_T) { frames := 0, cells := 0, slots := 0, locals := 0 } D vwCl (rn_T ci co) (rn_g a ci co) (rn_X a) [.int p0, .int p1] st r0 st := by
  refine ct_i.mk (cc := prog_1_method_23_code) (maxL := 2) (by decide) rfl (Nat.le_of_ble_eq_true rfl) ?_
  intro p e s m below meth c hx hb hr hml hown hts hlk hK hN hP hS ls hl
  have hown : s.vm.findClass "RoundedNumbers" = some m.cls := hown
  have hl : lv_has ls 2 [(0, .int p0), (1, .int p1)] := hl
  have htb := fun w h => hts w (List.mem_cons_of_mem _ h)
  unfold RN_productKind at hF
  refine lv_iload_n hx hb d_RN_productKind_0 rfl (lv_at hl 0 rfl) ?_
  refine lv_if_eq hx hb d_RN_productKind_1 (tgt := 8) (by decide) (fun c1 => ?_) (fun c1 => ?_)
  · replace hF := (if_pos c1).symm.trans hF
    refine lv_iconst (v := 0) hx hb d_RN_productKind_8 (by decide) ?_
    subst hF
    exact ct_iret hx hb hr hlk hP hS d_RN_productKind_9
  · replace hF := (if_neg c1).symm.trans hF
    refine lv_iload_n hx hb d_RN_productKind_4 rfl (lv_at hl 1 rfl) ?_
    refine lv_if_ne hx hb d_RN_productKind_5 (tgt := 10) (by decide) (fun c5 => ?_) (fun c5 => ?_)
    · replace hF := (if_neg c5).symm.trans hF
      refine lv_iload_n hx hb d_RN_productKind_10 rfl (lv_at hl 0 rfl) ?_
      refine lv_iconst (v := 1) hx hb d_RN_productKind_11 (by decide) ?_
      refine ct_cut0 (fun  ls H locs => lv_has ls 2 [(0, .int p0), (1, .int p1)] ∧ RN_productKind_20 p0 p1 = r0 ∧ va_P D vwCl (rn_g a ci co st) H ∧ va_S (ct_F (rn_X a) s.heap.size) s.heap H locs) 20 [] ?_ ?_
      · intro ls H locs hq
        obtain ⟨hl, hF, hP, hS⟩ := hq
        unfold RN_productKind_20 at hF
        refine lv_iload_n hx hb d_RN_productKind_20 rfl (lv_at hl 0 rfl) ?_
        refine lv_iconst (v := 2) hx hb d_RN_productKind_21 (by decide) ?_
        refine ct_cut0 (fun  ls H locs => lv_has ls 2 [] ∧ RN_productKind_30 = r0 ∧ va_P D vwCl (rn_g a ci co st) H ∧ va_S (ct_F (rn_X a) s.heap.size) s.heap H locs) 30 [] ?_ ?_
        · intro ls H locs hq
          obtain ⟨hl, hF, hP, hS⟩ := hq
          unfold RN_productKind_30 at hF
          refine lv_iconst (v := 0) hx hb d_RN_productKind_30 (by decide) ?_
          refine lv_goto hx hb d_RN_productKind_31 (tgt := 35) (by decide) ?_
          subst hF
          exact ct_iret hx hb hr hlk hP hS d_RN_productKind_35
        · intro kj30
          refine lv_icmp_eq hx hb d_RN_productKind_22 (tgt := 30) (by decide) (fun c22 => ?_) (fun c22 => ?_)
          · replace hF := (if_pos c22).symm.trans hF
            exact kj30 _ _ _ ⟨lv_sub hl [] rfl, hF, hP, hS⟩
          · replace hF := (if_neg c22).symm.trans hF
            refine lv_iload_n hx hb d_RN_productKind_25 rfl (lv_at hl 1 rfl) ?_
            refine lv_iconst (v := 2) hx hb d_RN_productKind_26 (by decide) ?_
            refine lv_icmp_ne hx hb d_RN_productKind_27 (tgt := 34) (by decide) (fun c27 => ?_) (fun c27 => ?_)
            · replace hF := (if_neg c27).symm.trans hF
              refine lv_iconst (v := 1) hx hb d_RN_productKind_34 (by decide) ?_
              subst hF
              exact ct_iret hx hb hr hlk hP hS d_RN_productKind_35
            · replace hF := (if_pos c27).symm.trans hF
              exact kj30 _ _ _ ⟨lv_sub hl [] rfl, hF, hP, hS⟩
      · intro kj20
        refine lv_icmp_eq hx hb d_RN_productKind_12 (tgt := 20) (by decide) (fun c12 => ?_) (fun c12 => ?_)
        · replace hF := (if_pos c12).symm.trans hF
          exact kj20 _ _ _ ⟨lv_sub hl [0, 1] rfl, hF, hP, hS⟩
        · replace hF := (if_neg c12).symm.trans hF
          refine lv_iload_n hx hb d_RN_productKind_15 rfl (lv_at hl 1 rfl) ?_
          refine lv_iconst (v := 1) hx hb d_RN_productKind_16 (by decide) ?_
          refine lv_icmp_ne hx hb d_RN_productKind_17 (tgt := 36) (by decide) (fun c17 => ?_) (fun c17 => ?_)
          · replace hF := (if_neg c17).symm.trans hF
            refine lv_iload_n hx hb d_RN_productKind_36 rfl (lv_at hl 0 rfl) ?_
            refine lv_iconst (v := 2) hx hb d_RN_productKind_37 (by decide) ?_
            refine ct_cut0 (fun  ls H locs => lv_has ls 2 [] ∧ RN_productKind_46 = r0 ∧ va_P D vwCl (rn_g a ci co st) H ∧ va_S (ct_F (rn_X a) s.heap.size) s.heap H locs) 46 [] ?_ ?_
            · intro ls H locs hq
              obtain ⟨hl, hF, hP, hS⟩ := hq
              unfold RN_productKind_46 at hF
              refine lv_iconst (v := 2) hx hb d_RN_productKind_46 (by decide) ?_
              refine lv_goto hx hb d_RN_productKind_47 (tgt := 51) (by decide) ?_
              subst hF
              exact ct_iret hx hb hr hlk hP hS d_RN_productKind_51
            · intro kj46
              refine lv_icmp_eq hx hb d_RN_productKind_38 (tgt := 46) (by decide) (fun c38 => ?_) (fun c38 => ?_)
              · replace hF := (if_pos c38).symm.trans hF
                exact kj46 _ _ _ ⟨lv_sub hl [] rfl, hF, hP, hS⟩
              · replace hF := (if_neg c38).symm.trans hF
                refine lv_iload_n hx hb d_RN_productKind_41 rfl (lv_at hl 1 rfl) ?_
                refine lv_iconst (v := 2) hx hb d_RN_productKind_42 (by decide) ?_
                refine lv_icmp_ne hx hb d_RN_productKind_43 (tgt := 50) (by decide) (fun c43 => ?_) (fun c43 => ?_)
                · replace hF := (if_neg c43).symm.trans hF
                  refine lv_iconst (v := 3) hx hb d_RN_productKind_50 (by decide) ?_
                  subst hF
                  exact ct_iret hx hb hr hlk hP hS d_RN_productKind_51
                · replace hF := (if_pos c43).symm.trans hF
                  exact kj46 _ _ _ ⟨lv_sub hl [] rfl, hF, hP, hS⟩
          · replace hF := (if_pos c17).symm.trans hF
            exact kj20 _ _ _ ⟨lv_sub hl [0, 1] rfl, hF, hP, hS⟩
    · replace hF := (if_pos c5).symm.trans hF
      refine lv_iconst (v := 0) hx hb d_RN_productKind_8 (by decide) ?_
      subst hF
      exact ct_iret hx hb hr hlk hP hS d_RN_productKind_9
theorem d_RV_takeProduct_0 : decode prog_3_method_4_code 0 = .ok (.aload_n 0, 1) := by decide +kernel
theorem d_RV_takeProduct_1 : decode prog_3_method_4_code 1 = .ok (.aload_n 1, 1) := by decide +kernel
theorem d_RV_takeProduct_2 : decode prog_3_method_4_code 2 = .ok (.getfield 15, 3) := by decide +kernel
theorem d_RV_takeProduct_5 : decode prog_3_method_4_code 5 = .ok (.aload_n 2, 1) := by decide +kernel
theorem d_RV_takeProduct_6 : decode prog_3_method_4_code 6 = .ok (.getfield 15, 3) := by decide +kernel
theorem d_RV_takeProduct_9 : decode prog_3_method_4_code 9 = .ok (.invokestatic 30, 3) := by decide +kernel
theorem d_RV_takeProduct_12 : decode prog_3_method_4_code 12 = .ok (.aload_n 1, 1) := by decide +kernel
theorem d_RV_takeProduct_13 : decode prog_3_method_4_code 13 = .ok (.getfield 19, 3) := by decide +kernel
theorem d_RV_takeProduct_16 : decode prog_3_method_4_code 16 = .ok (.aload_n 2, 1) := by decide +kernel
theorem d_RV_takeProduct_17 : decode prog_3_method_4_code 17 = .ok (.getfield 19, 3) := by decide +kernel
theorem d_RV_takeProduct_20 : decode prog_3_method_4_code 20 = .ok (.imul, 1) := by decide +kernel
theorem d_RV_takeProduct_21 : decode prog_3_method_4_code 21 = .ok (.invokevirtual 22, 3) := by decide +kernel
theorem d_RV_takeProduct_24 : decode prog_3_method_4_code 24 = .ok (.aload_n 0, 1) := by decide +kernel
theorem d_RV_takeProduct_25 : decode prog_3_method_4_code 25 = .ok (.getfield 15, 3) := by decide +kernel
theorem d_RV_takeProduct_28 : decode prog_3_method_4_code 28 = .ok (.iconst 3, 1) := by decide +kernel
theorem d_RV_takeProduct_29 : decode prog_3_method_4_code 29 = .ok (.if_icmp .eq 4, 3) := by decide +kernel
theorem d_RV_takeProduct_32 : decode prog_3_method_4_code 32 = .ok (.return_, 1) := by decide +kernel
theorem d_RV_takeProduct_33 : decode prog_3_method_4_code 33 = .ok (.aload_n 0, 1) := by decide +kernel
theorem d_RV_takeProduct_34 : decode prog_3_method_4_code 34 = .ok (.aload_n 1, 1) := by decide +kernel
theorem d_RV_takeProduct_35 : decode prog_3_method_4_code 35 = .ok (.getfield 27, 3) := by decide +kernel
theorem d_RV_takeProduct_38 : decode prog_3_method_4_code 38 = .ok (.aload_n 2, 1) := by decide +kernel
theorem d_RV_takeProduct_39 : decode prog_3_method_4_code 39 = .ok (.getfield 27, 3) := by decide +kernel
theorem d_RV_takeProduct_42 : decode prog_3_method_4_code 42 = .ok (.iadd, 1) := by decide +kernel
theorem d_RV_takeProduct_43 : decode prog_3_method_4_code 43 = .ok (.putfield 27, 3) := by decide +kernel
theorem d_RV_takeProduct_46 : decode prog_3_method_4_code 46 = .ok (.aload_n 0, 1) := by decide +kernel
theorem d_RV_takeProduct_47 : decode prog_3_method_4_code 47 = .ok (.getfield 9, 3) := by decide +kernel
theorem d_RV_takeProduct_50 : decode prog_3_method_4_code 50 = .ok (.iconst 0, 1) := by decide +kernel
theorem d_RV_takeProduct_51 : decode prog_3_method_4_code 51 = .ok (.invokestatic 34, 3) := by decide +kernel
theorem d_RV_takeProduct_54 : decode prog_3_method_4_code 54 = .ok (.iconst 0, 1) := by decide +kernel
theorem d_RV_takeProduct_55 : decode prog_3_method_4_code 55 = .ok (.istore_n 3, 1) := by decide +kernel
theorem d_RV_takeProduct_56 : decode prog_3_method_4_code 56 = .ok (.iload_n 3, 1) := by decide +kernel
theorem d_RV_takeProduct_57 : decode prog_3_method_4_code 57 = .ok (.iconst 3, 1) := by decide +kernel
theorem d_RV_takeProduct_58 : decode prog_3_method_4_code 58 = .ok (.if_icmp .ge 92, 3) := by decide +kernel
theorem d_RV_takeProduct_61 : decode prog_3_method_4_code 61 = .ok (.lconst 0, 1) := by decide +kernel
theorem d_RV_takeProduct_62 : decode prog_3_method_4_code 62 = .ok (.lstore 4, 2) := by decide +kernel
theorem d_RV_takeProduct_64 : decode prog_3_method_4_code 64 = .ok (.iconst 0, 1) := by decide +kernel
theorem d_RV_takeProduct_65 : decode prog_3_method_4_code 65 = .ok (.istore 6, 2) := by decide +kernel
theorem d_RV_takeProduct_67 : decode prog_3_method_4_code 67 = .ok (.iload 6, 2) := by decide +kernel
theorem d_RV_takeProduct_69 : decode prog_3_method_4_code 69 = .ok (.iconst 3, 1) := by decide +kernel
theorem d_RV_takeProduct_70 : decode prog_3_method_4_code 70 = .ok (.if_icmp .ge 63, 3) := by decide +kernel
theorem d_RV_takeProduct_73 : decode prog_3_method_4_code 73 = .ok (.lload 4, 2) := by decide +kernel
theorem d_RV_takeProduct_75 : decode prog_3_method_4_code 75 = .ok (.aload_n 1, 1) := by decide +kernel
theorem d_RV_takeProduct_76 : decode prog_3_method_4_code 76 = .ok (.getfield 9, 3) := by decide +kernel
theorem d_RV_takeProduct_79 : decode prog_3_method_4_code 79 = .ok (.iload_n 3, 1) := by decide +kernel
theorem d_RV_takeProduct_80 : decode prog_3_method_4_code 80 = .ok (.iaload, 1) := by decide +kernel
theorem d_RV_takeProduct_81 : decode prog_3_method_4_code 81 = .ok (.i2l, 1) := by decide +kernel
theorem d_RV_takeProduct_82 : decode prog_3_method_4_code 82 = .ok (.aload_n 2, 1) := by decide +kernel
theorem d_RV_takeProduct_83 : decode prog_3_method_4_code 83 = .ok (.getfield 9, 3) := by decide +kernel
theorem d_RV_takeProduct_86 : decode prog_3_method_4_code 86 = .ok (.iload 6, 2) := by decide +kernel
theorem d_RV_takeProduct_88 : decode prog_3_method_4_code 88 = .ok (.iaload, 1) := by decide +kernel
theorem d_RV_takeProduct_89 : decode prog_3_method_4_code 89 = .ok (.i2l, 1) := by decide +kernel
theorem d_RV_takeProduct_90 : decode prog_3_method_4_code 90 = .ok (.lmul, 1) := by decide +kernel
theorem d_RV_takeProduct_91 : decode prog_3_method_4_code 91 = .ok (.aload_n 0, 1) := by decide +kernel
theorem d_RV_takeProduct_92 : decode prog_3_method_4_code 92 = .ok (.getfield 9, 3) := by decide +kernel
theorem d_RV_takeProduct_95 : decode prog_3_method_4_code 95 = .ok (.iload_n 3, 1) := by decide +kernel
theorem d_RV_takeProduct_96 : decode prog_3_method_4_code 96 = .ok (.iload 6, 2) := by decide +kernel
theorem d_RV_takeProduct_98 : decode prog_3_method_4_code 98 = .ok (.iadd, 1) := by decide +kernel
theorem d_RV_takeProduct_99 : decode prog_3_method_4_code 99 = .ok (.iaload, 1) := by decide +kernel
theorem d_RV_takeProduct_100 : decode prog_3_method_4_code 100 = .ok (.i2l, 1) := by decide +kernel
theorem d_RV_takeProduct_101 : decode prog_3_method_4_code 101 = .ok (.ladd, 1) := by decide +kernel
theorem d_RV_takeProduct_102 : decode prog_3_method_4_code 102 = .ok (.ladd, 1) := by decide +kernel
theorem d_RV_takeProduct_103 : decode prog_3_method_4_code 103 = .ok (.lstore 4, 2) := by decide +kernel
theorem d_RV_takeProduct_105 : decode prog_3_method_4_code 105 = .ok (.aload_n 0, 1) := by decide +kernel
theorem d_RV_takeProduct_106 : decode prog_3_method_4_code 106 = .ok (.getfield 9, 3) := by decide +kernel
theorem d_RV_takeProduct_109 : decode prog_3_method_4_code 109 = .ok (.iload_n 3, 1) := by decide +kernel
theorem d_RV_takeProduct_110 : decode prog_3_method_4_code 110 = .ok (.iload 6, 2) := by decide +kernel
theorem d_RV_takeProduct_112 : decode prog_3_method_4_code 112 = .ok (.iadd, 1) := by decide +kernel
theorem d_RV_takeProduct_113 : decode prog_3_method_4_code 113 = .ok (.lload 4, 2) := by decide +kernel
theorem d_RV_takeProduct_115 : decode prog_3_method_4_code 115 = .ok (.l2i, 1) := by decide +kernel
theorem d_RV_takeProduct_116 : decode prog_3_method_4_code 116 = .ok (.ldc 26, 2) := by decide +kernel
theorem d_RV_takeProduct_118 : decode prog_3_method_4_code 118 = .ok (.iand, 1) := by decide +kernel
theorem d_RV_takeProduct_119 : decode prog_3_method_4_code 119 = .ok (.iastore, 1) := by decide +kernel
theorem d_RV_takeProduct_120 : decode prog_3_method_4_code 120 = .ok (.lload 4, 2) := by decide +kernel
theorem d_RV_takeProduct_122 : decode prog_3_method_4_code 122 = .ok (.bipush 31, 2) := by decide +kernel
theorem d_RV_takeProduct_124 : decode prog_3_method_4_code 124 = .ok (.lshr, 1) := by decide +kernel
theorem d_RV_takeProduct_125 : decode prog_3_method_4_code 125 = .ok (.lstore 4, 2) := by decide +kernel
theorem d_RV_takeProduct_127 : decode prog_3_method_4_code 127 = .ok (.iinc 6 1, 3) := by decide +kernel
theorem d_RV_takeProduct_130 : decode prog_3_method_4_code 130 = .ok (.goto (-63), 3) := by decide +kernel
theorem d_RV_takeProduct_133 : decode prog_3_method_4_code 133 = .ok (.aload_n 0, 1) := by decide +kernel
theorem d_RV_takeProduct_134 : decode prog_3_method_4_code 134 = .ok (.getfield 9, 3) := by decide +kernel
theorem d_RV_takeProduct_137 : decode prog_3_method_4_code 137 = .ok (.iload_n 3, 1) := by decide +kernel
theorem d_RV_takeProduct_138 : decode prog_3_method_4_code 138 = .ok (.iconst 3, 1) := by decide +kernel
theorem d_RV_takeProduct_139 : decode prog_3_method_4_code 139 = .ok (.iadd, 1) := by decide +kernel
theorem d_RV_takeProduct_140 : decode prog_3_method_4_code 140 = .ok (.lload 4, 2) := by decide +kernel
theorem d_RV_takeProduct_142 : decode prog_3_method_4_code 142 = .ok (.l2i, 1) := by decide +kernel
theorem d_RV_takeProduct_143 : decode prog_3_method_4_code 143 = .ok (.iastore, 1) := by decide +kernel
theorem d_RV_takeProduct_144 : decode prog_3_method_4_code 144 = .ok (.iinc 3 1, 3) := by decide +kernel
theorem d_RV_takeProduct_147 : decode prog_3_method_4_code 147 = .ok (.goto (-91), 3) := by decide +kernel
theorem d_RV_takeProduct_150 : decode prog_3_method_4_code 150 = .ok (.return_, 1) := by decide +kernel
def RV_takeProduct_67 (k56 : Nat → Nat → Nat → Int32 → rn_S → rn_S) : Nat → Nat → Nat → Nat → Int32 → Int64 → Int32 → rn_S → rn_S
  | 0, _, _, _, _, _, _, st => st
  | n + 1, L0, L1, L2, L3, L4, L6, st => (if (3 : Int32) ≤ L6 then nm (rn_lbs st L0 (L3 + (3 : Int32)).toNatClampNeg L4.toInt32) (fun t143 => nm (L3 + (1 : Int32)) (fun x144 => k56 L0 L1 L2 x144 t143)) else nm (L4 + (((rn_lb st L1 L3.toNatClampNeg).toInt64 * (rn_lb st L2 L6.toNatClampNeg).toInt64) + (rn_lb st L0 (L3 + L6).toNatClampNeg).toInt64)) (fun x103 => nm (rn_lbs st L0 (L3 + L6).toNatClampNeg (x103.toInt32 &&& (2147483647 : Int32))) (fun t119 => nm (x103 >>> ((31 : Int32).toInt64 &&& 63)) (fun x125 => nm (L6 + (1 : Int32)) (fun x127 => (RV_takeProduct_67 k56 n) L0 L1 L2 L3 x125 x127 t119)))))
def RV_takeProduct_56 : Nat → Nat → Nat → Nat → Int32 → rn_S → rn_S
  | 0, _, _, _, _, st => st
  | n + 1, L0, L1, L2, L3, st => (if (3 : Int32) ≤ L3 then st else RV_takeProduct_67 (RV_takeProduct_56 n) (4) L0 L1 L2 L3 (0 : Int64) (0 : Int32) st)
def RV_takeProduct (st : rn_S) (v : Nat) (v0 : Nat) (v1 : Nat) : rn_S := nm (RN_productKind (rn_kd st v0) (rn_kd st v1)) (fun r9 => nm (RV_become st v r9 ((rn_sg st v0) * (rn_sg st v1))) (fun t21 => (if (rn_kd t21 v) = (3 : Int32) then nm (rn_lws t21 v ((rn_lw t21 v0) + (rn_lw t21 v1))) (fun t43 => nm (JA_fill_limbs t43 v (0 : Int32)) (fun t51 => RV_takeProduct_56 (4) v v0 v1 (0 : Int32) t51)) else t21)))
set_option maxHeartbeats 4000000 in
set_option maxRecDepth 100000 in
theorem c_RV_takeProduct (l : Launch) {D : va_G} (a : Nat → Nat) (ci co : ClassId) (hi : rn_inj a) (st : rn_S) (v : Nat) (v0 : Nat) (v1 : Nat) (hv : v < 10) (hv0 : v0 < 10) (hv1 : v1 < 10) (hv9 : v = 9) (t0 : rn_S) (hF : RV_takeProduct st v v0 v1 = t0) : ct_v l ⟨"RoundedNumbers$Value", "takeProduct", "(LRoundedNumbers$Value;LRoundedNumbers$Value;)V"⟩ (.code ⟨"RoundedNumbers$Value", "takeProduct", "(LRoundedNumbers$Value;LRoundedNumbers$Value;)V"⟩ prog_3_method_4_code 7 none :: ct_T) { frames := 1, cells := 0, slots := 0, locals := 23 } D vwCl (rn_T ci co) (rn_g a ci co) (rn_X a) [.ref (a (8 + v)), .ref (a (8 + v0)), .ref (a (8 + v1))] st t0 := by
  refine ct_v.mk (cc := prog_3_method_4_code) (maxL := 7) (by decide) rfl (Nat.le_of_ble_eq_true rfl) ?_
  intro p e s m below meth c hx hb hr hml hown hts hlk hK hN hP hS ls hl
  have hown : s.vm.findClass "RoundedNumbers$Value" = some m.cls := hown
  have hl : lv_has ls 7 [(0, .ref (a (8 + v))), (1, .ref (a (8 + v0))), (2, .ref (a (8 + v1)))] := hl
  have htb := fun w h => hts w (List.mem_cons_of_mem _ h)
  unfold RV_takeProduct at hF
  refine lv_aload_n hx hb d_RV_takeProduct_0 rfl (lv_at hl 0 rfl) ?_
  refine lv_aload_n hx hb d_RV_takeProduct_1 rfl (lv_at hl 1 rfl) ?_
  refine gf_RV_15 hx hb htb hown hK hP (i := v0) hv0 d_RV_takeProduct_2 ?_
  refine lv_aload_n hx hb d_RV_takeProduct_5 rfl (lv_at hl 2 rfl) ?_
  refine gf_RV_15 hx hb htb hown hK hP (i := v1) hv1 d_RV_takeProduct_6 ?_
  obtain ⟨r9, e9⟩ := nm_ex (RN_productKind (rn_kd st v0) (rn_kd st v1))
  replace hF := (nm_eq e9).symm.trans hF
  refine ct_calli (va_runSN (As := [.int (rn_kd st v0), .int (rn_kd st v1)]) (rest := [.ref (a (8 + v))]) ⟨hx, hb, hml, hown, hts⟩ (c_RN_productKind l (D := D) a ci co hi st (rn_kd st v0) (rn_kd st v1) _ e9 _) (kc_RV_30 hts hN ⟨by decide, by decide⟩) ⟨ct_blind, ct_ok hP hK hN⟩ rfl rfl hl.1 rfl (lv_room (Nat.le_of_ble_eq_true rfl)) d_RV_takeProduct_9 ⟨Nat.zero_le _, Nat.zero_le _⟩) hS (fun H locs hP hS => ?_)
  refine lv_aload_n hx hb d_RV_takeProduct_12 rfl (lv_at hl 1 rfl) ?_
  refine gf_RV_19 hx hb htb hown hK hP (i := v0) hv0 d_RV_takeProduct_13 ?_
  refine lv_aload_n hx hb d_RV_takeProduct_16 rfl (lv_at hl 2 rfl) ?_
  refine gf_RV_19 hx hb htb hown hK hP (i := v1) hv1 d_RV_takeProduct_17 ?_
  refine lv_imul hx hb d_RV_takeProduct_20 ?_
  obtain ⟨t21, e21⟩ := nm_ex (RV_become st v r9 ((rn_sg st v0) * (rn_sg st v1)))
  replace hF := (nm_eq e21).symm.trans hF
  refine ct_callv (va_runV (As := [.int r9, .int ((rn_sg st v0) * (rn_sg st v1))]) (rest := []) ⟨hx, hb, hml, hown, hts⟩ (c_RV_become l (D := D) a ci co hi st v r9 ((rn_sg st v0) * (rn_sg st v1)) hv _ e21 _) (kc_RV_22 hts ⟨by decide, by decide⟩) ⟨ct_blind, rn_rc1 hK hP hv, ct_ok hP hK hN⟩ rfl rfl hl.1 rfl (lv_room (Nat.le_of_ble_eq_true rfl)) d_RV_takeProduct_21 ⟨Nat.zero_le _, Nat.zero_le _⟩) hS (fun H locs hP hS => ?_)
  refine lv_aload_n hx hb d_RV_takeProduct_24 rfl (lv_at hl 0 rfl) ?_
  refine gf_RV_15 hx hb htb hown hK hP (i := v) hv d_RV_takeProduct_25 ?_
  refine lv_iconst (v := 3) hx hb d_RV_takeProduct_28 (by decide) ?_
  refine lv_icmp_eq hx hb d_RV_takeProduct_29 (tgt := 33) (by decide) (fun c29 => ?_) (fun c29 => ?_)
  · replace hF := (if_pos c29).symm.trans hF
    refine lv_aload_n hx hb d_RV_takeProduct_33 rfl (lv_at hl 0 rfl) ?_
    refine lv_aload_n hx hb d_RV_takeProduct_34 rfl (lv_at hl 1 rfl) ?_
    refine gf_RV_27 hx hb htb hown hK hP (i := v0) hv0 d_RV_takeProduct_35 ?_
    refine lv_aload_n hx hb d_RV_takeProduct_38 rfl (lv_at hl 2 rfl) ?_
    refine gf_RV_27 hx hb htb hown hK hP (i := v1) hv1 d_RV_takeProduct_39 ?_
    refine lv_iadd hx hb d_RV_takeProduct_42 ?_
    refine pf_RV_27 hx hb htb hown hK hP hS hi (i := v) hv d_RV_takeProduct_43 (fun H locs hP hS => ?_)
    obtain ⟨t43, e43, hP⟩ := nm_st hP
    replace hF := (nm_eq e43).symm.trans hF
    refine lv_aload_n hx hb d_RV_takeProduct_46 rfl (lv_at hl 0 rfl) ?_
    refine gf_RV_9 hx hb htb hown hK hP (i := v) hv d_RV_takeProduct_47 ?_
    refine lv_iconst (v := 0) hx hb d_RV_takeProduct_50 (by decide) ?_
    obtain ⟨t51, e51⟩ := nm_ex (JA_fill_limbs t43 v (0 : Int32))
    replace hF := (nm_eq e51).symm.trans hF
    refine ct_callv (va_runS (As := [.ref (a (18 + v)), .int (0 : Int32)]) (rest := []) ⟨hx, hb, hml, hown, hts⟩ (c_JA_fill_limbs l (D := D) a ci co hi t43 v (0 : Int32) hv _ e51 _) (kc_RV_34 hts ⟨by decide, by decide⟩) ⟨ct_blind, ct_ok hP hK hN⟩ rfl rfl hl.1 rfl (lv_room (Nat.le_of_ble_eq_true rfl)) d_RV_takeProduct_51 ⟨Nat.zero_le _, Nat.zero_le _⟩) hS (fun H locs hP hS => ?_)
    refine lv_iconst (v := 0) hx hb d_RV_takeProduct_54 (by decide) ?_
    refine lv_istore_n (lv' := [(3, .int (0 : Int32)), (0, .ref (a (8 + v))), (1, .ref (a (8 + v0))), (2, .ref (a (8 + v1)))]) hx hb d_RV_takeProduct_55 rfl hl (by decide) rfl (fun ls hl => ?_)
    refine ct_loop2 (fun n (w56L3 : Int32) (w56t : rn_S) ls H locs => lv_has ls 7 [(3, .int w56L3), (0, .ref (a (8 + v))), (1, .ref (a (8 + v0))), (2, .ref (a (8 + v1)))] ∧ (∃ k, w56L3 = nI k ∧ k < 2147483648 ∧ 3 - k < n) ∧ RV_takeProduct_56 n v v0 v1 w56L3 w56t = t0 ∧ va_P D vwCl (rn_g a ci co w56t) H ∧ va_S (ct_F (rn_X a) s.heap.size) s.heap H locs) 56 ?_ ?_ (4) (0 : Int32) t51 ⟨lv_sub hl [0, 1, 2, 3] rfl, ⟨0, rfl, by omega, by omega⟩, hF, hP, hS⟩
    · intro w56L3 w56t ls H locs hq
      obtain ⟨hl, hq9, hF, hP, hS⟩ := hq
      obtain ⟨k, e9, hk, hn⟩ := hq9
      exact absurd hn (Nat.not_lt_zero _)
    · intro n56 ih56 w56L3 w56t ls H locs hq
      obtain ⟨hl, hq9, hF, hP, hS⟩ := hq
      obtain ⟨k56, e9, hk56, hn56⟩ := hq9
      subst e9
      rw [RV_takeProduct_56] at hF
      refine lv_iload_n hx hb d_RV_takeProduct_56 rfl (lv_at hl 0 rfl) ?_
      refine lv_iconst (v := 3) hx hb d_RV_takeProduct_57 (by decide) ?_
      refine lv_icmp_ge hx hb d_RV_takeProduct_58 (tgt := 150) (by decide) (fun c58 => ?_) (fun c58 => ?_)
      · replace hF := (if_pos c58).symm.trans hF
        subst hF
        exact ct_vret hx hb hr hlk hP hS d_RV_takeProduct_150
      · replace hF := (if_neg c58).symm.trans hF
        refine lv_lconst (v := 0) hx hb d_RV_takeProduct_61 (by decide) ?_
        refine lv_lstore (lv' := [(4, .long (0 : Int64)), (3, .int (nI k56)), (0, .ref (a (8 + v))), (1, .ref (a (8 + v0))), (2, .ref (a (8 + v1)))]) hx hb d_RV_takeProduct_62 hl (by decide) rfl (fun ls hl => ?_)
        refine lv_iconst (v := 0) hx hb d_RV_takeProduct_64 (by decide) ?_
        refine lv_istore (lv' := [(6, .int (0 : Int32)), (4, .long (0 : Int64)), (3, .int (nI k56)), (0, .ref (a (8 + v))), (1, .ref (a (8 + v0))), (2, .ref (a (8 + v1)))]) hx hb d_RV_takeProduct_65 hl (by decide) rfl (fun ls hl => ?_)
        refine ct_loop3 (fun n (w67L6 : Int32) (w67L4 : Int64) (w67t : rn_S) ls H locs => lv_has ls 7 [(6, .int w67L6), (4, .long w67L4), (3, .int (nI k56)), (0, .ref (a (8 + v))), (1, .ref (a (8 + v0))), (2, .ref (a (8 + v1)))] ∧ (∃ k, w67L6 = nI k ∧ k < 2147483648 ∧ 3 - k < n) ∧ RV_takeProduct_67 (RV_takeProduct_56 n56) n v v0 v1 (nI k56) w67L4 w67L6 w67t = t0 ∧ va_P D vwCl (rn_g a ci co w67t) H ∧ va_S (ct_F (rn_X a) s.heap.size) s.heap H locs) 67 ?_ ?_ (4) (0 : Int32) (0 : Int64) w56t ⟨lv_sub hl [0, 1, 2, 3, 4, 5] rfl, ⟨0, rfl, by omega, by omega⟩, hF, hP, hS⟩
        · intro w67L6 w67L4 w67t ls H locs hq
          obtain ⟨hl, hq9, hF, hP, hS⟩ := hq
          obtain ⟨k, e9, hk, hn⟩ := hq9
          exact absurd hn (Nat.not_lt_zero _)
        · intro n67 ih67 w67L6 w67L4 w67t ls H locs hq
          obtain ⟨hl, hq9, hF, hP, hS⟩ := hq
          obtain ⟨k67, e9, hk67, hn67⟩ := hq9
          subst e9
          rw [RV_takeProduct_67] at hF
          refine lv_iload hx hb d_RV_takeProduct_67 (lv_at hl 0 rfl) ?_
          refine lv_iconst (v := 3) hx hb d_RV_takeProduct_69 (by decide) ?_
          refine lv_icmp_ge hx hb d_RV_takeProduct_70 (tgt := 133) (by decide) (fun c70 => ?_) (fun c70 => ?_)
          · replace hF := (if_pos c70).symm.trans hF
            refine lv_aload_n hx hb d_RV_takeProduct_133 rfl (lv_at hl 3 rfl) ?_
            refine gf_RV_9 hx hb htb hown hK hP (i := v) hv d_RV_takeProduct_134 ?_
            refine lv_iload_n hx hb d_RV_takeProduct_137 rfl (lv_at hl 2 rfl) ?_
            refine lv_iconst (v := 3) hx hb d_RV_takeProduct_138 (by decide) ?_
            refine lv_iadd hx hb d_RV_takeProduct_139 ?_
            refine lv_lload hx hb d_RV_takeProduct_140 (lv_at hl 1 rfl) ?_
            refine lv_l2i hx hb d_RV_takeProduct_142 rfl ?_
            refine rn_ast_limbs hx hb hK hP hS hi (i := v) hv (nk_in63 hv9 hk56 c58) d_RV_takeProduct_143 (fun H locs hP hS => ?_)
            obtain ⟨t143, e143, hP⟩ := nm_st hP
            replace hF := (nm_eq e143).symm.trans hF
            obtain ⟨x144, e144⟩ := nm_ex ((nI k56) + (1 : Int32))
            replace hF := (nm_eq e144).symm.trans hF
            refine lv_iinc (v := x144) (lv' := [(3, .int x144), (6, .int (nI k67)), (4, .long w67L4), (0, .ref (a (8 + v))), (1, .ref (a (8 + v0))), (2, .ref (a (8 + v1)))]) hx hb d_RV_takeProduct_144 hl (k := 2) rfl e144 (by decide) rfl (fun ls hl => ?_)
            refine lv_goto hx hb d_RV_takeProduct_147 (tgt := 56) (by decide) ?_
            have hk9 : k56 < 3 := nk_lt hk56 rfl (by decide) c58
            exact ih56 x144 t143 _ _ _ ⟨lv_sub hl [0, 3, 4, 5] rfl, ⟨k56 + 1, e144.symm.trans (nI_1 k56), by omega, by omega⟩, hF, hP, hS⟩
          · replace hF := (if_neg c70).symm.trans hF
            refine lv_lload hx hb d_RV_takeProduct_73 (lv_at hl 1 rfl) ?_
            refine lv_aload_n hx hb d_RV_takeProduct_75 rfl (lv_at hl 4 rfl) ?_
            refine gf_RV_9 hx hb htb hown hK hP (i := v0) hv0 d_RV_takeProduct_76 ?_
            refine lv_iload_n hx hb d_RV_takeProduct_79 rfl (lv_at hl 2 rfl) ?_
            refine rn_ald_limbs hx hb hK hP (i := v0) hv0 (nk_in3 hk56 c58) d_RV_takeProduct_80 ?_
            refine lv_i2l hx hb d_RV_takeProduct_81 rfl ?_
            refine lv_aload_n hx hb d_RV_takeProduct_82 rfl (lv_at hl 5 rfl) ?_
            refine gf_RV_9 hx hb htb hown hK hP (i := v1) hv1 d_RV_takeProduct_83 ?_
            refine lv_iload hx hb d_RV_takeProduct_86 (lv_at hl 0 rfl) ?_
            refine rn_ald_limbs hx hb hK hP (i := v1) hv1 (nk_in3 hk67 c70) d_RV_takeProduct_88 ?_
            refine lv_i2l hx hb d_RV_takeProduct_89 rfl ?_
            refine lv_lmul hx hb d_RV_takeProduct_90 ?_
            refine lv_aload_n hx hb d_RV_takeProduct_91 rfl (lv_at hl 3 rfl) ?_
            refine gf_RV_9 hx hb htb hown hK hP (i := v) hv d_RV_takeProduct_92 ?_
            refine lv_iload_n hx hb d_RV_takeProduct_95 rfl (lv_at hl 2 rfl) ?_
            refine lv_iload hx hb d_RV_takeProduct_96 (lv_at hl 0 rfl) ?_
            refine lv_iadd hx hb d_RV_takeProduct_98 ?_
            refine rn_ald_limbs hx hb hK hP (i := v) hv (nk_in6 hv9 hk56 c58 hk67 c70) d_RV_takeProduct_99 ?_
            refine lv_i2l hx hb d_RV_takeProduct_100 rfl ?_
            refine lv_ladd hx hb d_RV_takeProduct_101 ?_
            refine lv_ladd hx hb d_RV_takeProduct_102 ?_
            refine lv_topl (fun x103 e103 => ?_)
            replace hF := (nm_eq e103.symm).symm.trans hF
            refine lv_lstore (lv' := [(4, .long x103), (6, .int (nI k67)), (3, .int (nI k56)), (0, .ref (a (8 + v))), (1, .ref (a (8 + v0))), (2, .ref (a (8 + v1)))]) hx hb d_RV_takeProduct_103 hl (by decide) rfl (fun ls hl => ?_)
            refine lv_aload_n hx hb d_RV_takeProduct_105 rfl (lv_at hl 3 rfl) ?_
            refine gf_RV_9 hx hb htb hown hK hP (i := v) hv d_RV_takeProduct_106 ?_
            refine lv_iload_n hx hb d_RV_takeProduct_109 rfl (lv_at hl 2 rfl) ?_
            refine lv_iload hx hb d_RV_takeProduct_110 (lv_at hl 1 rfl) ?_
            refine lv_iadd hx hb d_RV_takeProduct_112 ?_
            refine lv_lload hx hb d_RV_takeProduct_113 (lv_at hl 0 rfl) ?_
            refine lv_l2i hx hb d_RV_takeProduct_115 rfl ?_
            refine lv_ldc (v := 2147483647) hx hb hown (htb _ mw_16) d_RV_takeProduct_116 ?_
            refine lv_iand hx hb d_RV_takeProduct_118 ?_
            refine rn_ast_limbs hx hb hK hP hS hi (i := v) hv (nk_in6 hv9 hk56 c58 hk67 c70) d_RV_takeProduct_119 (fun H locs hP hS => ?_)
            obtain ⟨t119, e119, hP⟩ := nm_st hP
            replace hF := (nm_eq e119).symm.trans hF
            refine lv_lload hx hb d_RV_takeProduct_120 (lv_at hl 0 rfl) ?_
            refine lv_bipush (v := 31) hx hb d_RV_takeProduct_122 (by decide) ?_
            refine lv_lshr hx hb d_RV_takeProduct_124 rfl ?_
            refine lv_topl (fun x125 e125 => ?_)
            replace hF := (nm_eq e125.symm).symm.trans hF
            refine lv_lstore (lv' := [(4, .long x125), (6, .int (nI k67)), (3, .int (nI k56)), (0, .ref (a (8 + v))), (1, .ref (a (8 + v0))), (2, .ref (a (8 + v1)))]) hx hb d_RV_takeProduct_125 hl (by decide) rfl (fun ls hl => ?_)
            obtain ⟨x127, e127⟩ := nm_ex ((nI k67) + (1 : Int32))
            replace hF := (nm_eq e127).symm.trans hF
            refine lv_iinc (v := x127) (lv' := [(6, .int x127), (4, .long x125), (3, .int (nI k56)), (0, .ref (a (8 + v))), (1, .ref (a (8 + v0))), (2, .ref (a (8 + v1)))]) hx hb d_RV_takeProduct_127 hl (k := 1) rfl e127 (by decide) rfl (fun ls hl => ?_)
            refine lv_goto hx hb d_RV_takeProduct_130 (tgt := 67) (by decide) ?_
            have hk9 : k67 < 3 := nk_lt hk67 rfl (by decide) c70
            exact ih67 x127 x125 t119 _ _ _ ⟨lv_sub hl [0, 1, 2, 3, 4, 5] rfl, ⟨k67 + 1, e127.symm.trans (nI_1 k67), by omega, by omega⟩, hF, hP, hS⟩
  · replace hF := (if_neg c29).symm.trans hF
    subst hF
    exact ct_vret hx hb hr hlk hP hS d_RV_takeProduct_32
theorem d_RV_exponent_0 : decode prog_3_method_6_code 0 = .ok (.aload_n 0, 1) := by decide +kernel
theorem d_RV_exponent_1 : decode prog_3_method_6_code 1 = .ok (.getfield 27, 3) := by decide +kernel
theorem d_RV_exponent_4 : decode prog_3_method_6_code 4 = .ok (.bipush 93, 2) := by decide +kernel
theorem d_RV_exponent_6 : decode prog_3_method_6_code 6 = .ok (.iadd, 1) := by decide +kernel
theorem d_RV_exponent_7 : decode prog_3_method_6_code 7 = .ok (.ireturn, 1) := by decide +kernel
def RV_exponent (st : rn_S) (v : Nat) : Int32 := ((rn_lw st v) + (93 : Int32))
set_option maxHeartbeats 4000000 in
set_option maxRecDepth 100000 in
theorem c_RV_exponent (l : Launch) {D : va_G} (a : Nat → Nat) (ci co : ClassId) (hi : rn_inj a) (st : rn_S) (v : Nat) (hv : v < 10) (r0 : Int32) (hF : RV_exponent st v = r0) : ct_i l ⟨"RoundedNumbers$Value", "exponent", "()I"⟩ (.code ⟨"RoundedNumbers$Value", "exponent", "()I"⟩ prog_3_method_6_code 1 (some .int) :: ct_T) { frames := 0, cells := 0, slots := 0, locals := 0 } D vwCl (rn_T ci co) (rn_g a ci co) (rn_X a) [.ref (a (8 + v))] st r0 st := by
  refine ct_i.mk (cc := prog_3_method_6_code) (maxL := 1) (by decide) rfl (Nat.le_of_ble_eq_true rfl) ?_
  intro p e s m below meth c hx hb hr hml hown hts hlk hK hN hP hS ls hl
  have hown : s.vm.findClass "RoundedNumbers$Value" = some m.cls := hown
  have hl : lv_has ls 1 [(0, .ref (a (8 + v)))] := hl
  have htb := fun w h => hts w (List.mem_cons_of_mem _ h)
  unfold RV_exponent at hF
  refine lv_aload_n hx hb d_RV_exponent_0 rfl (lv_at hl 0 rfl) ?_
  refine gf_RV_27 hx hb htb hown hK hP (i := v) hv d_RV_exponent_1 ?_
  refine lv_bipush (v := 93) hx hb d_RV_exponent_4 (by decide) ?_
  refine lv_iadd hx hb d_RV_exponent_6 ?_
  subst hF
  exact ct_iret hx hb hr hlk hP hS d_RV_exponent_7
theorem d_RV_bitFromTop_0 : decode prog_3_method_7_code 0 = .ok (.iload_n 1, 1) := by decide +kernel
theorem d_RV_bitFromTop_1 : decode prog_3_method_7_code 1 = .ok (.ifCond .lt 9, 3) := by decide +kernel
theorem d_RV_bitFromTop_4 : decode prog_3_method_7_code 4 = .ok (.iload_n 1, 1) := by decide +kernel
theorem d_RV_bitFromTop_5 : decode prog_3_method_7_code 5 = .ok (.bipush 93, 2) := by decide +kernel
theorem d_RV_bitFromTop_7 : decode prog_3_method_7_code 7 = .ok (.if_icmp .lt 5, 3) := by decide +kernel
theorem d_RV_bitFromTop_10 : decode prog_3_method_7_code 10 = .ok (.iconst 0, 1) := by decide +kernel
theorem d_RV_bitFromTop_11 : decode prog_3_method_7_code 11 = .ok (.ireturn, 1) := by decide +kernel
theorem d_RV_bitFromTop_12 : decode prog_3_method_7_code 12 = .ok (.bipush 92, 2) := by decide +kernel
theorem d_RV_bitFromTop_14 : decode prog_3_method_7_code 14 = .ok (.iload_n 1, 1) := by decide +kernel
theorem d_RV_bitFromTop_15 : decode prog_3_method_7_code 15 = .ok (.isub, 1) := by decide +kernel
theorem d_RV_bitFromTop_16 : decode prog_3_method_7_code 16 = .ok (.istore_n 2, 1) := by decide +kernel
theorem d_RV_bitFromTop_17 : decode prog_3_method_7_code 17 = .ok (.aload_n 0, 1) := by decide +kernel
theorem d_RV_bitFromTop_18 : decode prog_3_method_7_code 18 = .ok (.getfield 9, 3) := by decide +kernel
theorem d_RV_bitFromTop_21 : decode prog_3_method_7_code 21 = .ok (.iload_n 2, 1) := by decide +kernel
theorem d_RV_bitFromTop_22 : decode prog_3_method_7_code 22 = .ok (.bipush 31, 2) := by decide +kernel
theorem d_RV_bitFromTop_24 : decode prog_3_method_7_code 24 = .ok (.idiv, 1) := by decide +kernel
theorem d_RV_bitFromTop_25 : decode prog_3_method_7_code 25 = .ok (.iaload, 1) := by decide +kernel
theorem d_RV_bitFromTop_26 : decode prog_3_method_7_code 26 = .ok (.iload_n 2, 1) := by decide +kernel
theorem d_RV_bitFromTop_27 : decode prog_3_method_7_code 27 = .ok (.bipush 31, 2) := by decide +kernel
theorem d_RV_bitFromTop_29 : decode prog_3_method_7_code 29 = .ok (.irem, 1) := by decide +kernel
theorem d_RV_bitFromTop_30 : decode prog_3_method_7_code 30 = .ok (.ishr, 1) := by decide +kernel
theorem d_RV_bitFromTop_31 : decode prog_3_method_7_code 31 = .ok (.iconst 1, 1) := by decide +kernel
theorem d_RV_bitFromTop_32 : decode prog_3_method_7_code 32 = .ok (.iand, 1) := by decide +kernel
theorem d_RV_bitFromTop_33 : decode prog_3_method_7_code 33 = .ok (.ireturn, 1) := by decide +kernel
def RV_bitFromTop (st : rn_S) (v : Nat) (p0 : Int32) : Int32 := (if p0 < 0 then (0 : Int32) else (if p0 < (93 : Int32) then nm ((92 : Int32) - p0) (fun x16 => (((rn_lb st v (x16 / (31 : Int32)).toNatClampNeg) >>> ((x16 - x16 / (31 : Int32) * (31 : Int32)) &&& 31)) &&& (1 : Int32))) else (0 : Int32)))
set_option maxHeartbeats 4000000 in
set_option maxRecDepth 100000 in
theorem c_RV_bitFromTop (l : Launch) {D : va_G} (a : Nat → Nat) (ci co : ClassId) (hi : rn_inj a) (st : rn_S) (v : Nat) (p0 : Int32) (hv : v < 10) (r0 : Int32) (hF : RV_bitFromTop st v p0 = r0) : ct_i l ⟨"RoundedNumbers$Value", "bitFromTop", "(I)I"⟩ (.code ⟨"RoundedNumbers$Value", "bitFromTop", "(I)I"⟩ prog_3_method_7_code 3 (some .int) :: ct_T) { frames := 0, cells := 0, slots := 0, locals := 0 } D vwCl (rn_T ci co) (rn_g a ci co) (rn_X a) [.ref (a (8 + v)), .int p0] st r0 st := by
  refine ct_i.mk (cc := prog_3_method_7_code) (maxL := 3) (by decide) rfl (Nat.le_of_ble_eq_true rfl) ?_
  intro p e s m below meth c hx hb hr hml hown hts hlk hK hN hP hS ls hl
  have hown : s.vm.findClass "RoundedNumbers$Value" = some m.cls := hown
  have hl : lv_has ls 3 [(0, .ref (a (8 + v))), (1, .int p0)] := hl
  have htb := fun w h => hts w (List.mem_cons_of_mem _ h)
  unfold RV_bitFromTop at hF
  refine lv_iload_n hx hb d_RV_bitFromTop_0 rfl (lv_at hl 1 rfl) ?_
  refine lv_if_lt hx hb d_RV_bitFromTop_1 (tgt := 10) (by decide) (fun c1 => ?_) (fun c1 => ?_)
  · replace hF := (if_pos c1).symm.trans hF
    refine lv_iconst (v := 0) hx hb d_RV_bitFromTop_10 (by decide) ?_
    subst hF
    exact ct_iret hx hb hr hlk hP hS d_RV_bitFromTop_11
  · replace hF := (if_neg c1).symm.trans hF
    refine lv_iload_n hx hb d_RV_bitFromTop_4 rfl (lv_at hl 1 rfl) ?_
    refine lv_bipush (v := 93) hx hb d_RV_bitFromTop_5 (by decide) ?_
    refine lv_icmp_lt hx hb d_RV_bitFromTop_7 (tgt := 12) (by decide) (fun c7 => ?_) (fun c7 => ?_)
    · replace hF := (if_pos c7).symm.trans hF
      refine lv_bipush (v := 92) hx hb d_RV_bitFromTop_12 (by decide) ?_
      refine lv_iload_n hx hb d_RV_bitFromTop_14 rfl (lv_at hl 1 rfl) ?_
      refine lv_isub hx hb d_RV_bitFromTop_15 ?_
      refine lv_topi (fun x16 e16 => ?_)
      replace hF := (nm_eq e16.symm).symm.trans hF
      refine lv_istore_n (lv' := [(2, .int x16), (0, .ref (a (8 + v))), (1, .int p0)]) hx hb d_RV_bitFromTop_16 rfl hl (by decide) rfl (fun ls hl => ?_)
      refine lv_aload_n hx hb d_RV_bitFromTop_17 rfl (lv_at hl 1 rfl) ?_
      refine gf_RV_9 hx hb htb hown hK hP (i := v) hv d_RV_bitFromTop_18 ?_
      refine lv_iload_n hx hb d_RV_bitFromTop_21 rfl (lv_at hl 0 rfl) ?_
      refine lv_bipush (v := 31) hx hb d_RV_bitFromTop_22 (by decide) ?_
      refine lv_idiv hx hb d_RV_bitFromTop_24 (by decide) ?_
      refine rn_ald_limbs hx hb hK hP (i := v) hv (nk_bit e16 c1 c7) d_RV_bitFromTop_25 ?_
      refine lv_iload_n hx hb d_RV_bitFromTop_26 rfl (lv_at hl 0 rfl) ?_
      refine lv_bipush (v := 31) hx hb d_RV_bitFromTop_27 (by decide) ?_
      refine lv_irem hx hb d_RV_bitFromTop_29 (by decide) ?_
      refine lv_ishr hx hb d_RV_bitFromTop_30 ?_
      refine lv_iconst (v := 1) hx hb d_RV_bitFromTop_31 (by decide) ?_
      refine lv_iand hx hb d_RV_bitFromTop_32 ?_
      subst hF
      exact ct_iret hx hb hr hlk hP hS d_RV_bitFromTop_33
    · replace hF := (if_neg c7).symm.trans hF
      refine lv_iconst (v := 0) hx hb d_RV_bitFromTop_10 (by decide) ?_
      subst hF
      exact ct_iret hx hb hr hlk hP hS d_RV_bitFromTop_11
theorem d_RV_infiniteSign_0 : decode prog_3_method_5_code 0 = .ok (.aload_n 0, 1) := by decide +kernel
theorem d_RV_infiniteSign_1 : decode prog_3_method_5_code 1 = .ok (.getfield 15, 3) := by decide +kernel
theorem d_RV_infiniteSign_4 : decode prog_3_method_5_code 4 = .ok (.iconst 1, 1) := by decide +kernel
theorem d_RV_infiniteSign_5 : decode prog_3_method_5_code 5 = .ok (.if_icmp .ne 10, 3) := by decide +kernel
theorem d_RV_infiniteSign_8 : decode prog_3_method_5_code 8 = .ok (.aload_n 0, 1) := by decide +kernel
theorem d_RV_infiniteSign_9 : decode prog_3_method_5_code 9 = .ok (.getfield 19, 3) := by decide +kernel
theorem d_RV_infiniteSign_12 : decode prog_3_method_5_code 12 = .ok (.goto 4, 3) := by decide +kernel
theorem d_RV_infiniteSign_15 : decode prog_3_method_5_code 15 = .ok (.iconst 0, 1) := by decide +kernel
theorem d_RV_infiniteSign_16 : decode prog_3_method_5_code 16 = .ok (.ireturn, 1) := by decide +kernel
def RV_infiniteSign (st : rn_S) (v : Nat) : Int32 := (if (rn_kd st v) = (1 : Int32) then (rn_sg st v) else (0 : Int32))
set_option maxHeartbeats 4000000 in
set_option maxRecDepth 100000 in
theorem c_RV_infiniteSign (l : Launch) {D : va_G} (a : Nat → Nat) (ci co : ClassId) (hi : rn_inj a) (st : rn_S) (v : Nat) (hv : v < 10) (r0 : Int32) (hF : RV_infiniteSign st v = r0) : ct_i l ⟨"RoundedNumbers$Value", "infiniteSign", "()I"⟩ (.code ⟨"RoundedNumbers$Value", "infiniteSign", "()I"⟩ prog_3_method_5_code 1 (some .int) :: ct_T) { frames := 0, cells := 0, slots := 0, locals := 0 } D vwCl (rn_T ci co) (rn_g a ci co) (rn_X a) [.ref (a (8 + v))] st r0 st := by
  refine ct_i.mk (cc := prog_3_method_5_code) (maxL := 1) (by decide) rfl (Nat.le_of_ble_eq_true rfl) ?_
  intro p e s m below meth c hx hb hr hml hown hts hlk hK hN hP hS ls hl
  have hown : s.vm.findClass "RoundedNumbers$Value" = some m.cls := hown
  have hl : lv_has ls 1 [(0, .ref (a (8 + v)))] := hl
  have htb := fun w h => hts w (List.mem_cons_of_mem _ h)
  unfold RV_infiniteSign at hF
  refine lv_aload_n hx hb d_RV_infiniteSign_0 rfl (lv_at hl 0 rfl) ?_
  refine gf_RV_15 hx hb htb hown hK hP (i := v) hv d_RV_infiniteSign_1 ?_
  refine lv_iconst (v := 1) hx hb d_RV_infiniteSign_4 (by decide) ?_
  refine lv_icmp_ne hx hb d_RV_infiniteSign_5 (tgt := 15) (by decide) (fun c5 => ?_) (fun c5 => ?_)
  · replace hF := (if_neg c5).symm.trans hF
    refine lv_iconst (v := 0) hx hb d_RV_infiniteSign_15 (by decide) ?_
    subst hF
    exact ct_iret hx hb hr hlk hP hS d_RV_infiniteSign_16
  · replace hF := (if_pos c5).symm.trans hF
    refine lv_aload_n hx hb d_RV_infiniteSign_8 rfl (lv_at hl 0 rfl) ?_
    refine gf_RV_19 hx hb htb hown hK hP (i := v) hv d_RV_infiniteSign_9 ?_
    refine lv_goto hx hb d_RV_infiniteSign_12 (tgt := 16) (by decide) ?_
    subst hF
    exact ct_iret hx hb hr hlk hP hS d_RV_infiniteSign_16
