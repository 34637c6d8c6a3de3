theorem d_JA_fill_exl_0 : decode prog_9_method_103_code 0 = .ok (.iconst 0, 1) := by decide +kernel
theorem d_JA_fill_exl_1 : decode prog_9_method_103_code 1 = .ok (.istore_n 2, 1) := by decide +kernel
theorem d_JA_fill_exl_2 : decode prog_9_method_103_code 2 = .ok (.aload_n 0, 1) := by decide +kernel
theorem d_JA_fill_exl_3 : decode prog_9_method_103_code 3 = .ok (.arraylength, 1) := by decide +kernel
theorem d_JA_fill_exl_4 : decode prog_9_method_103_code 4 = .ok (.istore_n 3, 1) := by decide +kernel
theorem d_JA_fill_exl_5 : decode prog_9_method_103_code 5 = .ok (.iload_n 2, 1) := by decide +kernel
theorem d_JA_fill_exl_6 : decode prog_9_method_103_code 6 = .ok (.iload_n 3, 1) := by decide +kernel
theorem d_JA_fill_exl_7 : decode prog_9_method_103_code 7 = .ok (.if_icmp .ge 13, 3) := by decide +kernel
theorem d_JA_fill_exl_10 : decode prog_9_method_103_code 10 = .ok (.aload_n 0, 1) := by decide +kernel
theorem d_JA_fill_exl_11 : decode prog_9_method_103_code 11 = .ok (.iload_n 2, 1) := by decide +kernel
theorem d_JA_fill_exl_12 : decode prog_9_method_103_code 12 = .ok (.iload_n 1, 1) := by decide +kernel
theorem d_JA_fill_exl_13 : decode prog_9_method_103_code 13 = .ok (.iastore, 1) := by decide +kernel
theorem d_JA_fill_exl_14 : decode prog_9_method_103_code 14 = .ok (.iinc 2 1, 3) := by decide +kernel
theorem d_JA_fill_exl_17 : decode prog_9_method_103_code 17 = .ok (.goto (-12), 3) := by decide +kernel
theorem d_JA_fill_exl_20 : decode prog_9_method_103_code 20 = .ok (.return_, 1) := by decide +kernel
def JA_fill_exl_5 : Nat → Int32 → Int32 → Int32 → rn_S → rn_S
  | 0, _, _, _, st => st
  | n + 1, L1, L2, L3, st => (if L3 ≤ L2 then st else nm (rn_exs st L2.toNatClampNeg L1) (fun t13 => nm (L2 + (1 : Int32)) (fun x14 => (JA_fill_exl_5 n) L1 x14 L3 t13)))
def JA_fill_exl (st : rn_S) (p1 : Int32) : rn_S := JA_fill_exl_5 (34) p1 (0 : Int32) (33 : Int32) st
set_option maxHeartbeats 4000000 in
set_option maxRecDepth 100000 in
theorem c_JA_fill_exl (l : Launch) {D : va_G} (a : Nat → Nat) (ci co : ClassId) (hi : rn_inj a) (st : rn_S) (p1 : Int32) (t0 : rn_S) (hF : JA_fill_exl st p1 = t0) : ct_v l ⟨"java/util/Arrays", "fill", "([II)V"⟩ (.code ⟨"java/util/Arrays", "fill", "([II)V"⟩ prog_9_method_103_code 4 none :: ct_T) { frames := 0, cells := 0, slots := 0, locals := 0 } D vwCl (rn_T ci co) (rn_g a ci co) (rn_X a) [.ref (a 4), .int p1] st t0 := by
  refine ct_v.mk (cc := prog_9_method_103_code) (maxL := 4) (by decide) rfl (Nat.le_of_ble_eq_true rfl) ?_
  intro p e s m below meth c hx hb hr hml hown hts hlk hK hN hP hS ls hl
  have hown : s.vm.findClass "java/util/Arrays" = some m.cls := hown
  have hl : lv_has ls 4 [(0, .ref (a 4)), (1, .int p1)] := hl
  have htb := fun w h => hts w (List.mem_cons_of_mem _ h)
  unfold JA_fill_exl at hF
  refine lv_iconst (v := 0) hx hb d_JA_fill_exl_0 (by decide) ?_
  refine lv_istore_n (lv' := [(2, .int (0 : Int32)), (0, .ref (a 4)), (1, .int p1)]) hx hb d_JA_fill_exl_1 rfl hl (by decide) rfl (fun ls hl => ?_)
  refine lv_aload_n hx hb d_JA_fill_exl_2 rfl (lv_at hl 1 rfl) ?_
  refine rn_len_exl hx hb hK hP d_JA_fill_exl_3 ?_
  refine lv_istore_n (lv' := [(3, .int (33 : Int32)), (2, .int (0 : Int32)), (0, .ref (a 4)), (1, .int p1)]) hx hb d_JA_fill_exl_4 rfl hl (by decide) rfl (fun ls hl => ?_)
  refine ct_loop2 (fun n (w5L2 : Int32) (w5t : rn_S) ls H locs => lv_has ls 4 [(3, .int (33 : Int32)), (2, .int w5L2), (0, .ref (a 4)), (1, .int p1)] ∧ (∃ k, w5L2 = nI k ∧ k < 2147483648 ∧ 33 - k < n) ∧ JA_fill_exl_5 n p1 w5L2 (33 : Int32) w5t = t0 ∧ va_P D vwCl (rn_g a ci co w5t) H ∧ va_S (ct_F (rn_X a) s.heap.size) s.heap H locs) 5 ?_ ?_ (34) (0 : Int32) st ⟨lv_sub hl [0, 1, 2, 3] rfl, ⟨0, rfl, by omega, by omega⟩, hF, hP, hS⟩
  · intro w5L2 w5t ls H locs hq
    obtain ⟨hl, hq9, hF, hP, hS⟩ := hq
    obtain ⟨k, e9, hk, hn⟩ := hq9
    exact absurd hn (Nat.not_lt_zero _)
  · intro n5 ih5 w5L2 w5t ls H locs hq
    obtain ⟨hl, hq9, hF, hP, hS⟩ := hq
    obtain ⟨k5, e9, hk5, hn5⟩ := hq9
    subst e9
    rw [JA_fill_exl_5] at hF
    refine lv_iload_n hx hb d_JA_fill_exl_5 rfl (lv_at hl 1 rfl) ?_
    refine lv_iload_n hx hb d_JA_fill_exl_6 rfl (lv_at hl 0 rfl) ?_
    refine lv_icmp_ge hx hb d_JA_fill_exl_7 (tgt := 20) (by decide) (fun c7 => ?_) (fun c7 => ?_)
    · replace hF := (if_pos c7).symm.trans hF
      subst hF
      exact ct_vret hx hb hr hlk hP hS d_JA_fill_exl_20
    · replace hF := (if_neg c7).symm.trans hF
      refine lv_aload_n hx hb d_JA_fill_exl_10 rfl (lv_at hl 2 rfl) ?_
      refine lv_iload_n hx hb d_JA_fill_exl_11 rfl (lv_at hl 1 rfl) ?_
      refine lv_iload_n hx hb d_JA_fill_exl_12 rfl (lv_at hl 3 rfl) ?_
      refine rn_ast_exl hx hb hK hP hS hi (nk_in hk5 rfl (by decide) c7) d_JA_fill_exl_13 (fun H locs hP hS => ?_)
      obtain ⟨t13, e13, hP⟩ := nm_st hP
      replace hF := (nm_eq e13).symm.trans hF
      obtain ⟨x14, e14⟩ := nm_ex ((nI k5) + (1 : Int32))
      replace hF := (nm_eq e14).symm.trans hF
      refine lv_iinc (v := x14) (lv' := [(2, .int x14), (3, .int (33 : Int32)), (0, .ref (a 4)), (1, .int p1)]) hx hb d_JA_fill_exl_14 hl (k := 1) rfl e14 (by decide) rfl (fun ls hl => ?_)
      refine lv_goto hx hb d_JA_fill_exl_17 (tgt := 5) (by decide) ?_
      have hk9 : k5 < 33 := nk_lt hk5 rfl (by decide) c7
      exact ih5 x14 t13 _ _ _ ⟨lv_sub hl [1, 0, 2, 3] rfl, ⟨k5 + 1, e14.symm.trans (nI_1 k5), by omega, by omega⟩, hF, hP, hS⟩
theorem d_JA_fill_limbs_0 : decode prog_9_method_103_code 0 = .ok (.iconst 0, 1) := by decide +kernel
theorem d_JA_fill_limbs_1 : decode prog_9_method_103_code 1 = .ok (.istore_n 2, 1) := by decide +kernel
theorem d_JA_fill_limbs_2 : decode prog_9_method_103_code 2 = .ok (.aload_n 0, 1) := by decide +kernel
theorem d_JA_fill_limbs_3 : decode prog_9_method_103_code 3 = .ok (.arraylength, 1) := by decide +kernel
theorem d_JA_fill_limbs_4 : decode prog_9_method_103_code 4 = .ok (.istore_n 3, 1) := by decide +kernel
theorem d_JA_fill_limbs_5 : decode prog_9_method_103_code 5 = .ok (.iload_n 2, 1) := by decide +kernel
theorem d_JA_fill_limbs_6 : decode prog_9_method_103_code 6 = .ok (.iload_n 3, 1) := by decide +kernel
theorem d_JA_fill_limbs_7 : decode prog_9_method_103_code 7 = .ok (.if_icmp .ge 13, 3) := by decide +kernel
theorem d_JA_fill_limbs_10 : decode prog_9_method_103_code 10 = .ok (.aload_n 0, 1) := by decide +kernel
theorem d_JA_fill_limbs_11 : decode prog_9_method_103_code 11 = .ok (.iload_n 2, 1) := by decide +kernel
theorem d_JA_fill_limbs_12 : decode prog_9_method_103_code 12 = .ok (.iload_n 1, 1) := by decide +kernel
theorem d_JA_fill_limbs_13 : decode prog_9_method_103_code 13 = .ok (.iastore, 1) := by decide +kernel
theorem d_JA_fill_limbs_14 : decode prog_9_method_103_code 14 = .ok (.iinc 2 1, 3) := by decide +kernel
theorem d_JA_fill_limbs_17 : decode prog_9_method_103_code 17 = .ok (.goto (-12), 3) := by decide +kernel
theorem d_JA_fill_limbs_20 : decode prog_9_method_103_code 20 = .ok (.return_, 1) := by decide +kernel
def JA_fill_limbs_5 : Nat → Nat → Int32 → Int32 → Int32 → rn_S → rn_S
  | 0, _, _, _, _, st => st
  | n + 1, L0, L1, L2, L3, st => (if L3 ≤ L2 then st else nm (rn_lbs st L0 L2.toNatClampNeg L1) (fun t13 => nm (L2 + (1 : Int32)) (fun x14 => (JA_fill_limbs_5 n) L0 L1 x14 L3 t13)))
def JA_fill_limbs (st : rn_S) (v0 : Nat) (p1 : Int32) : rn_S := nm (nI (rn_len v0)) (fun x4 => JA_fill_limbs_5 (rn_len v0 + 1) v0 p1 (0 : Int32) x4 st)
set_option maxHeartbeats 4000000 in
set_option maxRecDepth 100000 in
theorem c_JA_fill_limbs (l : Launch) {D : va_G} (a : Nat → Nat) (ci co : ClassId) (hi : rn_inj a) (st : rn_S) (v0 : Nat) (p1 : Int32) (hv0 : v0 < 10) (t0 : rn_S) (hF : JA_fill_limbs st v0 p1 = t0) : ct_v l ⟨"java/util/Arrays", "fill", "([II)V"⟩ (.code ⟨"java/util/Arrays", "fill", "([II)V"⟩ prog_9_method_103_code 4 none :: ct_T) { frames := 0, cells := 0, slots := 0, locals := 0 } D vwCl (rn_T ci co) (rn_g a ci co) (rn_X a) [.ref (a (18 + v0)), .int p1] st t0 := by
  refine ct_v.mk (cc := prog_9_method_103_code) (maxL := 4) (by decide) rfl (Nat.le_of_ble_eq_true rfl) ?_
  intro p e s m below meth c hx hb hr hml hown hts hlk hK hN hP hS ls hl
  have hown : s.vm.findClass "java/util/Arrays" = some m.cls := hown
  have hl : lv_has ls 4 [(0, .ref (a (18 + v0))), (1, .int p1)] := hl
  have htb := fun w h => hts w (List.mem_cons_of_mem _ h)
  unfold JA_fill_limbs at hF
  refine lv_iconst (v := 0) hx hb d_JA_fill_limbs_0 (by decide) ?_
  refine lv_istore_n (lv' := [(2, .int (0 : Int32)), (0, .ref (a (18 + v0))), (1, .int p1)]) hx hb d_JA_fill_limbs_1 rfl hl (by decide) rfl (fun ls hl => ?_)
  refine lv_aload_n hx hb d_JA_fill_limbs_2 rfl (lv_at hl 1 rfl) ?_
  refine rn_len_limbs hx hb hK hP (i := v0) hv0 d_JA_fill_limbs_3 ?_
  refine lv_topi (fun x4 e4 => ?_)
  replace hF := (nm_eq e4.symm).symm.trans hF
  refine lv_istore_n (lv' := [(3, .int x4), (2, .int (0 : Int32)), (0, .ref (a (18 + v0))), (1, .int p1)]) hx hb d_JA_fill_limbs_4 rfl hl (by decide) rfl (fun ls hl => ?_)
  refine ct_loop2 (fun n (w5L2 : Int32) (w5t : rn_S) ls H locs => lv_has ls 4 [(3, .int x4), (2, .int w5L2), (0, .ref (a (18 + v0))), (1, .int p1)] ∧ (∃ k, w5L2 = nI k ∧ k < 2147483648 ∧ rn_len v0 - k < n) ∧ JA_fill_limbs_5 n v0 p1 w5L2 x4 w5t = t0 ∧ va_P D vwCl (rn_g a ci co w5t) H ∧ va_S (ct_F (rn_X a) s.heap.size) s.heap H locs) 5 ?_ ?_ (rn_len v0 + 1) (0 : Int32) st ⟨lv_sub hl [0, 1, 2, 3] rfl, ⟨0, rfl, by omega, by omega⟩, hF, hP, hS⟩
  · intro w5L2 w5t ls H locs hq
    obtain ⟨hl, hq9, hF, hP, hS⟩ := hq
    obtain ⟨k, e9, hk, hn⟩ := hq9
    exact absurd hn (Nat.not_lt_zero _)
  · intro n5 ih5 w5L2 w5t ls H locs hq
    obtain ⟨hl, hq9, hF, hP, hS⟩ := hq
    obtain ⟨k5, e9, hk5, hn5⟩ := hq9
    subst e9
    rw [JA_fill_limbs_5] at hF
    refine lv_iload_n hx hb d_JA_fill_limbs_5 rfl (lv_at hl 1 rfl) ?_
    refine lv_iload_n hx hb d_JA_fill_limbs_6 rfl (lv_at hl 0 rfl) ?_
    refine lv_icmp_ge hx hb d_JA_fill_limbs_7 (tgt := 20) (by decide) (fun c7 => ?_) (fun c7 => ?_)
    · replace hF := (if_pos c7).symm.trans hF
      subst hF
      exact ct_vret hx hb hr hlk hP hS d_JA_fill_limbs_20
    · replace hF := (if_neg c7).symm.trans hF
      refine lv_aload_n hx hb d_JA_fill_limbs_10 rfl (lv_at hl 2 rfl) ?_
      refine lv_iload_n hx hb d_JA_fill_limbs_11 rfl (lv_at hl 1 rfl) ?_
      refine lv_iload_n hx hb d_JA_fill_limbs_12 rfl (lv_at hl 3 rfl) ?_
      refine rn_ast_limbs hx hb hK hP hS hi (i := v0) hv0 (nk_in hk5 e4 (nk_lenlt v0) c7) d_JA_fill_limbs_13 (fun H locs hP hS => ?_)
      obtain ⟨t13, e13, hP⟩ := nm_st hP
      replace hF := (nm_eq e13).symm.trans hF
      obtain ⟨x14, e14⟩ := nm_ex ((nI k5) + (1 : Int32))
      replace hF := (nm_eq e14).symm.trans hF
      refine lv_iinc (v := x14) (lv' := [(2, .int x14), (3, .int x4), (0, .ref (a (18 + v0))), (1, .int p1)]) hx hb d_JA_fill_limbs_14 hl (k := 1) rfl e14 (by decide) rfl (fun ls hl => ?_)
      refine lv_goto hx hb d_JA_fill_limbs_17 (tgt := 5) (by decide) ?_
      have hk9 : k5 < rn_len v0 := nk_lt hk5 e4 (nk_lenlt v0) c7
      have hN9 := (nk_lenlt v0)
      exact ih5 x14 t13 _ _ _ ⟨lv_sub hl [1, 0, 2, 3] rfl, ⟨k5 + 1, e14.symm.trans (nI_1 k5), by omega, by omega⟩, hF, hP, hS⟩
theorem d_JI_numberOfLeadingZeros_0 : decode prog_7_method_47_code 0 = .ok (.iload_n 0, 1) := by decide +kernel
theorem d_JI_numberOfLeadingZeros_1 : decode prog_7_method_47_code 1 = .ok (.ifCond .gt 14, 3) := by decide +kernel
theorem d_JI_numberOfLeadingZeros_4 : decode prog_7_method_47_code 4 = .ok (.iload_n 0, 1) := by decide +kernel
theorem d_JI_numberOfLeadingZeros_5 : decode prog_7_method_47_code 5 = .ok (.ifCond .ne 8, 3) := by decide +kernel
theorem d_JI_numberOfLeadingZeros_8 : decode prog_7_method_47_code 8 = .ok (.bipush 32, 2) := by decide +kernel
theorem d_JI_numberOfLeadingZeros_10 : decode prog_7_method_47_code 10 = .ok (.goto 4, 3) := by decide +kernel
theorem d_JI_numberOfLeadingZeros_13 : decode prog_7_method_47_code 13 = .ok (.iconst 0, 1) := by decide +kernel
theorem d_JI_numberOfLeadingZeros_14 : decode prog_7_method_47_code 14 = .ok (.ireturn, 1) := by decide +kernel
theorem d_JI_numberOfLeadingZeros_15 : decode prog_7_method_47_code 15 = .ok (.bipush 31, 2) := by decide +kernel
theorem d_JI_numberOfLeadingZeros_17 : decode prog_7_method_47_code 17 = .ok (.istore_n 1, 1) := by decide +kernel
theorem d_JI_numberOfLeadingZeros_18 : decode prog_7_method_47_code 18 = .ok (.iload_n 0, 1) := by decide +kernel
theorem d_JI_numberOfLeadingZeros_19 : decode prog_7_method_47_code 19 = .ok (.ldc_w 264, 3) := by decide +kernel
theorem d_JI_numberOfLeadingZeros_22 : decode prog_7_method_47_code 22 = .ok (.if_icmp .lt 11, 3) := by decide +kernel
theorem d_JI_numberOfLeadingZeros_25 : decode prog_7_method_47_code 25 = .ok (.iinc 1 (-16), 3) := by decide +kernel
theorem d_JI_numberOfLeadingZeros_28 : decode prog_7_method_47_code 28 = .ok (.iload_n 0, 1) := by decide +kernel
theorem d_JI_numberOfLeadingZeros_29 : decode prog_7_method_47_code 29 = .ok (.bipush 16, 2) := by decide +kernel
theorem d_JI_numberOfLeadingZeros_31 : decode prog_7_method_47_code 31 = .ok (.iushr, 1) := by decide +kernel
theorem d_JI_numberOfLeadingZeros_32 : decode prog_7_method_47_code 32 = .ok (.istore_n 0, 1) := by decide +kernel
theorem d_JI_numberOfLeadingZeros_33 : decode prog_7_method_47_code 33 = .ok (.iload_n 0, 1) := by decide +kernel
theorem d_JI_numberOfLeadingZeros_34 : decode prog_7_method_47_code 34 = .ok (.sipush 256, 3) := by decide +kernel
theorem d_JI_numberOfLeadingZeros_37 : decode prog_7_method_47_code 37 = .ok (.if_icmp .lt 11, 3) := by decide +kernel
theorem d_JI_numberOfLeadingZeros_40 : decode prog_7_method_47_code 40 = .ok (.iinc 1 (-8), 3) := by decide +kernel
theorem d_JI_numberOfLeadingZeros_43 : decode prog_7_method_47_code 43 = .ok (.iload_n 0, 1) := by decide +kernel
theorem d_JI_numberOfLeadingZeros_44 : decode prog_7_method_47_code 44 = .ok (.bipush 8, 2) := by decide +kernel
theorem d_JI_numberOfLeadingZeros_46 : decode prog_7_method_47_code 46 = .ok (.iushr, 1) := by decide +kernel
theorem d_JI_numberOfLeadingZeros_47 : decode prog_7_method_47_code 47 = .ok (.istore_n 0, 1) := by decide +kernel
theorem d_JI_numberOfLeadingZeros_48 : decode prog_7_method_47_code 48 = .ok (.iload_n 0, 1) := by decide +kernel
theorem d_JI_numberOfLeadingZeros_49 : decode prog_7_method_47_code 49 = .ok (.bipush 16, 2) := by decide +kernel
theorem d_JI_numberOfLeadingZeros_51 : decode prog_7_method_47_code 51 = .ok (.if_icmp .lt 10, 3) := by decide +kernel
theorem d_JI_numberOfLeadingZeros_54 : decode prog_7_method_47_code 54 = .ok (.iinc 1 (-4), 3) := by decide +kernel
theorem d_JI_numberOfLeadingZeros_57 : decode prog_7_method_47_code 57 = .ok (.iload_n 0, 1) := by decide +kernel
theorem d_JI_numberOfLeadingZeros_58 : decode prog_7_method_47_code 58 = .ok (.iconst 4, 1) := by decide +kernel
theorem d_JI_numberOfLeadingZeros_59 : decode prog_7_method_47_code 59 = .ok (.iushr, 1) := by decide +kernel
theorem d_JI_numberOfLeadingZeros_60 : decode prog_7_method_47_code 60 = .ok (.istore_n 0, 1) := by decide +kernel
theorem d_JI_numberOfLeadingZeros_61 : decode prog_7_method_47_code 61 = .ok (.iload_n 0, 1) := by decide +kernel
theorem d_JI_numberOfLeadingZeros_62 : decode prog_7_method_47_code 62 = .ok (.iconst 4, 1) := by decide +kernel
theorem d_JI_numberOfLeadingZeros_63 : decode prog_7_method_47_code 63 = .ok (.if_icmp .lt 10, 3) := by decide +kernel
theorem d_JI_numberOfLeadingZeros_66 : decode prog_7_method_47_code 66 = .ok (.iinc 1 (-2), 3) := by decide +kernel
theorem d_JI_numberOfLeadingZeros_69 : decode prog_7_method_47_code 69 = .ok (.iload_n 0, 1) := by decide +kernel
theorem d_JI_numberOfLeadingZeros_70 : decode prog_7_method_47_code 70 = .ok (.iconst 2, 1) := by decide +kernel
theorem d_JI_numberOfLeadingZeros_71 : decode prog_7_method_47_code 71 = .ok (.iushr, 1) := by decide +kernel
theorem d_JI_numberOfLeadingZeros_72 : decode prog_7_method_47_code 72 = .ok (.istore_n 0, 1) := by decide +kernel
theorem d_JI_numberOfLeadingZeros_73 : decode prog_7_method_47_code 73 = .ok (.iload_n 1, 1) := by decide +kernel
theorem d_JI_numberOfLeadingZeros_74 : decode prog_7_method_47_code 74 = .ok (.iload_n 0, 1) := by decide +kernel
theorem d_JI_numberOfLeadingZeros_75 : decode prog_7_method_47_code 75 = .ok (.iconst 1, 1) := by decide +kernel
theorem d_JI_numberOfLeadingZeros_76 : decode prog_7_method_47_code 76 = .ok (.iushr, 1) := by decide +kernel
theorem d_JI_numberOfLeadingZeros_77 : decode prog_7_method_47_code 77 = .ok (.isub, 1) := by decide +kernel
theorem d_JI_numberOfLeadingZeros_78 : decode prog_7_method_47_code 78 = .ok (.ireturn, 1) := by decide +kernel
def JI_numberOfLeadingZeros_73 (L0 : Int32) (L1 : Int32) : Int32 := (L1 - (L0.toUInt32 >>> ((1 : Int32).toUInt32 &&& Int32.toUInt32 31)).toInt32)
def JI_numberOfLeadingZeros_61 (L0 : Int32) (L1 : Int32) : Int32 := (if L0 < (4 : Int32) then JI_numberOfLeadingZeros_73 L0 L1 else nm (L1 + (-2 : Int32)) (fun x66 => nm ((L0.toUInt32 >>> ((2 : Int32).toUInt32 &&& Int32.toUInt32 31)).toInt32) (fun x72 => JI_numberOfLeadingZeros_73 x72 x66)))
def JI_numberOfLeadingZeros_48 (L0 : Int32) (L1 : Int32) : Int32 := (if L0 < (16 : Int32) then JI_numberOfLeadingZeros_61 L0 L1 else nm (L1 + (-4 : Int32)) (fun x54 => nm ((L0.toUInt32 >>> ((4 : Int32).toUInt32 &&& Int32.toUInt32 31)).toInt32) (fun x60 => JI_numberOfLeadingZeros_61 x60 x54)))
def JI_numberOfLeadingZeros_33 (L0 : Int32) (L1 : Int32) : Int32 := (if L0 < (256 : Int32) then JI_numberOfLeadingZeros_48 L0 L1 else nm (L1 + (-8 : Int32)) (fun x40 => nm ((L0.toUInt32 >>> ((8 : Int32).toUInt32 &&& Int32.toUInt32 31)).toInt32) (fun x47 => JI_numberOfLeadingZeros_48 x47 x40)))
def JI_numberOfLeadingZeros (p0 : Int32) : Int32 := (if 0 < p0 then (if p0 < (65536 : Int32) then JI_numberOfLeadingZeros_33 p0 (31 : Int32) else nm ((31 : Int32) + (-16 : Int32)) (fun x25 => nm ((p0.toUInt32 >>> ((16 : Int32).toUInt32 &&& Int32.toUInt32 31)).toInt32) (fun x32 => JI_numberOfLeadingZeros_33 x32 x25))) else (if p0 = 0 then (32 : Int32) else (0 : Int32)))
set_option maxHeartbeats 4000000 in
set_option maxRecDepth 100000 in
theorem c_JI_numberOfLeadingZeros (l : Launch) {D : va_G} (a : Nat → Nat) (ci co : ClassId) (hi : rn_inj a) (st : rn_S) (p0 : Int32) (r0 : Int32) (hF : JI_numberOfLeadingZeros p0 = r0) : ct_i l ⟨"java/lang/Integer", "numberOfLeadingZeros", "(I)I"⟩ (.code ⟨"java/lang/Integer", "numberOfLeadingZeros", "(I)I"⟩ prog_7_method_47_code 2 (some .int) :: ct_T) { frames := 0, cells := 0, slots := 0, locals := 0 } D vwCl (rn_T ci co) (rn_g a ci co) (rn_X a) [.int p0] st r0 st := by
  refine ct_i.mk (cc := prog_7_method_47_code) (maxL := 2) (by decide) rfl (Nat.le_of_ble_eq_true rfl) ?_
  intro p e s m below meth c hx hb hr hml hown hts hlk hK hN hP hS ls hl
  have hown : s.vm.findClass "java/lang/Integer" = some m.cls := hown
  have hl : lv_has ls 2 [(0, .int p0)] := hl
  have htb := fun w h => hts w (List.mem_cons_of_mem _ h)
  unfold JI_numberOfLeadingZeros at hF
  refine lv_iload_n hx hb d_JI_numberOfLeadingZeros_0 rfl (lv_at hl 0 rfl) ?_
  refine lv_if_gt hx hb d_JI_numberOfLeadingZeros_1 (tgt := 15) (by decide) (fun c1 => ?_) (fun c1 => ?_)
  · replace hF := (if_pos c1).symm.trans hF
    refine lv_bipush (v := 31) hx hb d_JI_numberOfLeadingZeros_15 (by decide) ?_
    refine lv_istore_n (lv' := [(1, .int (31 : Int32)), (0, .int p0)]) hx hb d_JI_numberOfLeadingZeros_17 rfl hl (by decide) rfl (fun ls hl => ?_)
    refine lv_iload_n hx hb d_JI_numberOfLeadingZeros_18 rfl (lv_at hl 1 rfl) ?_
    refine lv_ldcw (v := 65536) hx hb hown (htb _ mw_30) d_JI_numberOfLeadingZeros_19 ?_
    refine ct_cut2 (fun (j33L1 : Int32) (j33L0 : Int32) ls H locs => lv_has ls 2 [(1, .int j33L1), (0, .int j33L0)] ∧ JI_numberOfLeadingZeros_33 j33L0 j33L1 = r0 ∧ va_P D vwCl (rn_g a ci co st) H ∧ va_S (ct_F (rn_X a) s.heap.size) s.heap H locs) 33 (fun j33L1 j33L0 => []) ?_ ?_
    · intro j33L1 j33L0 ls H locs hq
      obtain ⟨hl, hF, hP, hS⟩ := hq
      unfold JI_numberOfLeadingZeros_33 at hF
      refine lv_iload_n hx hb d_JI_numberOfLeadingZeros_33 rfl (lv_at hl 1 rfl) ?_
      refine lv_sipush (v := 256) hx hb d_JI_numberOfLeadingZeros_34 (by decide) ?_
      refine ct_cut2 (fun (j48L1 : Int32) (j48L0 : Int32) ls H locs => lv_has ls 2 [(1, .int j48L1), (0, .int j48L0)] ∧ JI_numberOfLeadingZeros_48 j48L0 j48L1 = r0 ∧ va_P D vwCl (rn_g a ci co st) H ∧ va_S (ct_F (rn_X a) s.heap.size) s.heap H locs) 48 (fun j48L1 j48L0 => []) ?_ ?_
      · intro j48L1 j48L0 ls H locs hq
        obtain ⟨hl, hF, hP, hS⟩ := hq
        unfold JI_numberOfLeadingZeros_48 at hF
        refine lv_iload_n hx hb d_JI_numberOfLeadingZeros_48 rfl (lv_at hl 1 rfl) ?_
        refine lv_bipush (v := 16) hx hb d_JI_numberOfLeadingZeros_49 (by decide) ?_
        refine ct_cut2 (fun (j61L1 : Int32) (j61L0 : Int32) ls H locs => lv_has ls 2 [(1, .int j61L1), (0, .int j61L0)] ∧ JI_numberOfLeadingZeros_61 j61L0 j61L1 = r0 ∧ va_P D vwCl (rn_g a ci co st) H ∧ va_S (ct_F (rn_X a) s.heap.size) s.heap H locs) 61 (fun j61L1 j61L0 => []) ?_ ?_
        · intro j61L1 j61L0 ls H locs hq
          obtain ⟨hl, hF, hP, hS⟩ := hq
          unfold JI_numberOfLeadingZeros_61 at hF
          refine lv_iload_n hx hb d_JI_numberOfLeadingZeros_61 rfl (lv_at hl 1 rfl) ?_
          refine lv_iconst (v := 4) hx hb d_JI_numberOfLeadingZeros_62 (by decide) ?_
          refine ct_cut2 (fun (j73L1 : Int32) (j73L0 : Int32) ls H locs => lv_has ls 2 [(1, .int j73L1), (0, .int j73L0)] ∧ JI_numberOfLeadingZeros_73 j73L0 j73L1 = r0 ∧ va_P D vwCl (rn_g a ci co st) H ∧ va_S (ct_F (rn_X a) s.heap.size) s.heap H locs) 73 (fun j73L1 j73L0 => []) ?_ ?_
          · intro j73L1 j73L0 ls H locs hq
            obtain ⟨hl, hF, hP, hS⟩ := hq
            unfold JI_numberOfLeadingZeros_73 at hF
            refine lv_iload_n hx hb d_JI_numberOfLeadingZeros_73 rfl (lv_at hl 0 rfl) ?_
            refine lv_iload_n hx hb d_JI_numberOfLeadingZeros_74 rfl (lv_at hl 1 rfl) ?_
            refine lv_iconst (v := 1) hx hb d_JI_numberOfLeadingZeros_75 (by decide) ?_
            refine lv_iushr hx hb d_JI_numberOfLeadingZeros_76 rfl ?_
            refine lv_isub hx hb d_JI_numberOfLeadingZeros_77 ?_
            subst hF
            exact ct_iret hx hb hr hlk hP hS d_JI_numberOfLeadingZeros_78
          · intro kj73
            refine lv_icmp_lt hx hb d_JI_numberOfLeadingZeros_63 (tgt := 73) (by decide) (fun c63 => ?_) (fun c63 => ?_)
            · replace hF := (if_pos c63).symm.trans hF
              exact kj73 j61L1 j61L0 _ _ _ ⟨lv_sub hl [0, 1] rfl, hF, hP, hS⟩
            · replace hF := (if_neg c63).symm.trans hF
              obtain ⟨x66, e66⟩ := nm_ex (j61L1 + (-2 : Int32))
              replace hF := (nm_eq e66).symm.trans hF
              refine lv_iinc (v := x66) (lv' := [(1, .int x66), (0, .int j61L0)]) hx hb d_JI_numberOfLeadingZeros_66 hl (k := 0) rfl e66 (by decide) rfl (fun ls hl => ?_)
              refine lv_iload_n hx hb d_JI_numberOfLeadingZeros_69 rfl (lv_at hl 1 rfl) ?_
              refine lv_iconst (v := 2) hx hb d_JI_numberOfLeadingZeros_70 (by decide) ?_
              refine lv_iushr hx hb d_JI_numberOfLeadingZeros_71 rfl ?_
              refine lv_topi (fun x72 e72 => ?_)
              replace hF := (nm_eq e72.symm).symm.trans hF
              refine lv_istore_n (lv' := [(0, .int x72), (1, .int x66)]) hx hb d_JI_numberOfLeadingZeros_72 rfl hl (by decide) rfl (fun ls hl => ?_)
              exact kj73 x66 x72 _ _ _ ⟨lv_sub hl [1, 0] rfl, hF, hP, hS⟩
        · intro kj61
          refine lv_icmp_lt hx hb d_JI_numberOfLeadingZeros_51 (tgt := 61) (by decide) (fun c51 => ?_) (fun c51 => ?_)
          · replace hF := (if_pos c51).symm.trans hF
            exact kj61 j48L1 j48L0 _ _ _ ⟨lv_sub hl [0, 1] rfl, hF, hP, hS⟩
          · replace hF := (if_neg c51).symm.trans hF
            obtain ⟨x54, e54⟩ := nm_ex (j48L1 + (-4 : Int32))
            replace hF := (nm_eq e54).symm.trans hF
            refine lv_iinc (v := x54) (lv' := [(1, .int x54), (0, .int j48L0)]) hx hb d_JI_numberOfLeadingZeros_54 hl (k := 0) rfl e54 (by decide) rfl (fun ls hl => ?_)
            refine lv_iload_n hx hb d_JI_numberOfLeadingZeros_57 rfl (lv_at hl 1 rfl) ?_
            refine lv_iconst (v := 4) hx hb d_JI_numberOfLeadingZeros_58 (by decide) ?_
            refine lv_iushr hx hb d_JI_numberOfLeadingZeros_59 rfl ?_
            refine lv_topi (fun x60 e60 => ?_)
            replace hF := (nm_eq e60.symm).symm.trans hF
            refine lv_istore_n (lv' := [(0, .int x60), (1, .int x54)]) hx hb d_JI_numberOfLeadingZeros_60 rfl hl (by decide) rfl (fun ls hl => ?_)
            exact kj61 x54 x60 _ _ _ ⟨lv_sub hl [1, 0] rfl, hF, hP, hS⟩
      · intro kj48
        refine lv_icmp_lt hx hb d_JI_numberOfLeadingZeros_37 (tgt := 48) (by decide) (fun c37 => ?_) (fun c37 => ?_)
        · replace hF := (if_pos c37).symm.trans hF
          exact kj48 j33L1 j33L0 _ _ _ ⟨lv_sub hl [0, 1] rfl, hF, hP, hS⟩
        · replace hF := (if_neg c37).symm.trans hF
          obtain ⟨x40, e40⟩ := nm_ex (j33L1 + (-8 : Int32))
          replace hF := (nm_eq e40).symm.trans hF
          refine lv_iinc (v := x40) (lv' := [(1, .int x40), (0, .int j33L0)]) hx hb d_JI_numberOfLeadingZeros_40 hl (k := 0) rfl e40 (by decide) rfl (fun ls hl => ?_)
          refine lv_iload_n hx hb d_JI_numberOfLeadingZeros_43 rfl (lv_at hl 1 rfl) ?_
          refine lv_bipush (v := 8) hx hb d_JI_numberOfLeadingZeros_44 (by decide) ?_
          refine lv_iushr hx hb d_JI_numberOfLeadingZeros_46 rfl ?_
          refine lv_topi (fun x47 e47 => ?_)
          replace hF := (nm_eq e47.symm).symm.trans hF
          refine lv_istore_n (lv' := [(0, .int x47), (1, .int x40)]) hx hb d_JI_numberOfLeadingZeros_47 rfl hl (by decide) rfl (fun ls hl => ?_)
          exact kj48 x40 x47 _ _ _ ⟨lv_sub hl [1, 0] rfl, hF, hP, hS⟩
    · intro kj33
      refine lv_icmp_lt hx hb d_JI_numberOfLeadingZeros_22 (tgt := 33) (by decide) (fun c22 => ?_) (fun c22 => ?_)
      · replace hF := (if_pos c22).symm.trans hF
        exact kj33 (31 : Int32) p0 _ _ _ ⟨lv_sub hl [0, 1] rfl, hF, hP, hS⟩
      · replace hF := (if_neg c22).symm.trans hF
        obtain ⟨x25, e25⟩ := nm_ex ((31 : Int32) + (-16 : Int32))
        replace hF := (nm_eq e25).symm.trans hF
        refine lv_iinc (v := x25) (lv' := [(1, .int x25), (0, .int p0)]) hx hb d_JI_numberOfLeadingZeros_25 hl (k := 0) rfl e25 (by decide) rfl (fun ls hl => ?_)
        refine lv_iload_n hx hb d_JI_numberOfLeadingZeros_28 rfl (lv_at hl 1 rfl) ?_
        refine lv_bipush (v := 16) hx hb d_JI_numberOfLeadingZeros_29 (by decide) ?_
        refine lv_iushr hx hb d_JI_numberOfLeadingZeros_31 rfl ?_
        refine lv_topi (fun x32 e32 => ?_)
        replace hF := (nm_eq e32.symm).symm.trans hF
        refine lv_istore_n (lv' := [(0, .int x32), (1, .int x25)]) hx hb d_JI_numberOfLeadingZeros_32 rfl hl (by decide) rfl (fun ls hl => ?_)
        exact kj33 x25 x32 _ _ _ ⟨lv_sub hl [1, 0] rfl, hF, hP, hS⟩
  · replace hF := (if_neg c1).symm.trans hF
    refine lv_iload_n hx hb d_JI_numberOfLeadingZeros_4 rfl (lv_at hl 0 rfl) ?_
    refine lv_if_ne hx hb d_JI_numberOfLeadingZeros_5 (tgt := 13) (by decide) (fun c5 => ?_) (fun c5 => ?_)
    · replace hF := (if_neg c5).symm.trans hF
      refine lv_iconst (v := 0) hx hb d_JI_numberOfLeadingZeros_13 (by decide) ?_
      subst hF
      exact ct_iret hx hb hr hlk hP hS d_JI_numberOfLeadingZeros_14
    · replace hF := (if_pos c5).symm.trans hF
      refine lv_bipush (v := 32) hx hb d_JI_numberOfLeadingZeros_8 (by decide) ?_
      refine lv_goto hx hb d_JI_numberOfLeadingZeros_10 (tgt := 14) (by decide) ?_
      subst hF
      exact ct_iret hx hb hr hlk hP hS d_JI_numberOfLeadingZeros_14
theorem d_JI_compare_0 : decode prog_7_method_40_code 0 = .ok (.iload_n 0, 1) := by decide +kernel
theorem d_JI_compare_1 : decode prog_7_method_40_code 1 = .ok (.iload_n 1, 1) := by decide +kernel
theorem d_JI_compare_2 : decode prog_7_method_40_code 2 = .ok (.if_icmp .ge 7, 3) := by decide +kernel
theorem d_JI_compare_5 : decode prog_7_method_40_code 5 = .ok (.iconst (-1), 1) := by decide +kernel
theorem d_JI_compare_6 : decode prog_7_method_40_code 6 = .ok (.goto 13, 3) := by decide +kernel
theorem d_JI_compare_9 : decode prog_7_method_40_code 9 = .ok (.iload_n 0, 1) := by decide +kernel
theorem d_JI_compare_10 : decode prog_7_method_40_code 10 = .ok (.iload_n 1, 1) := by decide +kernel
theorem d_JI_compare_11 : decode prog_7_method_40_code 11 = .ok (.if_icmp .ne 7, 3) := by decide +kernel
theorem d_JI_compare_14 : decode prog_7_method_40_code 14 = .ok (.iconst 0, 1) := by decide +kernel
theorem d_JI_compare_15 : decode prog_7_method_40_code 15 = .ok (.goto 4, 3) := by decide +kernel
theorem d_JI_compare_18 : decode prog_7_method_40_code 18 = .ok (.iconst 1, 1) := by decide +kernel
theorem d_JI_compare_19 : decode prog_7_method_40_code 19 = .ok (.ireturn, 1) := by decide +kernel
def JI_compare (p0 : Int32) (p1 : Int32) : Int32 := (if p1 ≤ p0 then (if p0 = p1 then (0 : Int32) else (1 : Int32)) else (-1 : Int32))
set_option maxHeartbeats 4000000 in
set_option maxRecDepth 100000 in
theorem c_JI_compare (l : Launch) {D : va_G} (a : Nat → Nat) (ci co : ClassId) (hi : rn_inj a) (st : rn_S) (p0 : Int32) (p1 : Int32) (r0 : Int32) (hF : JI_compare p0 p1 = r0) : ct_i l ⟨"java/lang/Integer", "compare", "(II)I"⟩ (.code ⟨"java/lang/Integer", "compare", "(II)I"⟩ prog_7_method_40_code 2 (some .int) :: ct_T) { frames := 0, cells := 0, slots := 0, locals := 0 } D vwCl (rn_T ci co) (rn_g a ci co) (rn_X a) [.int p0, .int p1] st r0 st := by
  refine ct_i.mk (cc := prog_7_method_40_code) (maxL := 2) (by decide) rfl (Nat.le_of_ble_eq_true rfl) ?_
  intro p e s m below meth c hx hb hr hml hown hts hlk hK hN hP hS ls hl
  have hown : s.vm.findClass "java/lang/Integer" = some m.cls := hown
  have hl : lv_has ls 2 [(0, .int p0), (1, .int p1)] := hl
  have htb := fun w h => hts w (List.mem_cons_of_mem _ h)
  unfold JI_compare at hF
  refine lv_iload_n hx hb d_JI_compare_0 rfl (lv_at hl 0 rfl) ?_
  refine lv_iload_n hx hb d_JI_compare_1 rfl (lv_at hl 1 rfl) ?_
  refine lv_icmp_ge hx hb d_JI_compare_2 (tgt := 9) (by decide) (fun c2 => ?_) (fun c2 => ?_)
  · replace hF := (if_pos c2).symm.trans hF
    refine lv_iload_n hx hb d_JI_compare_9 rfl (lv_at hl 0 rfl) ?_
    refine lv_iload_n hx hb d_JI_compare_10 rfl (lv_at hl 1 rfl) ?_
    refine lv_icmp_ne hx hb d_JI_compare_11 (tgt := 18) (by decide) (fun c11 => ?_) (fun c11 => ?_)
    · replace hF := (if_neg c11).symm.trans hF
      refine lv_iconst (v := 1) hx hb d_JI_compare_18 (by decide) ?_
      subst hF
      exact ct_iret hx hb hr hlk hP hS d_JI_compare_19
    · replace hF := (if_pos c11).symm.trans hF
      refine lv_iconst (v := 0) hx hb d_JI_compare_14 (by decide) ?_
      refine lv_goto hx hb d_JI_compare_15 (tgt := 19) (by decide) ?_
      subst hF
      exact ct_iret hx hb hr hlk hP hS d_JI_compare_19
  · replace hF := (if_neg c2).symm.trans hF
    refine lv_iconst (v := -1) hx hb d_JI_compare_5 (by decide) ?_
    refine lv_goto hx hb d_JI_compare_6 (tgt := 19) (by decide) ?_
    subst hF
    exact ct_iret hx hb hr hlk hP hS d_JI_compare_19
