theorem d_RE_clear_0 : decode prog_2_method_2_code 0 = .ok (.aload_n 0, 1) := by decide +kernel
theorem d_RE_clear_1 : decode prog_2_method_2_code 1 = .ok (.getfield 9, 3) := by decide +kernel
theorem d_RE_clear_4 : decode prog_2_method_2_code 4 = .ok (.iconst 0, 1) := by decide +kernel
theorem d_RE_clear_5 : decode prog_2_method_2_code 5 = .ok (.invokestatic 15, 3) := by decide +kernel
theorem d_RE_clear_8 : decode prog_2_method_2_code 8 = .ok (.return_, 1) := by decide +kernel
def RE_clear (st : rn_S) : rn_S := nm (JA_fill_exl st (0 : Int32)) (fun t5 => t5)
set_option maxHeartbeats 4000000 in
set_option maxRecDepth 100000 in
theorem c_RE_clear (l : Launch) {D : va_G} (a : Nat → Nat) (ci co : ClassId) (hi : rn_inj a) (st : rn_S) (t0 : rn_S) (hF : RE_clear st = t0) : ct_v l ⟨"RoundedNumbers$Exact", "clear", "()V"⟩ (.code ⟨"RoundedNumbers$Exact", "clear", "()V"⟩ prog_2_method_2_code 1 none :: ct_T) { frames := 1, cells := 0, slots := 0, locals := 23 } D vwCl (rn_T ci co) (rn_g a ci co) (rn_X a) [.ref (a 3)] st t0 := by
  refine ct_v.mk (cc := prog_2_method_2_code) (maxL := 1) (by decide) rfl (Nat.le_of_ble_eq_true rfl) ?_
  intro p e s m below meth c hx hb hr hml hown hts hlk hK hN hP hS ls hl
  have hown : s.vm.findClass "RoundedNumbers$Exact" = some m.cls := hown
  have hl : lv_has ls 1 [(0, .ref (a 3))] := hl
  have htb := fun w h => hts w (List.mem_cons_of_mem _ h)
  unfold RE_clear at hF
  refine lv_aload_n hx hb d_RE_clear_0 rfl (lv_at hl 0 rfl) ?_
  refine gf_RE_9 hx hb htb hown hK hP d_RE_clear_1 ?_
  refine lv_iconst (v := 0) hx hb d_RE_clear_4 (by decide) ?_
  obtain ⟨t5, e5⟩ := nm_ex (JA_fill_exl st (0 : Int32))
  replace hF := (nm_eq e5).symm.trans hF
  refine ct_callv (va_runS (As := [.ref (a 4), .int (0 : Int32)]) (rest := []) ⟨hx, hb, hml, hown, hts⟩ (c_JA_fill_exl l (D := D) a ci co hi st (0 : Int32) _ e5 _) (kc_RE_15 hts ⟨by decide, by decide⟩) ⟨ct_blind, ct_ok hP hK hN⟩ rfl rfl hl.1 rfl (lv_room (Nat.le_of_ble_eq_true rfl)) d_RE_clear_5 ⟨Nat.zero_le _, Nat.zero_le _⟩) hS (fun H locs hP hS => ?_)
  subst hF
  exact ct_vret hx hb hr hlk hP hS d_RE_clear_8
theorem d_RE_gather_0 : decode prog_2_method_3_code 0 = .ok (.aload_n 1, 1) := by decide +kernel
theorem d_RE_gather_1 : decode prog_2_method_3_code 1 = .ok (.getfield 21, 3) := by decide +kernel
theorem d_RE_gather_4 : decode prog_2_method_3_code 4 = .ok (.iconst 3, 1) := by decide +kernel
theorem d_RE_gather_5 : decode prog_2_method_3_code 5 = .ok (.if_icmp .eq 4, 3) := by decide +kernel
theorem d_RE_gather_8 : decode prog_2_method_3_code 8 = .ok (.return_, 1) := by decide +kernel
theorem d_RE_gather_9 : decode prog_2_method_3_code 9 = .ok (.aload_n 1, 1) := by decide +kernel
theorem d_RE_gather_10 : decode prog_2_method_3_code 10 = .ok (.getfield 27, 3) := by decide +kernel
theorem d_RE_gather_13 : decode prog_2_method_3_code 13 = .ok (.sipush (-589), 3) := by decide +kernel
theorem d_RE_gather_16 : decode prog_2_method_3_code 16 = .ok (.isub, 1) := by decide +kernel
theorem d_RE_gather_17 : decode prog_2_method_3_code 17 = .ok (.istore_n 3, 1) := by decide +kernel
theorem d_RE_gather_18 : decode prog_2_method_3_code 18 = .ok (.iload_n 3, 1) := by decide +kernel
theorem d_RE_gather_19 : decode prog_2_method_3_code 19 = .ok (.bipush 31, 2) := by decide +kernel
theorem d_RE_gather_21 : decode prog_2_method_3_code 21 = .ok (.idiv, 1) := by decide +kernel
theorem d_RE_gather_22 : decode prog_2_method_3_code 22 = .ok (.istore 4, 2) := by decide +kernel
theorem d_RE_gather_24 : decode prog_2_method_3_code 24 = .ok (.iload_n 2, 1) := by decide +kernel
theorem d_RE_gather_25 : decode prog_2_method_3_code 25 = .ok (.i2l, 1) := by decide +kernel
theorem d_RE_gather_26 : decode prog_2_method_3_code 26 = .ok (.iload_n 3, 1) := by decide +kernel
theorem d_RE_gather_27 : decode prog_2_method_3_code 27 = .ok (.bipush 31, 2) := by decide +kernel
theorem d_RE_gather_29 : decode prog_2_method_3_code 29 = .ok (.irem, 1) := by decide +kernel
theorem d_RE_gather_30 : decode prog_2_method_3_code 30 = .ok (.lshl, 1) := by decide +kernel
theorem d_RE_gather_31 : decode prog_2_method_3_code 31 = .ok (.lstore 5, 2) := by decide +kernel
theorem d_RE_gather_33 : decode prog_2_method_3_code 33 = .ok (.lconst 0, 1) := by decide +kernel
theorem d_RE_gather_34 : decode prog_2_method_3_code 34 = .ok (.lstore 7, 2) := by decide +kernel
theorem d_RE_gather_36 : decode prog_2_method_3_code 36 = .ok (.iconst 0, 1) := by decide +kernel
theorem d_RE_gather_37 : decode prog_2_method_3_code 37 = .ok (.iload 4, 2) := by decide +kernel
theorem d_RE_gather_39 : decode prog_2_method_3_code 39 = .ok (.invokestatic 30, 3) := by decide +kernel
theorem d_RE_gather_42 : decode prog_2_method_3_code 42 = .ok (.istore 9, 2) := by decide +kernel
theorem d_RE_gather_44 : decode prog_2_method_3_code 44 = .ok (.iload 9, 2) := by decide +kernel
theorem d_RE_gather_46 : decode prog_2_method_3_code 46 = .ok (.bipush 33, 2) := by decide +kernel
theorem d_RE_gather_48 : decode prog_2_method_3_code 48 = .ok (.if_icmp .ge 78, 3) := by decide +kernel
theorem d_RE_gather_51 : decode prog_2_method_3_code 51 = .ok (.iload 9, 2) := by decide +kernel
theorem d_RE_gather_53 : decode prog_2_method_3_code 53 = .ok (.iload 4, 2) := by decide +kernel
theorem d_RE_gather_55 : decode prog_2_method_3_code 55 = .ok (.isub, 1) := by decide +kernel
theorem d_RE_gather_56 : decode prog_2_method_3_code 56 = .ok (.aload_n 1, 1) := by decide +kernel
theorem d_RE_gather_57 : decode prog_2_method_3_code 57 = .ok (.getfield 36, 3) := by decide +kernel
theorem d_RE_gather_60 : decode prog_2_method_3_code 60 = .ok (.arraylength, 1) := by decide +kernel
theorem d_RE_gather_61 : decode prog_2_method_3_code 61 = .ok (.if_icmp .ge 16, 3) := by decide +kernel
theorem d_RE_gather_64 : decode prog_2_method_3_code 64 = .ok (.aload_n 1, 1) := by decide +kernel
theorem d_RE_gather_65 : decode prog_2_method_3_code 65 = .ok (.getfield 36, 3) := by decide +kernel
theorem d_RE_gather_68 : decode prog_2_method_3_code 68 = .ok (.iload 9, 2) := by decide +kernel
theorem d_RE_gather_70 : decode prog_2_method_3_code 70 = .ok (.iload 4, 2) := by decide +kernel
theorem d_RE_gather_72 : decode prog_2_method_3_code 72 = .ok (.isub, 1) := by decide +kernel
theorem d_RE_gather_73 : decode prog_2_method_3_code 73 = .ok (.iaload, 1) := by decide +kernel
theorem d_RE_gather_74 : decode prog_2_method_3_code 74 = .ok (.goto 4, 3) := by decide +kernel
theorem d_RE_gather_77 : decode prog_2_method_3_code 77 = .ok (.iconst 0, 1) := by decide +kernel
theorem d_RE_gather_78 : decode prog_2_method_3_code 78 = .ok (.istore 10, 2) := by decide +kernel
theorem d_RE_gather_80 : decode prog_2_method_3_code 80 = .ok (.lload 7, 2) := by decide +kernel
theorem d_RE_gather_82 : decode prog_2_method_3_code 82 = .ok (.aload_n 0, 1) := by decide +kernel
theorem d_RE_gather_83 : decode prog_2_method_3_code 83 = .ok (.getfield 9, 3) := by decide +kernel
theorem d_RE_gather_86 : decode prog_2_method_3_code 86 = .ok (.iload 9, 2) := by decide +kernel
theorem d_RE_gather_88 : decode prog_2_method_3_code 88 = .ok (.iaload, 1) := by decide +kernel
theorem d_RE_gather_89 : decode prog_2_method_3_code 89 = .ok (.i2l, 1) := by decide +kernel
theorem d_RE_gather_90 : decode prog_2_method_3_code 90 = .ok (.lload 5, 2) := by decide +kernel
theorem d_RE_gather_92 : decode prog_2_method_3_code 92 = .ok (.iload 10, 2) := by decide +kernel
theorem d_RE_gather_94 : decode prog_2_method_3_code 94 = .ok (.i2l, 1) := by decide +kernel
theorem d_RE_gather_95 : decode prog_2_method_3_code 95 = .ok (.lmul, 1) := by decide +kernel
theorem d_RE_gather_96 : decode prog_2_method_3_code 96 = .ok (.ladd, 1) := by decide +kernel
theorem d_RE_gather_97 : decode prog_2_method_3_code 97 = .ok (.ladd, 1) := by decide +kernel
theorem d_RE_gather_98 : decode prog_2_method_3_code 98 = .ok (.lstore 7, 2) := by decide +kernel
theorem d_RE_gather_100 : decode prog_2_method_3_code 100 = .ok (.aload_n 0, 1) := by decide +kernel
theorem d_RE_gather_101 : decode prog_2_method_3_code 101 = .ok (.getfield 9, 3) := by decide +kernel
theorem d_RE_gather_104 : decode prog_2_method_3_code 104 = .ok (.iload 9, 2) := by decide +kernel
theorem d_RE_gather_106 : decode prog_2_method_3_code 106 = .ok (.lload 7, 2) := by decide +kernel
theorem d_RE_gather_108 : decode prog_2_method_3_code 108 = .ok (.l2i, 1) := by decide +kernel
theorem d_RE_gather_109 : decode prog_2_method_3_code 109 = .ok (.ldc 37, 2) := by decide +kernel
theorem d_RE_gather_111 : decode prog_2_method_3_code 111 = .ok (.iand, 1) := by decide +kernel
theorem d_RE_gather_112 : decode prog_2_method_3_code 112 = .ok (.iastore, 1) := by decide +kernel
theorem d_RE_gather_113 : decode prog_2_method_3_code 113 = .ok (.lload 7, 2) := by decide +kernel
theorem d_RE_gather_115 : decode prog_2_method_3_code 115 = .ok (.bipush 31, 2) := by decide +kernel
theorem d_RE_gather_117 : decode prog_2_method_3_code 117 = .ok (.lshr, 1) := by decide +kernel
theorem d_RE_gather_118 : decode prog_2_method_3_code 118 = .ok (.lstore 7, 2) := by decide +kernel
theorem d_RE_gather_120 : decode prog_2_method_3_code 120 = .ok (.iinc 9 1, 3) := by decide +kernel
theorem d_RE_gather_123 : decode prog_2_method_3_code 123 = .ok (.goto (-79), 3) := by decide +kernel
theorem d_RE_gather_126 : decode prog_2_method_3_code 126 = .ok (.return_, 1) := by decide +kernel
def RE_gather_78 (k44 : Nat → Int32 → Int64 → Int64 → Int32 → rn_S → rn_S) (L1 : Nat) (L4 : Int32) (L5 : Int64) (L7 : Int64) (L9 : Int32) (s0 : Int32) (st : rn_S) : rn_S := nm (L7 + ((rn_ex st L9.toNatClampNeg).toInt64 + (L5 * s0.toInt64))) (fun x98 => nm (rn_exs st L9.toNatClampNeg (x98.toInt32 &&& (2147483647 : Int32))) (fun t112 => nm (x98 >>> ((31 : Int32).toInt64 &&& 63)) (fun x118 => nm (L9 + (1 : Int32)) (fun x120 => k44 L1 L4 L5 x118 x120 t112))))
def RE_gather_44 : Nat → Nat → Int32 → Int64 → Int64 → Int32 → rn_S → rn_S
  | 0, _, _, _, _, _, st => st
  | n + 1, L1, L4, L5, L7, L9, st => (if (33 : Int32) ≤ L9 then st else (if (nI (rn_len L1)) ≤ (L9 - L4) then RE_gather_78 (RE_gather_44 n) L1 L4 L5 L7 L9 (0 : Int32) st else RE_gather_78 (RE_gather_44 n) L1 L4 L5 L7 L9 (rn_lb st L1 (L9 - L4).toNatClampNeg) st))
def RE_gather (st : rn_S) (v0 : Nat) (p1 : Int32) : rn_S := (if (rn_kd st v0) = (3 : Int32) then nm ((rn_lw st v0) - (-589 : Int32)) (fun x17 => nm (x17 / (31 : Int32)) (fun x22 => nm (p1.toInt64 <<< ((x17 - x17 / (31 : Int32) * (31 : Int32)).toInt64 &&& 63)) (fun x31 => nm (if (0 : Int32) < x22 then x22 else (0 : Int32)) (fun x42 => RE_gather_44 (34) v0 x22 x31 (0 : Int64) x42 st)))) else st)
set_option maxHeartbeats 4000000 in
set_option maxRecDepth 100000 in
theorem c_RE_gather (l : Launch) {D : va_G} (a : Nat → Nat) (ci co : ClassId) (hi : rn_inj a) (st : rn_S) (v0 : Nat) (p1 : Int32) (hv0 : v0 < 10) (t0 : rn_S) (hF : RE_gather st v0 p1 = t0) : ct_v l ⟨"RoundedNumbers$Exact", "gather", "(LRoundedNumbers$Value;I)V"⟩ (.code ⟨"RoundedNumbers$Exact", "gather", "(LRoundedNumbers$Value;I)V"⟩ prog_2_method_3_code 11 none :: ct_T) { frames := 1, cells := 0, slots := 0, locals := 21 } D vwCl (rn_T ci co) (rn_g a ci co) (rn_X a) [.ref (a 3), .ref (a (8 + v0)), .int p1] st t0 := by
  refine ct_v.mk (cc := prog_2_method_3_code) (maxL := 11) (by decide) rfl (Nat.le_of_ble_eq_true rfl) ?_
  intro p e s m below meth c hx hb hr hml hown hts hlk hK hN hP hS ls hl
  have hown : s.vm.findClass "RoundedNumbers$Exact" = some m.cls := hown
  have hl : lv_has ls 11 [(0, .ref (a 3)), (1, .ref (a (8 + v0))), (2, .int p1)] := hl
  have htb := fun w h => hts w (List.mem_cons_of_mem _ h)
  unfold RE_gather at hF
  refine lv_aload_n hx hb d_RE_gather_0 rfl (lv_at hl 1 rfl) ?_
  refine gf_RE_21 hx hb htb hown hK hP (i := v0) hv0 d_RE_gather_1 ?_
  refine lv_iconst (v := 3) hx hb d_RE_gather_4 (by decide) ?_
  refine lv_icmp_eq hx hb d_RE_gather_5 (tgt := 9) (by decide) (fun c5 => ?_) (fun c5 => ?_)
  · replace hF := (if_pos c5).symm.trans hF
    refine lv_aload_n hx hb d_RE_gather_9 rfl (lv_at hl 1 rfl) ?_
    refine gf_RE_27 hx hb htb hown hK hP (i := v0) hv0 d_RE_gather_10 ?_
    refine lv_sipush (v := -589) hx hb d_RE_gather_13 (by decide) ?_
    refine lv_isub hx hb d_RE_gather_16 ?_
    refine lv_topi (fun x17 e17 => ?_)
    replace hF := (nm_eq e17.symm).symm.trans hF
    refine lv_istore_n (lv' := [(3, .int x17), (0, .ref (a 3)), (1, .ref (a (8 + v0))), (2, .int p1)]) hx hb d_RE_gather_17 rfl hl (by decide) rfl (fun ls hl => ?_)
    refine lv_iload_n hx hb d_RE_gather_18 rfl (lv_at hl 0 rfl) ?_
    refine lv_bipush (v := 31) hx hb d_RE_gather_19 (by decide) ?_
    refine lv_idiv hx hb d_RE_gather_21 (by decide) ?_
    refine lv_topi (fun x22 e22 => ?_)
    replace hF := (nm_eq e22.symm).symm.trans hF
    refine lv_istore (lv' := [(4, .int x22), (3, .int x17), (0, .ref (a 3)), (1, .ref (a (8 + v0))), (2, .int p1)]) hx hb d_RE_gather_22 hl (by decide) rfl (fun ls hl => ?_)
    refine lv_iload_n hx hb d_RE_gather_24 rfl (lv_at hl 4 rfl) ?_
    refine lv_i2l hx hb d_RE_gather_25 rfl ?_
    refine lv_iload_n hx hb d_RE_gather_26 rfl (lv_at hl 1 rfl) ?_
    refine lv_bipush (v := 31) hx hb d_RE_gather_27 (by decide) ?_
    refine lv_irem hx hb d_RE_gather_29 (by decide) ?_
    refine lv_lshl hx hb d_RE_gather_30 rfl ?_
    refine lv_topl (fun x31 e31 => ?_)
    replace hF := (nm_eq e31.symm).symm.trans hF
    refine lv_lstore (lv' := [(5, .long x31), (4, .int x22), (3, .int x17), (0, .ref (a 3)), (1, .ref (a (8 + v0))), (2, .int p1)]) hx hb d_RE_gather_31 hl (by decide) rfl (fun ls hl => ?_)
    refine lv_lconst (v := 0) hx hb d_RE_gather_33 (by decide) ?_
    refine lv_lstore (lv' := [(7, .long (0 : Int64)), (5, .long x31), (4, .int x22), (3, .int x17), (0, .ref (a 3)), (1, .ref (a (8 + v0))), (2, .int p1)]) hx hb d_RE_gather_34 hl (by decide) rfl (fun ls hl => ?_)
    refine lv_iconst (v := 0) hx hb d_RE_gather_36 (by decide) ?_
    refine lv_iload hx hb d_RE_gather_37 (lv_at hl 2 rfl) ?_
    refine mm_RE_max hx hb (hml.trans hl.1.symm) hown htb (by decide) (by decide) d_RE_gather_39 ?_
    refine lv_topi (fun x42 e42 => ?_)
    replace hF := (nm_eq e42.symm).symm.trans hF
    refine lv_istore (lv' := [(9, .int x42), (7, .long (0 : Int64)), (5, .long x31), (4, .int x22), (3, .int x17), (0, .ref (a 3)), (1, .ref (a (8 + v0))), (2, .int p1)]) hx hb d_RE_gather_42 hl (by decide) rfl (fun ls hl => ?_)
    refine ct_loop3 (fun n (w44L9 : Int32) (w44L7 : Int64) (w44t : rn_S) ls H locs => lv_has ls 11 [(9, .int w44L9), (7, .long w44L7), (5, .long x31), (4, .int x22), (0, .ref (a 3)), (1, .ref (a (8 + v0)))] ∧ (∃ k, w44L9 = nI k ∧ k < 2147483648 ∧ 33 - k < n ∧ x22.toInt ≤ k) ∧ RE_gather_44 n v0 x22 x31 w44L7 w44L9 w44t = t0 ∧ va_P D vwCl (rn_g a ci co w44t) H ∧ va_S (ct_F (rn_X a) s.heap.size) s.heap H locs) 44 ?_ ?_ (34) x42 (0 : Int64) st ⟨lv_sub hl [0, 1, 2, 3, 5, 6] rfl, (nk_max e42 e22), hF, hP, hS⟩
    · intro w44L9 w44L7 w44t ls H locs hq
      obtain ⟨hl, hq9, hF, hP, hS⟩ := hq
      obtain ⟨k, e9, hk, hn, hg44⟩ := hq9
      exact absurd hn (Nat.not_lt_zero _)
    · intro n44 ih44 w44L9 w44L7 w44t ls H locs hq
      obtain ⟨hl, hq9, hF, hP, hS⟩ := hq
      obtain ⟨k44, e9, hk44, hn44, hg44⟩ := hq9
      subst e9
      rw [RE_gather_44] at hF
      refine lv_iload hx hb d_RE_gather_44 (lv_at hl 0 rfl) ?_
      refine lv_bipush (v := 33) hx hb d_RE_gather_46 (by decide) ?_
      refine lv_icmp_ge hx hb d_RE_gather_48 (tgt := 126) (by decide) (fun c48 => ?_) (fun c48 => ?_)
      · replace hF := (if_pos c48).symm.trans hF
        subst hF
        exact ct_vret hx hb hr hlk hP hS d_RE_gather_126
      · replace hF := (if_neg c48).symm.trans hF
        refine lv_iload hx hb d_RE_gather_51 (lv_at hl 0 rfl) ?_
        refine lv_iload hx hb d_RE_gather_53 (lv_at hl 3 rfl) ?_
        refine lv_isub hx hb d_RE_gather_55 ?_
        refine lv_aload_n hx hb d_RE_gather_56 rfl (lv_at hl 5 rfl) ?_
        refine gf_RE_36 hx hb htb hown hK hP (i := v0) hv0 d_RE_gather_57 ?_
        refine rn_len_limbs hx hb hK hP (i := v0) hv0 d_RE_gather_60 ?_
        refine ct_cut1 (fun (j78s0 : Int32) ls H locs => lv_has ls 11 [(9, .int (nI k44)), (7, .long w44L7), (5, .long x31), (4, .int x22), (0, .ref (a 3)), (1, .ref (a (8 + v0)))] ∧ RE_gather_78 (RE_gather_44 n44) v0 x22 x31 w44L7 (nI k44) j78s0 w44t = t0 ∧ va_P D vwCl (rn_g a ci co w44t) H ∧ va_S (ct_F (rn_X a) s.heap.size) s.heap H locs) 78 (fun j78s0 => [.int j78s0]) ?_ ?_
        · intro j78s0 ls H locs hq
          obtain ⟨hl, hF, hP, hS⟩ := hq
          unfold RE_gather_78 at hF
          refine lv_istore (lv' := [(10, .int j78s0), (9, .int (nI k44)), (7, .long w44L7), (5, .long x31), (4, .int x22), (0, .ref (a 3)), (1, .ref (a (8 + v0)))]) hx hb d_RE_gather_78 hl (by decide) rfl (fun ls hl => ?_)
          refine lv_lload hx hb d_RE_gather_80 (lv_at hl 2 rfl) ?_
          refine lv_aload_n hx hb d_RE_gather_82 rfl (lv_at hl 5 rfl) ?_
          refine gf_RE_9 hx hb htb hown hK hP d_RE_gather_83 ?_
          refine lv_iload hx hb d_RE_gather_86 (lv_at hl 1 rfl) ?_
          refine rn_ald_exl hx hb hK hP (nk_in hk44 rfl (by decide) c48) d_RE_gather_88 ?_
          refine lv_i2l hx hb d_RE_gather_89 rfl ?_
          refine lv_lload hx hb d_RE_gather_90 (lv_at hl 3 rfl) ?_
          refine lv_iload hx hb d_RE_gather_92 (lv_at hl 0 rfl) ?_
          refine lv_i2l hx hb d_RE_gather_94 rfl ?_
          refine lv_lmul hx hb d_RE_gather_95 ?_
          refine lv_ladd hx hb d_RE_gather_96 ?_
          refine lv_ladd hx hb d_RE_gather_97 ?_
          refine lv_topl (fun x98 e98 => ?_)
          replace hF := (nm_eq e98.symm).symm.trans hF
          refine lv_lstore (lv' := [(7, .long x98), (10, .int j78s0), (9, .int (nI k44)), (5, .long x31), (4, .int x22), (0, .ref (a 3)), (1, .ref (a (8 + v0)))]) hx hb d_RE_gather_98 hl (by decide) rfl (fun ls hl => ?_)
          refine lv_aload_n hx hb d_RE_gather_100 rfl (lv_at hl 5 rfl) ?_
          refine gf_RE_9 hx hb htb hown hK hP d_RE_gather_101 ?_
          refine lv_iload hx hb d_RE_gather_104 (lv_at hl 2 rfl) ?_
          refine lv_lload hx hb d_RE_gather_106 (lv_at hl 0 rfl) ?_
          refine lv_l2i hx hb d_RE_gather_108 rfl ?_
          refine lv_ldc (v := 2147483647) hx hb hown (htb _ mw_29) d_RE_gather_109 ?_
          refine lv_iand hx hb d_RE_gather_111 ?_
          refine rn_ast_exl hx hb hK hP hS hi (nk_in hk44 rfl (by decide) c48) d_RE_gather_112 (fun H locs hP hS => ?_)
          obtain ⟨t112, e112, hP⟩ := nm_st hP
          replace hF := (nm_eq e112).symm.trans hF
          refine lv_lload hx hb d_RE_gather_113 (lv_at hl 0 rfl) ?_
          refine lv_bipush (v := 31) hx hb d_RE_gather_115 (by decide) ?_
          refine lv_lshr hx hb d_RE_gather_117 rfl ?_
          refine lv_topl (fun x118 e118 => ?_)
          replace hF := (nm_eq e118.symm).symm.trans hF
          refine lv_lstore (lv' := [(7, .long x118), (10, .int j78s0), (9, .int (nI k44)), (5, .long x31), (4, .int x22), (0, .ref (a 3)), (1, .ref (a (8 + v0)))]) hx hb d_RE_gather_118 hl (by decide) rfl (fun ls hl => ?_)
          obtain ⟨x120, e120⟩ := nm_ex ((nI k44) + (1 : Int32))
          replace hF := (nm_eq e120).symm.trans hF
          refine lv_iinc (v := x120) (lv' := [(9, .int x120), (7, .long x118), (10, .int j78s0), (5, .long x31), (4, .int x22), (0, .ref (a 3)), (1, .ref (a (8 + v0)))]) hx hb d_RE_gather_120 hl (k := 2) rfl e120 (by decide) rfl (fun ls hl => ?_)
          refine lv_goto hx hb d_RE_gather_123 (tgt := 44) (by decide) ?_
          have hk9 : k44 < 33 := nk_lt hk44 rfl (by decide) c48
          exact ih44 x120 x118 t112 _ _ _ ⟨lv_sub hl [0, 1, 3, 4, 5, 6] rfl, ⟨k44 + 1, e120.symm.trans (nI_1 k44), by omega, by omega, by omega⟩, hF, hP, hS⟩
        · intro kj78
          refine lv_icmp_ge hx hb d_RE_gather_61 (tgt := 77) (by decide) (fun c61 => ?_) (fun c61 => ?_)
          · replace hF := (if_pos c61).symm.trans hF
            refine lv_iconst (v := 0) hx hb d_RE_gather_77 (by decide) ?_
            exact kj78 (0 : Int32) _ _ _ ⟨lv_sub hl [0, 1, 2, 3, 4, 5] rfl, hF, hP, hS⟩
          · replace hF := (if_neg c61).symm.trans hF
            refine lv_aload_n hx hb d_RE_gather_64 rfl (lv_at hl 5 rfl) ?_
            refine gf_RE_36 hx hb htb hown hK hP (i := v0) hv0 d_RE_gather_65 ?_
            refine lv_iload hx hb d_RE_gather_68 (lv_at hl 0 rfl) ?_
            refine lv_iload hx hb d_RE_gather_70 (lv_at hl 3 rfl) ?_
            refine lv_isub hx hb d_RE_gather_72 ?_
            refine rn_ald_limbs hx hb hK hP (i := v0) hv0 (nk_sub hk44 c48 hg44 e22 c61) d_RE_gather_73 ?_
            refine lv_goto hx hb d_RE_gather_74 (tgt := 78) (by decide) ?_
            exact kj78 (rn_lb w44t v0 ((nI k44) - x22).toNatClampNeg) _ _ _ ⟨lv_sub hl [0, 1, 2, 3, 4, 5] rfl, hF, hP, hS⟩
  · replace hF := (if_neg c5).symm.trans hF
    subst hF
    exact ct_vret hx hb hr hlk hP hS d_RE_gather_8
theorem d_RE_topWeight_0 : decode prog_2_method_7_code 0 = .ok (.bipush 32, 2) := by decide +kernel
theorem d_RE_topWeight_2 : decode prog_2_method_7_code 2 = .ok (.istore_n 1, 1) := by decide +kernel
theorem d_RE_topWeight_3 : decode prog_2_method_7_code 3 = .ok (.iload_n 1, 1) := by decide +kernel
theorem d_RE_topWeight_4 : decode prog_2_method_7_code 4 = .ok (.ifCond .le 18, 3) := by decide +kernel
theorem d_RE_topWeight_7 : decode prog_2_method_7_code 7 = .ok (.aload_n 0, 1) := by decide +kernel
theorem d_RE_topWeight_8 : decode prog_2_method_7_code 8 = .ok (.getfield 9, 3) := by decide +kernel
theorem d_RE_topWeight_11 : decode prog_2_method_7_code 11 = .ok (.iload_n 1, 1) := by decide +kernel
theorem d_RE_topWeight_12 : decode prog_2_method_7_code 12 = .ok (.iaload, 1) := by decide +kernel
theorem d_RE_topWeight_13 : decode prog_2_method_7_code 13 = .ok (.ifCond .ne 9, 3) := by decide +kernel
theorem d_RE_topWeight_16 : decode prog_2_method_7_code 16 = .ok (.iinc 1 (-1), 3) := by decide +kernel
theorem d_RE_topWeight_19 : decode prog_2_method_7_code 19 = .ok (.goto (-16), 3) := by decide +kernel
theorem d_RE_topWeight_22 : decode prog_2_method_7_code 22 = .ok (.bipush 31, 2) := by decide +kernel
theorem d_RE_topWeight_24 : decode prog_2_method_7_code 24 = .ok (.aload_n 0, 1) := by decide +kernel
theorem d_RE_topWeight_25 : decode prog_2_method_7_code 25 = .ok (.getfield 9, 3) := by decide +kernel
theorem d_RE_topWeight_28 : decode prog_2_method_7_code 28 = .ok (.iload_n 1, 1) := by decide +kernel
theorem d_RE_topWeight_29 : decode prog_2_method_7_code 29 = .ok (.iaload, 1) := by decide +kernel
theorem d_RE_topWeight_30 : decode prog_2_method_7_code 30 = .ok (.invokestatic 45, 3) := by decide +kernel
theorem d_RE_topWeight_33 : decode prog_2_method_7_code 33 = .ok (.isub, 1) := by decide +kernel
theorem d_RE_topWeight_34 : decode prog_2_method_7_code 34 = .ok (.istore_n 2, 1) := by decide +kernel
theorem d_RE_topWeight_35 : decode prog_2_method_7_code 35 = .ok (.sipush (-589), 3) := by decide +kernel
theorem d_RE_topWeight_38 : decode prog_2_method_7_code 38 = .ok (.iload_n 1, 1) := by decide +kernel
theorem d_RE_topWeight_39 : decode prog_2_method_7_code 39 = .ok (.bipush 31, 2) := by decide +kernel
theorem d_RE_topWeight_41 : decode prog_2_method_7_code 41 = .ok (.imul, 1) := by decide +kernel
theorem d_RE_topWeight_42 : decode prog_2_method_7_code 42 = .ok (.iadd, 1) := by decide +kernel
theorem d_RE_topWeight_43 : decode prog_2_method_7_code 43 = .ok (.iload_n 2, 1) := by decide +kernel
theorem d_RE_topWeight_44 : decode prog_2_method_7_code 44 = .ok (.iadd, 1) := by decide +kernel
theorem d_RE_topWeight_45 : decode prog_2_method_7_code 45 = .ok (.ireturn, 1) := by decide +kernel
def RE_topWeight_22 (L1 : Int32) (st : rn_S) : Int32 := nm (JI_numberOfLeadingZeros (rn_ex st L1.toNatClampNeg)) (fun r30 => nm ((31 : Int32) - r30) (fun x34 => (((-589 : Int32) + (L1 * (31 : Int32))) + x34)))
def RE_topWeight_3 : Nat → Int32 → rn_S → Int32
  | 0, _, _ => 0
  | n + 1, L1, st => (if L1 ≤ 0 then RE_topWeight_22 L1 st else (if (rn_ex st L1.toNatClampNeg) = 0 then nm (L1 + (-1 : Int32)) (fun x16 => (RE_topWeight_3 n) x16 st) else RE_topWeight_22 L1 st))
def RE_topWeight (st : rn_S) : Int32 := RE_topWeight_3 (33) (32 : Int32) st
set_option maxHeartbeats 4000000 in
set_option maxRecDepth 100000 in
theorem c_RE_topWeight (l : Launch) {D : va_G} (a : Nat → Nat) (ci co : ClassId) (hi : rn_inj a) (st : rn_S) (r0 : Int32) (hF : RE_topWeight st = r0) : ct_i l ⟨"RoundedNumbers$Exact", "topWeight", "()I"⟩ (.code ⟨"RoundedNumbers$Exact", "topWeight", "()I"⟩ prog_2_method_7_code 3 (some .int) :: ct_T) { frames := 1, cells := 0, slots := 0, locals := 21 } D vwCl (rn_T ci co) (rn_g a ci co) (rn_X a) [.ref (a 3)] st r0 st := by
  refine ct_i.mk (cc := prog_2_method_7_code) (maxL := 3) (by decide) rfl (Nat.le_of_ble_eq_true rfl) ?_
  intro p e s m below meth c hx hb hr hml hown hts hlk hK hN hP hS ls hl
  have hown : s.vm.findClass "RoundedNumbers$Exact" = some m.cls := hown
  have hl : lv_has ls 3 [(0, .ref (a 3))] := hl
  have htb := fun w h => hts w (List.mem_cons_of_mem _ h)
  unfold RE_topWeight at hF
  refine lv_bipush (v := 32) hx hb d_RE_topWeight_0 (by decide) ?_
  refine lv_istore_n (lv' := [(1, .int (32 : Int32)), (0, .ref (a 3))]) hx hb d_RE_topWeight_2 rfl hl (by decide) rfl (fun ls hl => ?_)
  refine ct_loop1 (fun n (w3L1 : Int32) ls H locs => lv_has ls 3 [(1, .int w3L1), (0, .ref (a 3))] ∧ (∃ k, w3L1 = nI k ∧ k < 33 ∧ k < n) ∧ RE_topWeight_3 n w3L1 st = r0 ∧ va_P D vwCl (rn_g a ci co st) H ∧ va_S (ct_F (rn_X a) s.heap.size) s.heap H locs) 3 ?_ ?_ (33) (32 : Int32) ⟨lv_sub hl [0, 1] rfl, ⟨32, rfl, by decide, by decide⟩, hF, hP, hS⟩
  · intro w3L1 ls H locs hq
    obtain ⟨hl, hq9, hF, hP, hS⟩ := hq
    obtain ⟨k, e9, hk, hn⟩ := hq9
    exact absurd hn (Nat.not_lt_zero _)
  · intro n3 ih3 w3L1 ls H locs hq
    obtain ⟨hl, hq9, hF, hP, hS⟩ := hq
    obtain ⟨k3, e9, hk3, hn3⟩ := hq9
    subst e9
    rw [RE_topWeight_3] at hF
    refine lv_iload_n hx hb d_RE_topWeight_3 rfl (lv_at hl 0 rfl) ?_
    refine ct_cut0 (fun  ls H locs => lv_has ls 3 [(1, .int (nI k3)), (0, .ref (a 3))] ∧ RE_topWeight_22 (nI k3) st = r0 ∧ va_P D vwCl (rn_g a ci co st) H ∧ va_S (ct_F (rn_X a) s.heap.size) s.heap H locs) 22 [] ?_ ?_
    · intro ls H locs hq
      obtain ⟨hl, hF, hP, hS⟩ := hq
      unfold RE_topWeight_22 at hF
      refine lv_bipush (v := 31) hx hb d_RE_topWeight_22 (by decide) ?_
      refine lv_aload_n hx hb d_RE_topWeight_24 rfl (lv_at hl 1 rfl) ?_
      refine gf_RE_9 hx hb htb hown hK hP d_RE_topWeight_25 ?_
      refine lv_iload_n hx hb d_RE_topWeight_28 rfl (lv_at hl 0 rfl) ?_
      refine rn_ald_exl hx hb hK hP (vp_in_nI hk3 (by decide)) d_RE_topWeight_29 ?_
      obtain ⟨r30, e30⟩ := nm_ex (JI_numberOfLeadingZeros (rn_ex st (nI k3).toNatClampNeg))
      replace hF := (nm_eq e30).symm.trans hF
      refine ct_calli (va_runS (As := [.int (rn_ex st (nI k3).toNatClampNeg)]) (rest := [.int (31 : Int32)]) ⟨hx, hb, hml, hown, hts⟩ (c_JI_numberOfLeadingZeros l (D := D) a ci co hi st (rn_ex st (nI k3).toNatClampNeg) _ e30 _) (kc_RE_45 hts ⟨by decide, by decide⟩) ⟨ct_blind, ct_ok hP hK hN⟩ rfl rfl hl.1 rfl (lv_room (Nat.le_of_ble_eq_true rfl)) d_RE_topWeight_30 ⟨Nat.zero_le _, Nat.zero_le _⟩) hS (fun H locs hP hS => ?_)
      refine lv_isub hx hb d_RE_topWeight_33 ?_
      refine lv_topi (fun x34 e34 => ?_)
      replace hF := (nm_eq e34.symm).symm.trans hF
      refine lv_istore_n (lv' := [(2, .int x34), (1, .int (nI k3)), (0, .ref (a 3))]) hx hb d_RE_topWeight_34 rfl hl (by decide) rfl (fun ls hl => ?_)
      refine lv_sipush (v := -589) hx hb d_RE_topWeight_35 (by decide) ?_
      refine lv_iload_n hx hb d_RE_topWeight_38 rfl (lv_at hl 1 rfl) ?_
      refine lv_bipush (v := 31) hx hb d_RE_topWeight_39 (by decide) ?_
      refine lv_imul hx hb d_RE_topWeight_41 ?_
      refine lv_iadd hx hb d_RE_topWeight_42 ?_
      refine lv_iload_n hx hb d_RE_topWeight_43 rfl (lv_at hl 0 rfl) ?_
      refine lv_iadd hx hb d_RE_topWeight_44 ?_
      subst hF
      exact ct_iret hx hb hr hlk hP hS d_RE_topWeight_45
    · intro kj22
      refine lv_if_le hx hb d_RE_topWeight_4 (tgt := 22) (by decide) (fun c4 => ?_) (fun c4 => ?_)
      · replace hF := (if_pos c4).symm.trans hF
        exact kj22 _ _ _ ⟨lv_sub hl [0, 1] rfl, hF, hP, hS⟩
      · replace hF := (if_neg c4).symm.trans hF
        refine lv_aload_n hx hb d_RE_topWeight_7 rfl (lv_at hl 1 rfl) ?_
        refine gf_RE_9 hx hb htb hown hK hP d_RE_topWeight_8 ?_
        refine lv_iload_n hx hb d_RE_topWeight_11 rfl (lv_at hl 0 rfl) ?_
        refine rn_ald_exl hx hb hK hP (vp_in_nI hk3 (by decide)) d_RE_topWeight_12 ?_
        refine lv_if_ne hx hb d_RE_topWeight_13 (tgt := 22) (by decide) (fun c13 => ?_) (fun c13 => ?_)
        · replace hF := (if_neg c13).symm.trans hF
          exact kj22 _ _ _ ⟨lv_sub hl [0, 1] rfl, hF, hP, hS⟩
        · replace hF := (if_pos c13).symm.trans hF
          obtain ⟨x16, e16⟩ := nm_ex ((nI k3) + (-1 : Int32))
          replace hF := (nm_eq e16).symm.trans hF
          refine lv_iinc (v := x16) (lv' := [(1, .int x16), (0, .ref (a 3))]) hx hb d_RE_topWeight_16 hl (k := 0) rfl e16 (by decide) rfl (fun ls hl => ?_)
          refine lv_goto hx hb d_RE_topWeight_19 (tgt := 3) (by decide) ?_
          have hk9 := nk_pos c4
          exact ih3 x16 _ _ _ ⟨lv_sub hl [0, 1] rfl, ⟨k3 - 1, e16.symm.trans (nk_dec hk9), by omega, by omega⟩, hF, hP, hS⟩
theorem d_RE_lowestBits_0 : decode prog_2_method_13_code 0 = .ok (.iload_n 0, 1) := by decide +kernel
theorem d_RE_lowestBits_1 : decode prog_2_method_13_code 1 = .ok (.ifCond .gt 5, 3) := by decide +kernel
theorem d_RE_lowestBits_4 : decode prog_2_method_13_code 4 = .ok (.iconst 0, 1) := by decide +kernel
theorem d_RE_lowestBits_5 : decode prog_2_method_13_code 5 = .ok (.ireturn, 1) := by decide +kernel
theorem d_RE_lowestBits_6 : decode prog_2_method_13_code 6 = .ok (.iload_n 0, 1) := by decide +kernel
theorem d_RE_lowestBits_7 : decode prog_2_method_13_code 7 = .ok (.bipush 31, 2) := by decide +kernel
theorem d_RE_lowestBits_9 : decode prog_2_method_13_code 9 = .ok (.if_icmp .ge 11, 3) := by decide +kernel
theorem d_RE_lowestBits_12 : decode prog_2_method_13_code 12 = .ok (.iconst 1, 1) := by decide +kernel
theorem d_RE_lowestBits_13 : decode prog_2_method_13_code 13 = .ok (.iload_n 0, 1) := by decide +kernel
theorem d_RE_lowestBits_14 : decode prog_2_method_13_code 14 = .ok (.ishl, 1) := by decide +kernel
theorem d_RE_lowestBits_15 : decode prog_2_method_13_code 15 = .ok (.iconst 1, 1) := by decide +kernel
theorem d_RE_lowestBits_16 : decode prog_2_method_13_code 16 = .ok (.isub, 1) := by decide +kernel
theorem d_RE_lowestBits_17 : decode prog_2_method_13_code 17 = .ok (.goto 5, 3) := by decide +kernel
theorem d_RE_lowestBits_20 : decode prog_2_method_13_code 20 = .ok (.ldc 37, 2) := by decide +kernel
theorem d_RE_lowestBits_22 : decode prog_2_method_13_code 22 = .ok (.ireturn, 1) := by decide +kernel
def RE_lowestBits (p0 : Int32) : Int32 := (if 0 < p0 then (if (31 : Int32) ≤ p0 then (2147483647 : Int32) else (((1 : Int32) <<< (p0 &&& 31)) - (1 : Int32))) else (0 : Int32))
set_option maxHeartbeats 4000000 in
set_option maxRecDepth 100000 in
theorem c_RE_lowestBits (l : Launch) {D : va_G} (a : Nat → Nat) (ci co : ClassId) (hi : rn_inj a) (st : rn_S) (p0 : Int32) (r0 : Int32) (hF : RE_lowestBits p0 = r0) : ct_i l ⟨"RoundedNumbers$Exact", "lowestBits", "(I)I"⟩ (.code ⟨"RoundedNumbers$Exact", "lowestBits", "(I)I"⟩ prog_2_method_13_code 1 (some .int) :: ct_T) { frames := 0, cells := 0, slots := 0, locals := 0 } D vwCl (rn_T ci co) (rn_g a ci co) (rn_X a) [.int p0] st r0 st := by
  refine ct_i.mk (cc := prog_2_method_13_code) (maxL := 1) (by decide) rfl (Nat.le_of_ble_eq_true rfl) ?_
  intro p e s m below meth c hx hb hr hml hown hts hlk hK hN hP hS ls hl
  have hown : s.vm.findClass "RoundedNumbers$Exact" = some m.cls := hown
  have hl : lv_has ls 1 [(0, .int p0)] := hl
  have htb := fun w h => hts w (List.mem_cons_of_mem _ h)
  unfold RE_lowestBits at hF
  refine lv_iload_n hx hb d_RE_lowestBits_0 rfl (lv_at hl 0 rfl) ?_
  refine lv_if_gt hx hb d_RE_lowestBits_1 (tgt := 6) (by decide) (fun c1 => ?_) (fun c1 => ?_)
  · replace hF := (if_pos c1).symm.trans hF
    refine lv_iload_n hx hb d_RE_lowestBits_6 rfl (lv_at hl 0 rfl) ?_
    refine lv_bipush (v := 31) hx hb d_RE_lowestBits_7 (by decide) ?_
    refine lv_icmp_ge hx hb d_RE_lowestBits_9 (tgt := 20) (by decide) (fun c9 => ?_) (fun c9 => ?_)
    · replace hF := (if_pos c9).symm.trans hF
      refine lv_ldc (v := 2147483647) hx hb hown (htb _ mw_29) d_RE_lowestBits_20 ?_
      subst hF
      exact ct_iret hx hb hr hlk hP hS d_RE_lowestBits_22
    · replace hF := (if_neg c9).symm.trans hF
      refine lv_iconst (v := 1) hx hb d_RE_lowestBits_12 (by decide) ?_
      refine lv_iload_n hx hb d_RE_lowestBits_13 rfl (lv_at hl 0 rfl) ?_
      refine lv_ishl hx hb d_RE_lowestBits_14 ?_
      refine lv_iconst (v := 1) hx hb d_RE_lowestBits_15 (by decide) ?_
      refine lv_isub hx hb d_RE_lowestBits_16 ?_
      refine lv_goto hx hb d_RE_lowestBits_17 (tgt := 22) (by decide) ?_
      subst hF
      exact ct_iret hx hb hr hlk hP hS d_RE_lowestBits_22
  · replace hF := (if_neg c1).symm.trans hF
    refine lv_iconst (v := 0) hx hb d_RE_lowestBits_4 (by decide) ?_
    subst hF
    exact ct_iret hx hb hr hlk hP hS d_RE_lowestBits_5
theorem d_RE_hasBelow_0 : decode prog_2_method_11_code 0 = .ok (.iload_n 1, 1) := by decide +kernel
theorem d_RE_hasBelow_1 : decode prog_2_method_11_code 1 = .ok (.sipush (-589), 3) := by decide +kernel
theorem d_RE_hasBelow_4 : decode prog_2_method_11_code 4 = .ok (.isub, 1) := by decide +kernel
theorem d_RE_hasBelow_5 : decode prog_2_method_11_code 5 = .ok (.istore_n 2, 1) := by decide +kernel
theorem d_RE_hasBelow_6 : decode prog_2_method_11_code 6 = .ok (.iconst 0, 1) := by decide +kernel
theorem d_RE_hasBelow_7 : decode prog_2_method_11_code 7 = .ok (.istore_n 3, 1) := by decide +kernel
theorem d_RE_hasBelow_8 : decode prog_2_method_11_code 8 = .ok (.iload_n 3, 1) := by decide +kernel
theorem d_RE_hasBelow_9 : decode prog_2_method_11_code 9 = .ok (.bipush 33, 2) := by decide +kernel
theorem d_RE_hasBelow_11 : decode prog_2_method_11_code 11 = .ok (.if_icmp .ge 30, 3) := by decide +kernel
theorem d_RE_hasBelow_14 : decode prog_2_method_11_code 14 = .ok (.aload_n 0, 1) := by decide +kernel
theorem d_RE_hasBelow_15 : decode prog_2_method_11_code 15 = .ok (.getfield 9, 3) := by decide +kernel
theorem d_RE_hasBelow_18 : decode prog_2_method_11_code 18 = .ok (.iload_n 3, 1) := by decide +kernel
theorem d_RE_hasBelow_19 : decode prog_2_method_11_code 19 = .ok (.iaload, 1) := by decide +kernel
theorem d_RE_hasBelow_20 : decode prog_2_method_11_code 20 = .ok (.iload_n 2, 1) := by decide +kernel
theorem d_RE_hasBelow_21 : decode prog_2_method_11_code 21 = .ok (.iload_n 3, 1) := by decide +kernel
theorem d_RE_hasBelow_22 : decode prog_2_method_11_code 22 = .ok (.bipush 31, 2) := by decide +kernel
theorem d_RE_hasBelow_24 : decode prog_2_method_11_code 24 = .ok (.imul, 1) := by decide +kernel
theorem d_RE_hasBelow_25 : decode prog_2_method_11_code 25 = .ok (.isub, 1) := by decide +kernel
theorem d_RE_hasBelow_26 : decode prog_2_method_11_code 26 = .ok (.invokestatic 58, 3) := by decide +kernel
theorem d_RE_hasBelow_29 : decode prog_2_method_11_code 29 = .ok (.iand, 1) := by decide +kernel
theorem d_RE_hasBelow_30 : decode prog_2_method_11_code 30 = .ok (.ifCond .eq 5, 3) := by decide +kernel
theorem d_RE_hasBelow_33 : decode prog_2_method_11_code 33 = .ok (.iconst 1, 1) := by decide +kernel
theorem d_RE_hasBelow_34 : decode prog_2_method_11_code 34 = .ok (.ireturn, 1) := by decide +kernel
theorem d_RE_hasBelow_35 : decode prog_2_method_11_code 35 = .ok (.iinc 3 1, 3) := by decide +kernel
theorem d_RE_hasBelow_38 : decode prog_2_method_11_code 38 = .ok (.goto (-30), 3) := by decide +kernel
theorem d_RE_hasBelow_41 : decode prog_2_method_11_code 41 = .ok (.iconst 0, 1) := by decide +kernel
theorem d_RE_hasBelow_42 : decode prog_2_method_11_code 42 = .ok (.ireturn, 1) := by decide +kernel
def RE_hasBelow_8 : Nat → Int32 → Int32 → rn_S → Int32
  | 0, _, _, _ => 0
  | n + 1, L2, L3, st => (if (33 : Int32) ≤ L3 then (0 : Int32) else nm (RE_lowestBits (L2 - (L3 * (31 : Int32)))) (fun r26 => (if ((rn_ex st L3.toNatClampNeg) &&& r26) = 0 then nm (L3 + (1 : Int32)) (fun x35 => (RE_hasBelow_8 n) L2 x35 st) else (1 : Int32))))
def RE_hasBelow (st : rn_S) (p0 : Int32) : Int32 := nm (p0 - (-589 : Int32)) (fun x5 => RE_hasBelow_8 (34) x5 (0 : Int32) st)
set_option maxHeartbeats 4000000 in
set_option maxRecDepth 100000 in
theorem c_RE_hasBelow (l : Launch) {D : va_G} (a : Nat → Nat) (ci co : ClassId) (hi : rn_inj a) (st : rn_S) (p0 : Int32) (r0 : Int32) (hF : RE_hasBelow st p0 = r0) : ct_i l ⟨"RoundedNumbers$Exact", "hasBelow", "(I)Z"⟩ (.code ⟨"RoundedNumbers$Exact", "hasBelow", "(I)Z"⟩ prog_2_method_11_code 4 (some .boolean) :: ct_T) { frames := 1, cells := 0, slots := 0, locals := 20 } D vwCl (rn_T ci co) (rn_g a ci co) (rn_X a) [.ref (a 3), .int p0] st r0 st := by
  refine ct_i.mk (cc := prog_2_method_11_code) (maxL := 4) (by decide) rfl (Nat.le_of_ble_eq_true rfl) ?_
  intro p e s m below meth c hx hb hr hml hown hts hlk hK hN hP hS ls hl
  have hown : s.vm.findClass "RoundedNumbers$Exact" = some m.cls := hown
  have hl : lv_has ls 4 [(0, .ref (a 3)), (1, .int p0)] := hl
  have htb := fun w h => hts w (List.mem_cons_of_mem _ h)
  unfold RE_hasBelow at hF
  refine lv_iload_n hx hb d_RE_hasBelow_0 rfl (lv_at hl 1 rfl) ?_
  refine lv_sipush (v := -589) hx hb d_RE_hasBelow_1 (by decide) ?_
  refine lv_isub hx hb d_RE_hasBelow_4 ?_
  refine lv_topi (fun x5 e5 => ?_)
  replace hF := (nm_eq e5.symm).symm.trans hF
  refine lv_istore_n (lv' := [(2, .int x5), (0, .ref (a 3)), (1, .int p0)]) hx hb d_RE_hasBelow_5 rfl hl (by decide) rfl (fun ls hl => ?_)
  refine lv_iconst (v := 0) hx hb d_RE_hasBelow_6 (by decide) ?_
  refine lv_istore_n (lv' := [(3, .int (0 : Int32)), (2, .int x5), (0, .ref (a 3)), (1, .int p0)]) hx hb d_RE_hasBelow_7 rfl hl (by decide) rfl (fun ls hl => ?_)
  refine ct_loop1 (fun n (w8L3 : Int32) ls H locs => lv_has ls 4 [(3, .int w8L3), (2, .int x5), (0, .ref (a 3))] ∧ (∃ k, w8L3 = nI k ∧ k < 2147483648 ∧ 33 - k < n) ∧ RE_hasBelow_8 n x5 w8L3 st = r0 ∧ va_P D vwCl (rn_g a ci co st) H ∧ va_S (ct_F (rn_X a) s.heap.size) s.heap H locs) 8 ?_ ?_ (34) (0 : Int32) ⟨lv_sub hl [0, 1, 2] rfl, ⟨0, rfl, by omega, by omega⟩, hF, hP, hS⟩
  · intro w8L3 ls H locs hq
    obtain ⟨hl, hq9, hF, hP, hS⟩ := hq
    obtain ⟨k, e9, hk, hn⟩ := hq9
    exact absurd hn (Nat.not_lt_zero _)
  · intro n8 ih8 w8L3 ls H locs hq
    obtain ⟨hl, hq9, hF, hP, hS⟩ := hq
    obtain ⟨k8, e9, hk8, hn8⟩ := hq9
    subst e9
    rw [RE_hasBelow_8] at hF
    refine lv_iload_n hx hb d_RE_hasBelow_8 rfl (lv_at hl 0 rfl) ?_
    refine lv_bipush (v := 33) hx hb d_RE_hasBelow_9 (by decide) ?_
    refine lv_icmp_ge hx hb d_RE_hasBelow_11 (tgt := 41) (by decide) (fun c11 => ?_) (fun c11 => ?_)
    · replace hF := (if_pos c11).symm.trans hF
      refine lv_iconst (v := 0) hx hb d_RE_hasBelow_41 (by decide) ?_
      subst hF
      exact ct_zret hx hb hr hlk (by decide) hP hS d_RE_hasBelow_42
    · replace hF := (if_neg c11).symm.trans hF
      refine lv_aload_n hx hb d_RE_hasBelow_14 rfl (lv_at hl 2 rfl) ?_
      refine gf_RE_9 hx hb htb hown hK hP d_RE_hasBelow_15 ?_
      refine lv_iload_n hx hb d_RE_hasBelow_18 rfl (lv_at hl 0 rfl) ?_
      refine rn_ald_exl hx hb hK hP (nk_in hk8 rfl (by decide) c11) d_RE_hasBelow_19 ?_
      refine lv_iload_n hx hb d_RE_hasBelow_20 rfl (lv_at hl 1 rfl) ?_
      refine lv_iload_n hx hb d_RE_hasBelow_21 rfl (lv_at hl 0 rfl) ?_
      refine lv_bipush (v := 31) hx hb d_RE_hasBelow_22 (by decide) ?_
      refine lv_imul hx hb d_RE_hasBelow_24 ?_
      refine lv_isub hx hb d_RE_hasBelow_25 ?_
      obtain ⟨r26, e26⟩ := nm_ex (RE_lowestBits (x5 - ((nI k8) * (31 : Int32))))
      replace hF := (nm_eq e26).symm.trans hF
      refine ct_calli (va_runS (As := [.int (x5 - ((nI k8) * (31 : Int32)))]) (rest := [.int (rn_ex st (nI k8).toNatClampNeg)]) ⟨hx, hb, hml, hown, hts⟩ (c_RE_lowestBits l (D := D) a ci co hi st (x5 - ((nI k8) * (31 : Int32))) _ e26 _) (kc_RE_58 hts ⟨by decide, by decide⟩) ⟨ct_blind, ct_ok hP hK hN⟩ rfl rfl hl.1 rfl (lv_room (Nat.le_of_ble_eq_true rfl)) d_RE_hasBelow_26 ⟨Nat.zero_le _, Nat.zero_le _⟩) hS (fun H locs hP hS => ?_)
      refine lv_iand hx hb d_RE_hasBelow_29 ?_
      refine lv_if_eq hx hb d_RE_hasBelow_30 (tgt := 35) (by decide) (fun c30 => ?_) (fun c30 => ?_)
      · replace hF := (if_pos c30).symm.trans hF
        obtain ⟨x35, e35⟩ := nm_ex ((nI k8) + (1 : Int32))
        replace hF := (nm_eq e35).symm.trans hF
        refine lv_iinc (v := x35) (lv' := [(3, .int x35), (2, .int x5), (0, .ref (a 3))]) hx hb d_RE_hasBelow_35 hl (k := 0) rfl e35 (by decide) rfl (fun ls hl => ?_)
        refine lv_goto hx hb d_RE_hasBelow_38 (tgt := 8) (by decide) ?_
        have hk9 : k8 < 33 := nk_lt hk8 rfl (by decide) c11
        exact ih8 x35 _ _ _ ⟨lv_sub hl [0, 1, 2] rfl, ⟨k8 + 1, e35.symm.trans (nI_1 k8), by omega, by omega⟩, hF, hP, hS⟩
      · replace hF := (if_neg c30).symm.trans hF
        refine lv_iconst (v := 1) hx hb d_RE_hasBelow_33 (by decide) ?_
        subst hF
        exact ct_zret hx hb hr hlk (by decide) hP hS d_RE_hasBelow_34
theorem d_RE_isAbovePower_0 : decode prog_2_method_10_code 0 = .ok (.aload_n 0, 1) := by decide +kernel
theorem d_RE_isAbovePower_1 : decode prog_2_method_10_code 1 = .ok (.invokevirtual 41, 3) := by decide +kernel
theorem d_RE_isAbovePower_4 : decode prog_2_method_10_code 4 = .ok (.istore_n 2, 1) := by decide +kernel
theorem d_RE_isAbovePower_5 : decode prog_2_method_10_code 5 = .ok (.iload_n 2, 1) := by decide +kernel
theorem d_RE_isAbovePower_6 : decode prog_2_method_10_code 6 = .ok (.iload_n 1, 1) := by decide +kernel
theorem d_RE_isAbovePower_7 : decode prog_2_method_10_code 7 = .ok (.if_icmp .gt 16, 3) := by decide +kernel
theorem d_RE_isAbovePower_10 : decode prog_2_method_10_code 10 = .ok (.iload_n 2, 1) := by decide +kernel
theorem d_RE_isAbovePower_11 : decode prog_2_method_10_code 11 = .ok (.iload_n 1, 1) := by decide +kernel
theorem d_RE_isAbovePower_12 : decode prog_2_method_10_code 12 = .ok (.if_icmp .ne 15, 3) := by decide +kernel
theorem d_RE_isAbovePower_15 : decode prog_2_method_10_code 15 = .ok (.aload_n 0, 1) := by decide +kernel
theorem d_RE_isAbovePower_16 : decode prog_2_method_10_code 16 = .ok (.iload_n 1, 1) := by decide +kernel
theorem d_RE_isAbovePower_17 : decode prog_2_method_10_code 17 = .ok (.invokevirtual 54, 3) := by decide +kernel
theorem d_RE_isAbovePower_20 : decode prog_2_method_10_code 20 = .ok (.ifCond .eq 7, 3) := by decide +kernel
theorem d_RE_isAbovePower_23 : decode prog_2_method_10_code 23 = .ok (.iconst 1, 1) := by decide +kernel
theorem d_RE_isAbovePower_24 : decode prog_2_method_10_code 24 = .ok (.goto 4, 3) := by decide +kernel
theorem d_RE_isAbovePower_27 : decode prog_2_method_10_code 27 = .ok (.iconst 0, 1) := by decide +kernel
theorem d_RE_isAbovePower_28 : decode prog_2_method_10_code 28 = .ok (.ireturn, 1) := by decide +kernel
def RE_isAbovePower_23 (st : rn_S) : Int32 := (1 : Int32)
def RE_isAbovePower (st : rn_S) (p0 : Int32) : Int32 := nm (RE_topWeight st) (fun r1 => (if p0 < r1 then RE_isAbovePower_23 st else (if r1 = p0 then nm (RE_hasBelow st p0) (fun r17 => (if r17 = 0 then (0 : Int32) else RE_isAbovePower_23 st)) else (0 : Int32))))
set_option maxHeartbeats 4000000 in
set_option maxRecDepth 100000 in
theorem c_RE_isAbovePower (l : Launch) {D : va_G} (a : Nat → Nat) (ci co : ClassId) (hi : rn_inj a) (st : rn_S) (p0 : Int32) (r0 : Int32) (hF : RE_isAbovePower st p0 = r0) : ct_i l ⟨"RoundedNumbers$Exact", "isAbovePower", "(I)Z"⟩ (.code ⟨"RoundedNumbers$Exact", "isAbovePower", "(I)Z"⟩ prog_2_method_10_code 3 (some .boolean) :: ct_T) { frames := 2, cells := 0, slots := 0, locals := 43 } D vwCl (rn_T ci co) (rn_g a ci co) (rn_X a) [.ref (a 3), .int p0] st r0 st := by
  refine ct_i.mk (cc := prog_2_method_10_code) (maxL := 3) (by decide) rfl (Nat.le_of_ble_eq_true rfl) ?_
  intro p e s m below meth c hx hb hr hml hown hts hlk hK hN hP hS ls hl
  have hown : s.vm.findClass "RoundedNumbers$Exact" = some m.cls := hown
  have hl : lv_has ls 3 [(0, .ref (a 3)), (1, .int p0)] := hl
  have htb := fun w h => hts w (List.mem_cons_of_mem _ h)
  unfold RE_isAbovePower at hF
  refine lv_aload_n hx hb d_RE_isAbovePower_0 rfl (lv_at hl 0 rfl) ?_
  obtain ⟨r1, e1⟩ := nm_ex (RE_topWeight st)
  replace hF := (nm_eq e1).symm.trans hF
  refine ct_calli (va_runV (As := []) (rest := []) ⟨hx, hb, hml, hown, hts⟩ (c_RE_topWeight l (D := D) a ci co hi st _ e1 _) (kc_RE_41 hts ⟨by decide, by decide⟩) ⟨ct_blind, rn_rc2 hK hP, ct_ok hP hK hN⟩ rfl rfl hl.1 rfl (lv_room (Nat.le_of_ble_eq_true rfl)) d_RE_isAbovePower_1 ⟨Nat.zero_le _, Nat.zero_le _⟩) hS (fun H locs hP hS => ?_)
  refine lv_istore_n (lv' := [(2, .int r1), (0, .ref (a 3)), (1, .int p0)]) hx hb d_RE_isAbovePower_4 rfl hl (by decide) rfl (fun ls hl => ?_)
  refine lv_iload_n hx hb d_RE_isAbovePower_5 rfl (lv_at hl 0 rfl) ?_
  refine lv_iload_n hx hb d_RE_isAbovePower_6 rfl (lv_at hl 2 rfl) ?_
  refine ct_cut0 (fun  ls H locs => lv_has ls 3 [] ∧ RE_isAbovePower_23 st = r0 ∧ va_P D vwCl (rn_g a ci co st) H ∧ va_S (ct_F (rn_X a) s.heap.size) s.heap H locs) 23 [] ?_ ?_
  · intro ls H locs hq
    obtain ⟨hl, hF, hP, hS⟩ := hq
    unfold RE_isAbovePower_23 at hF
    refine lv_iconst (v := 1) hx hb d_RE_isAbovePower_23 (by decide) ?_
    refine lv_goto hx hb d_RE_isAbovePower_24 (tgt := 28) (by decide) ?_
    subst hF
    exact ct_zret hx hb hr hlk (by decide) hP hS d_RE_isAbovePower_28
  · intro kj23
    refine lv_icmp_gt hx hb d_RE_isAbovePower_7 (tgt := 23) (by decide) (fun c7 => ?_) (fun c7 => ?_)
    · replace hF := (if_pos c7).symm.trans hF
      exact kj23 _ _ _ ⟨lv_sub hl [] rfl, hF, hP, hS⟩
    · replace hF := (if_neg c7).symm.trans hF
      refine lv_iload_n hx hb d_RE_isAbovePower_10 rfl (lv_at hl 0 rfl) ?_
      refine lv_iload_n hx hb d_RE_isAbovePower_11 rfl (lv_at hl 2 rfl) ?_
      refine lv_icmp_ne hx hb d_RE_isAbovePower_12 (tgt := 27) (by decide) (fun c12 => ?_) (fun c12 => ?_)
      · replace hF := (if_neg c12).symm.trans hF
        refine lv_iconst (v := 0) hx hb d_RE_isAbovePower_27 (by decide) ?_
        subst hF
        exact ct_zret hx hb hr hlk (by decide) hP hS d_RE_isAbovePower_28
      · replace hF := (if_pos c12).symm.trans hF
        refine lv_aload_n hx hb d_RE_isAbovePower_15 rfl (lv_at hl 1 rfl) ?_
        refine lv_iload_n hx hb d_RE_isAbovePower_16 rfl (lv_at hl 2 rfl) ?_
        obtain ⟨r17, e17⟩ := nm_ex (RE_hasBelow st p0)
        replace hF := (nm_eq e17).symm.trans hF
        refine ct_calli (va_runV (As := [.int p0]) (rest := []) ⟨hx, hb, hml, hown, hts⟩ (c_RE_hasBelow l (D := D) a ci co hi st p0 _ e17 _) (kc_RE_54 hts ⟨by decide, by decide⟩) ⟨ct_blind, rn_rc2 hK hP, ct_ok hP hK hN⟩ rfl rfl hl.1 rfl (lv_room (Nat.le_of_ble_eq_true rfl)) d_RE_isAbovePower_17 ⟨Nat.zero_le _, Nat.zero_le _⟩) hS (fun H locs hP hS => ?_)
        refine lv_if_eq hx hb d_RE_isAbovePower_20 (tgt := 27) (by decide) (fun c20 => ?_) (fun c20 => ?_)
        · replace hF := (if_pos c20).symm.trans hF
          refine lv_iconst (v := 0) hx hb d_RE_isAbovePower_27 (by decide) ?_
          subst hF
          exact ct_zret hx hb hr hlk (by decide) hP hS d_RE_isAbovePower_28
        · replace hF := (if_neg c20).symm.trans hF
          exact kj23 _ _ _ ⟨lv_sub hl [] rfl, hF, hP, hS⟩
theorem d_RE_limb_0 : decode prog_2_method_9_code 0 = .ok (.iload_n 1, 1) := by decide +kernel
theorem d_RE_limb_1 : decode prog_2_method_9_code 1 = .ok (.ifCond .lt 18, 3) := by decide +kernel
theorem d_RE_limb_4 : decode prog_2_method_9_code 4 = .ok (.iload_n 1, 1) := by decide +kernel
theorem d_RE_limb_5 : decode prog_2_method_9_code 5 = .ok (.bipush 33, 2) := by decide +kernel
theorem d_RE_limb_7 : decode prog_2_method_9_code 7 = .ok (.if_icmp .ge 12, 3) := by decide +kernel
theorem d_RE_limb_10 : decode prog_2_method_9_code 10 = .ok (.aload_n 0, 1) := by decide +kernel
theorem d_RE_limb_11 : decode prog_2_method_9_code 11 = .ok (.getfield 9, 3) := by decide +kernel
theorem d_RE_limb_14 : decode prog_2_method_9_code 14 = .ok (.iload_n 1, 1) := by decide +kernel
theorem d_RE_limb_15 : decode prog_2_method_9_code 15 = .ok (.iaload, 1) := by decide +kernel
theorem d_RE_limb_16 : decode prog_2_method_9_code 16 = .ok (.goto 4, 3) := by decide +kernel
theorem d_RE_limb_19 : decode prog_2_method_9_code 19 = .ok (.iconst 0, 1) := by decide +kernel
theorem d_RE_limb_20 : decode prog_2_method_9_code 20 = .ok (.ireturn, 1) := by decide +kernel
def RE_limb (st : rn_S) (p0 : Int32) : Int32 := (if p0 < 0 then (0 : Int32) else (if (33 : Int32) ≤ p0 then (0 : Int32) else (rn_ex st p0.toNatClampNeg)))
set_option maxHeartbeats 4000000 in
set_option maxRecDepth 100000 in
theorem c_RE_limb (l : Launch) {D : va_G} (a : Nat → Nat) (ci co : ClassId) (hi : rn_inj a) (st : rn_S) (p0 : Int32) (r0 : Int32) (hF : RE_limb st p0 = r0) : ct_i l ⟨"RoundedNumbers$Exact", "limb", "(I)I"⟩ (.code ⟨"RoundedNumbers$Exact", "limb", "(I)I"⟩ prog_2_method_9_code 2 (some .int) :: ct_T) { frames := 0, cells := 0, slots := 0, locals := 0 } D vwCl (rn_T ci co) (rn_g a ci co) (rn_X a) [.ref (a 3), .int p0] st r0 st := by
  refine ct_i.mk (cc := prog_2_method_9_code) (maxL := 2) (by decide) rfl (Nat.le_of_ble_eq_true rfl) ?_
  intro p e s m below meth c hx hb hr hml hown hts hlk hK hN hP hS ls hl
  have hown : s.vm.findClass "RoundedNumbers$Exact" = some m.cls := hown
  have hl : lv_has ls 2 [(0, .ref (a 3)), (1, .int p0)] := hl
  have htb := fun w h => hts w (List.mem_cons_of_mem _ h)
  unfold RE_limb at hF
  refine lv_iload_n hx hb d_RE_limb_0 rfl (lv_at hl 1 rfl) ?_
  refine lv_if_lt hx hb d_RE_limb_1 (tgt := 19) (by decide) (fun c1 => ?_) (fun c1 => ?_)
  · replace hF := (if_pos c1).symm.trans hF
    refine lv_iconst (v := 0) hx hb d_RE_limb_19 (by decide) ?_
    subst hF
    exact ct_iret hx hb hr hlk hP hS d_RE_limb_20
  · replace hF := (if_neg c1).symm.trans hF
    refine lv_iload_n hx hb d_RE_limb_4 rfl (lv_at hl 1 rfl) ?_
    refine lv_bipush (v := 33) hx hb d_RE_limb_5 (by decide) ?_
    refine lv_icmp_ge hx hb d_RE_limb_7 (tgt := 19) (by decide) (fun c7 => ?_) (fun c7 => ?_)
    · replace hF := (if_pos c7).symm.trans hF
      refine lv_iconst (v := 0) hx hb d_RE_limb_19 (by decide) ?_
      subst hF
      exact ct_iret hx hb hr hlk hP hS d_RE_limb_20
    · replace hF := (if_neg c7).symm.trans hF
      refine lv_aload_n hx hb d_RE_limb_10 rfl (lv_at hl 0 rfl) ?_
      refine gf_RE_9 hx hb htb hown hK hP d_RE_limb_11 ?_
      refine lv_iload_n hx hb d_RE_limb_14 rfl (lv_at hl 1 rfl) ?_
      refine rn_ald_exl hx hb hK hP (nk_ge0 c1 c7) d_RE_limb_15 ?_
      refine lv_goto hx hb d_RE_limb_16 (tgt := 20) (by decide) ?_
      subst hF
      exact ct_iret hx hb hr hlk hP hS d_RE_limb_20
theorem d_RE_bit_0 : decode prog_2_method_8_code 0 = .ok (.iload_n 1, 1) := by decide +kernel
theorem d_RE_bit_1 : decode prog_2_method_8_code 1 = .ok (.sipush (-589), 3) := by decide +kernel
theorem d_RE_bit_4 : decode prog_2_method_8_code 4 = .ok (.isub, 1) := by decide +kernel
theorem d_RE_bit_5 : decode prog_2_method_8_code 5 = .ok (.istore_n 2, 1) := by decide +kernel
theorem d_RE_bit_6 : decode prog_2_method_8_code 6 = .ok (.aload_n 0, 1) := by decide +kernel
theorem d_RE_bit_7 : decode prog_2_method_8_code 7 = .ok (.iload_n 2, 1) := by decide +kernel
theorem d_RE_bit_8 : decode prog_2_method_8_code 8 = .ok (.bipush 31, 2) := by decide +kernel
theorem d_RE_bit_10 : decode prog_2_method_8_code 10 = .ok (.idiv, 1) := by decide +kernel
theorem d_RE_bit_11 : decode prog_2_method_8_code 11 = .ok (.invokevirtual 51, 3) := by decide +kernel
theorem d_RE_bit_14 : decode prog_2_method_8_code 14 = .ok (.iload_n 2, 1) := by decide +kernel
theorem d_RE_bit_15 : decode prog_2_method_8_code 15 = .ok (.bipush 31, 2) := by decide +kernel
theorem d_RE_bit_17 : decode prog_2_method_8_code 17 = .ok (.irem, 1) := by decide +kernel
theorem d_RE_bit_18 : decode prog_2_method_8_code 18 = .ok (.ishr, 1) := by decide +kernel
theorem d_RE_bit_19 : decode prog_2_method_8_code 19 = .ok (.iconst 1, 1) := by decide +kernel
theorem d_RE_bit_20 : decode prog_2_method_8_code 20 = .ok (.iand, 1) := by decide +kernel
theorem d_RE_bit_21 : decode prog_2_method_8_code 21 = .ok (.ireturn, 1) := by decide +kernel
def RE_bit (st : rn_S) (p0 : Int32) : Int32 := nm (p0 - (-589 : Int32)) (fun x5 => nm (RE_limb st (x5 / (31 : Int32))) (fun r11 => ((r11 >>> ((x5 - x5 / (31 : Int32) * (31 : Int32)) &&& 31)) &&& (1 : Int32))))
set_option maxHeartbeats 4000000 in
set_option maxRecDepth 100000 in
theorem c_RE_bit (l : Launch) {D : va_G} (a : Nat → Nat) (ci co : ClassId) (hi : rn_inj a) (st : rn_S) (p0 : Int32) (r0 : Int32) (hF : RE_bit st p0 = r0) : ct_i l ⟨"RoundedNumbers$Exact", "bit", "(I)I"⟩ (.code ⟨"RoundedNumbers$Exact", "bit", "(I)I"⟩ prog_2_method_8_code 3 (some .int) :: ct_T) { frames := 1, cells := 0, slots := 0, locals := 21 } D vwCl (rn_T ci co) (rn_g a ci co) (rn_X a) [.ref (a 3), .int p0] st r0 st := by
  refine ct_i.mk (cc := prog_2_method_8_code) (maxL := 3) (by decide) rfl (Nat.le_of_ble_eq_true rfl) ?_
  intro p e s m below meth c hx hb hr hml hown hts hlk hK hN hP hS ls hl
  have hown : s.vm.findClass "RoundedNumbers$Exact" = some m.cls := hown
  have hl : lv_has ls 3 [(0, .ref (a 3)), (1, .int p0)] := hl
  have htb := fun w h => hts w (List.mem_cons_of_mem _ h)
  unfold RE_bit at hF
  refine lv_iload_n hx hb d_RE_bit_0 rfl (lv_at hl 1 rfl) ?_
  refine lv_sipush (v := -589) hx hb d_RE_bit_1 (by decide) ?_
  refine lv_isub hx hb d_RE_bit_4 ?_
  refine lv_topi (fun x5 e5 => ?_)
  replace hF := (nm_eq e5.symm).symm.trans hF
  refine lv_istore_n (lv' := [(2, .int x5), (0, .ref (a 3)), (1, .int p0)]) hx hb d_RE_bit_5 rfl hl (by decide) rfl (fun ls hl => ?_)
  refine lv_aload_n hx hb d_RE_bit_6 rfl (lv_at hl 1 rfl) ?_
  refine lv_iload_n hx hb d_RE_bit_7 rfl (lv_at hl 0 rfl) ?_
  refine lv_bipush (v := 31) hx hb d_RE_bit_8 (by decide) ?_
  refine lv_idiv hx hb d_RE_bit_10 (by decide) ?_
  obtain ⟨r11, e11⟩ := nm_ex (RE_limb st (x5 / (31 : Int32)))
  replace hF := (nm_eq e11).symm.trans hF
  refine ct_calli (va_runV (As := [.int (x5 / (31 : Int32))]) (rest := []) ⟨hx, hb, hml, hown, hts⟩ (c_RE_limb l (D := D) a ci co hi st (x5 / (31 : Int32)) _ e11 _) (kc_RE_51 hts ⟨by decide, by decide⟩) ⟨ct_blind, rn_rc2 hK hP, ct_ok hP hK hN⟩ rfl rfl hl.1 rfl (lv_room (Nat.le_of_ble_eq_true rfl)) d_RE_bit_11 ⟨Nat.zero_le _, Nat.zero_le _⟩) hS (fun H locs hP hS => ?_)
  refine lv_iload_n hx hb d_RE_bit_14 rfl (lv_at hl 0 rfl) ?_
  refine lv_bipush (v := 31) hx hb d_RE_bit_15 (by decide) ?_
  refine lv_irem hx hb d_RE_bit_17 (by decide) ?_
  refine lv_ishr hx hb d_RE_bit_18 ?_
  refine lv_iconst (v := 1) hx hb d_RE_bit_19 (by decide) ?_
  refine lv_iand hx hb d_RE_bit_20 ?_
  subst hF
  exact ct_iret hx hb hr hlk hP hS d_RE_bit_21
theorem d_RE_cutBelow_0 : decode prog_2_method_12_code 0 = .ok (.iload_n 1, 1) := by decide +kernel
theorem d_RE_cutBelow_1 : decode prog_2_method_12_code 1 = .ok (.sipush (-589), 3) := by decide +kernel
theorem d_RE_cutBelow_4 : decode prog_2_method_12_code 4 = .ok (.isub, 1) := by decide +kernel
theorem d_RE_cutBelow_5 : decode prog_2_method_12_code 5 = .ok (.istore_n 2, 1) := by decide +kernel
theorem d_RE_cutBelow_6 : decode prog_2_method_12_code 6 = .ok (.iconst 0, 1) := by decide +kernel
theorem d_RE_cutBelow_7 : decode prog_2_method_12_code 7 = .ok (.istore_n 3, 1) := by decide +kernel
theorem d_RE_cutBelow_8 : decode prog_2_method_12_code 8 = .ok (.iload_n 3, 1) := by decide +kernel
theorem d_RE_cutBelow_9 : decode prog_2_method_12_code 9 = .ok (.bipush 33, 2) := by decide +kernel
theorem d_RE_cutBelow_11 : decode prog_2_method_12_code 11 = .ok (.if_icmp .ge 29, 3) := by decide +kernel
theorem d_RE_cutBelow_14 : decode prog_2_method_12_code 14 = .ok (.aload_n 0, 1) := by decide +kernel
theorem d_RE_cutBelow_15 : decode prog_2_method_12_code 15 = .ok (.getfield 9, 3) := by decide +kernel
theorem d_RE_cutBelow_18 : decode prog_2_method_12_code 18 = .ok (.iload_n 3, 1) := by decide +kernel
theorem d_RE_cutBelow_19 : decode prog_2_method_12_code 19 = .ok (.dup2, 1) := by decide +kernel
theorem d_RE_cutBelow_20 : decode prog_2_method_12_code 20 = .ok (.iaload, 1) := by decide +kernel
theorem d_RE_cutBelow_21 : decode prog_2_method_12_code 21 = .ok (.iload_n 2, 1) := by decide +kernel
theorem d_RE_cutBelow_22 : decode prog_2_method_12_code 22 = .ok (.iload_n 3, 1) := by decide +kernel
theorem d_RE_cutBelow_23 : decode prog_2_method_12_code 23 = .ok (.bipush 31, 2) := by decide +kernel
theorem d_RE_cutBelow_25 : decode prog_2_method_12_code 25 = .ok (.imul, 1) := by decide +kernel
theorem d_RE_cutBelow_26 : decode prog_2_method_12_code 26 = .ok (.isub, 1) := by decide +kernel
theorem d_RE_cutBelow_27 : decode prog_2_method_12_code 27 = .ok (.invokestatic 58, 3) := by decide +kernel
theorem d_RE_cutBelow_30 : decode prog_2_method_12_code 30 = .ok (.iconst (-1), 1) := by decide +kernel
theorem d_RE_cutBelow_31 : decode prog_2_method_12_code 31 = .ok (.ixor, 1) := by decide +kernel
theorem d_RE_cutBelow_32 : decode prog_2_method_12_code 32 = .ok (.iand, 1) := by decide +kernel
theorem d_RE_cutBelow_33 : decode prog_2_method_12_code 33 = .ok (.iastore, 1) := by decide +kernel
theorem d_RE_cutBelow_34 : decode prog_2_method_12_code 34 = .ok (.iinc 3 1, 3) := by decide +kernel
theorem d_RE_cutBelow_37 : decode prog_2_method_12_code 37 = .ok (.goto (-29), 3) := by decide +kernel
theorem d_RE_cutBelow_40 : decode prog_2_method_12_code 40 = .ok (.return_, 1) := by decide +kernel
def RE_cutBelow_8 : Nat → Int32 → Int32 → rn_S → rn_S
  | 0, _, _, st => st
  | n + 1, L2, L3, st => (if (33 : Int32) ≤ L3 then st else nm (RE_lowestBits (L2 - (L3 * (31 : Int32)))) (fun r27 => nm (rn_exs st L3.toNatClampNeg ((rn_ex st L3.toNatClampNeg) &&& (r27 ^^^ (-1 : Int32)))) (fun t33 => nm (L3 + (1 : Int32)) (fun x34 => (RE_cutBelow_8 n) L2 x34 t33))))
def RE_cutBelow (st : rn_S) (p0 : Int32) : rn_S := nm (p0 - (-589 : Int32)) (fun x5 => RE_cutBelow_8 (34) x5 (0 : Int32) st)
set_option maxHeartbeats 4000000 in
set_option maxRecDepth 100000 in
theorem c_RE_cutBelow (l : Launch) {D : va_G} (a : Nat → Nat) (ci co : ClassId) (hi : rn_inj a) (st : rn_S) (p0 : Int32) (t0 : rn_S) (hF : RE_cutBelow st p0 = t0) : ct_v l ⟨"RoundedNumbers$Exact", "cutBelow", "(I)V"⟩ (.code ⟨"RoundedNumbers$Exact", "cutBelow", "(I)V"⟩ prog_2_method_12_code 4 none :: ct_T) { frames := 1, cells := 0, slots := 0, locals := 20 } D vwCl (rn_T ci co) (rn_g a ci co) (rn_X a) [.ref (a 3), .int p0] st t0 := by
  refine ct_v.mk (cc := prog_2_method_12_code) (maxL := 4) (by decide) rfl (Nat.le_of_ble_eq_true rfl) ?_
  intro p e s m below meth c hx hb hr hml hown hts hlk hK hN hP hS ls hl
  have hown : s.vm.findClass "RoundedNumbers$Exact" = some m.cls := hown
  have hl : lv_has ls 4 [(0, .ref (a 3)), (1, .int p0)] := hl
  have htb := fun w h => hts w (List.mem_cons_of_mem _ h)
  unfold RE_cutBelow at hF
  refine lv_iload_n hx hb d_RE_cutBelow_0 rfl (lv_at hl 1 rfl) ?_
  refine lv_sipush (v := -589) hx hb d_RE_cutBelow_1 (by decide) ?_
  refine lv_isub hx hb d_RE_cutBelow_4 ?_
  refine lv_topi (fun x5 e5 => ?_)
  replace hF := (nm_eq e5.symm).symm.trans hF
  refine lv_istore_n (lv' := [(2, .int x5), (0, .ref (a 3)), (1, .int p0)]) hx hb d_RE_cutBelow_5 rfl hl (by decide) rfl (fun ls hl => ?_)
  refine lv_iconst (v := 0) hx hb d_RE_cutBelow_6 (by decide) ?_
  refine lv_istore_n (lv' := [(3, .int (0 : Int32)), (2, .int x5), (0, .ref (a 3)), (1, .int p0)]) hx hb d_RE_cutBelow_7 rfl hl (by decide) rfl (fun ls hl => ?_)
  refine ct_loop2 (fun n (w8L3 : Int32) (w8t : rn_S) ls H locs => lv_has ls 4 [(3, .int w8L3), (2, .int x5), (0, .ref (a 3))] ∧ (∃ k, w8L3 = nI k ∧ k < 2147483648 ∧ 33 - k < n) ∧ RE_cutBelow_8 n x5 w8L3 w8t = t0 ∧ va_P D vwCl (rn_g a ci co w8t) H ∧ va_S (ct_F (rn_X a) s.heap.size) s.heap H locs) 8 ?_ ?_ (34) (0 : Int32) st ⟨lv_sub hl [0, 1, 2] rfl, ⟨0, rfl, by omega, by omega⟩, hF, hP, hS⟩
  · intro w8L3 w8t ls H locs hq
    obtain ⟨hl, hq9, hF, hP, hS⟩ := hq
    obtain ⟨k, e9, hk, hn⟩ := hq9
    exact absurd hn (Nat.not_lt_zero _)
  · intro n8 ih8 w8L3 w8t ls H locs hq
    obtain ⟨hl, hq9, hF, hP, hS⟩ := hq
    obtain ⟨k8, e9, hk8, hn8⟩ := hq9
    subst e9
    rw [RE_cutBelow_8] at hF
    refine lv_iload_n hx hb d_RE_cutBelow_8 rfl (lv_at hl 0 rfl) ?_
    refine lv_bipush (v := 33) hx hb d_RE_cutBelow_9 (by decide) ?_
    refine lv_icmp_ge hx hb d_RE_cutBelow_11 (tgt := 40) (by decide) (fun c11 => ?_) (fun c11 => ?_)
    · replace hF := (if_pos c11).symm.trans hF
      subst hF
      exact ct_vret hx hb hr hlk hP hS d_RE_cutBelow_40
    · replace hF := (if_neg c11).symm.trans hF
      refine lv_aload_n hx hb d_RE_cutBelow_14 rfl (lv_at hl 2 rfl) ?_
      refine gf_RE_9 hx hb htb hown hK hP d_RE_cutBelow_15 ?_
      refine lv_iload_n hx hb d_RE_cutBelow_18 rfl (lv_at hl 0 rfl) ?_
      refine lv_dup2_11 hx hb d_RE_cutBelow_19 rfl rfl ?_
      refine rn_ald_exl hx hb hK hP (nk_in hk8 rfl (by decide) c11) d_RE_cutBelow_20 ?_
      refine lv_iload_n hx hb d_RE_cutBelow_21 rfl (lv_at hl 1 rfl) ?_
      refine lv_iload_n hx hb d_RE_cutBelow_22 rfl (lv_at hl 0 rfl) ?_
      refine lv_bipush (v := 31) hx hb d_RE_cutBelow_23 (by decide) ?_
      refine lv_imul hx hb d_RE_cutBelow_25 ?_
      refine lv_isub hx hb d_RE_cutBelow_26 ?_
      obtain ⟨r27, e27⟩ := nm_ex (RE_lowestBits (x5 - ((nI k8) * (31 : Int32))))
      replace hF := (nm_eq e27).symm.trans hF
      refine ct_calli (va_runS (As := [.int (x5 - ((nI k8) * (31 : Int32)))]) (rest := [.int (rn_ex w8t (nI k8).toNatClampNeg), .int (nI k8), .ref (a 4)]) ⟨hx, hb, hml, hown, hts⟩ (c_RE_lowestBits l (D := D) a ci co hi w8t (x5 - ((nI k8) * (31 : Int32))) _ e27 _) (kc_RE_58 hts ⟨by decide, by decide⟩) ⟨ct_blind, ct_ok hP hK hN⟩ rfl rfl hl.1 rfl (lv_room (Nat.le_of_ble_eq_true rfl)) d_RE_cutBelow_27 ⟨Nat.zero_le _, Nat.zero_le _⟩) hS (fun H locs hP hS => ?_)
      refine lv_iconst (v := -1) hx hb d_RE_cutBelow_30 (by decide) ?_
      refine lv_ixor hx hb d_RE_cutBelow_31 ?_
      refine lv_iand hx hb d_RE_cutBelow_32 ?_
      refine rn_ast_exl hx hb hK hP hS hi (nk_in hk8 rfl (by decide) c11) d_RE_cutBelow_33 (fun H locs hP hS => ?_)
      obtain ⟨t33, e33, hP⟩ := nm_st hP
      replace hF := (nm_eq e33).symm.trans hF
      obtain ⟨x34, e34⟩ := nm_ex ((nI k8) + (1 : Int32))
      replace hF := (nm_eq e34).symm.trans hF
      refine lv_iinc (v := x34) (lv' := [(3, .int x34), (2, .int x5), (0, .ref (a 3))]) hx hb d_RE_cutBelow_34 hl (k := 0) rfl e34 (by decide) rfl (fun ls hl => ?_)
      refine lv_goto hx hb d_RE_cutBelow_37 (tgt := 8) (by decide) ?_
      have hk9 : k8 < 33 := nk_lt hk8 rfl (by decide) c11
      exact ih8 x34 t33 _ _ _ ⟨lv_sub hl [0, 1, 2] rfl, ⟨k8 + 1, e34.symm.trans (nI_1 k8), by omega, by omega⟩, hF, hP, hS⟩
theorem d_RE_addPower_0 : decode prog_2_method_4_code 0 = .ok (.iload_n 1, 1) := by decide +kernel
theorem d_RE_addPower_1 : decode prog_2_method_4_code 1 = .ok (.sipush (-589), 3) := by decide +kernel
theorem d_RE_addPower_4 : decode prog_2_method_4_code 4 = .ok (.isub, 1) := by decide +kernel
theorem d_RE_addPower_5 : decode prog_2_method_4_code 5 = .ok (.istore_n 3, 1) := by decide +kernel
theorem d_RE_addPower_6 : decode prog_2_method_4_code 6 = .ok (.iload_n 2, 1) := by decide +kernel
theorem d_RE_addPower_7 : decode prog_2_method_4_code 7 = .ok (.i2l, 1) := by decide +kernel
theorem d_RE_addPower_8 : decode prog_2_method_4_code 8 = .ok (.iload_n 3, 1) := by decide +kernel
theorem d_RE_addPower_9 : decode prog_2_method_4_code 9 = .ok (.bipush 31, 2) := by decide +kernel
theorem d_RE_addPower_11 : decode prog_2_method_4_code 11 = .ok (.irem, 1) := by decide +kernel
theorem d_RE_addPower_12 : decode prog_2_method_4_code 12 = .ok (.lshl, 1) := by decide +kernel
theorem d_RE_addPower_13 : decode prog_2_method_4_code 13 = .ok (.lstore 4, 2) := by decide +kernel
theorem d_RE_addPower_15 : decode prog_2_method_4_code 15 = .ok (.iconst 0, 1) := by decide +kernel
theorem d_RE_addPower_16 : decode prog_2_method_4_code 16 = .ok (.iload_n 3, 1) := by decide +kernel
theorem d_RE_addPower_17 : decode prog_2_method_4_code 17 = .ok (.bipush 31, 2) := by decide +kernel
theorem d_RE_addPower_19 : decode prog_2_method_4_code 19 = .ok (.idiv, 1) := by decide +kernel
theorem d_RE_addPower_20 : decode prog_2_method_4_code 20 = .ok (.invokestatic 30, 3) := by decide +kernel
theorem d_RE_addPower_23 : decode prog_2_method_4_code 23 = .ok (.istore 6, 2) := by decide +kernel
theorem d_RE_addPower_25 : decode prog_2_method_4_code 25 = .ok (.iload 6, 2) := by decide +kernel
theorem d_RE_addPower_27 : decode prog_2_method_4_code 27 = .ok (.bipush 33, 2) := by decide +kernel
theorem d_RE_addPower_29 : decode prog_2_method_4_code 29 = .ok (.if_icmp .ge 49, 3) := by decide +kernel
theorem d_RE_addPower_32 : decode prog_2_method_4_code 32 = .ok (.lload 4, 2) := by decide +kernel
theorem d_RE_addPower_34 : decode prog_2_method_4_code 34 = .ok (.lconst 0, 1) := by decide +kernel
theorem d_RE_addPower_35 : decode prog_2_method_4_code 35 = .ok (.lcmp, 1) := by decide +kernel
theorem d_RE_addPower_36 : decode prog_2_method_4_code 36 = .ok (.ifCond .eq 42, 3) := by decide +kernel
theorem d_RE_addPower_39 : decode prog_2_method_4_code 39 = .ok (.lload 4, 2) := by decide +kernel
theorem d_RE_addPower_41 : decode prog_2_method_4_code 41 = .ok (.aload_n 0, 1) := by decide +kernel
theorem d_RE_addPower_42 : decode prog_2_method_4_code 42 = .ok (.getfield 9, 3) := by decide +kernel
theorem d_RE_addPower_45 : decode prog_2_method_4_code 45 = .ok (.iload 6, 2) := by decide +kernel
theorem d_RE_addPower_47 : decode prog_2_method_4_code 47 = .ok (.iaload, 1) := by decide +kernel
theorem d_RE_addPower_48 : decode prog_2_method_4_code 48 = .ok (.i2l, 1) := by decide +kernel
theorem d_RE_addPower_49 : decode prog_2_method_4_code 49 = .ok (.ladd, 1) := by decide +kernel
theorem d_RE_addPower_50 : decode prog_2_method_4_code 50 = .ok (.lstore 4, 2) := by decide +kernel
theorem d_RE_addPower_52 : decode prog_2_method_4_code 52 = .ok (.aload_n 0, 1) := by decide +kernel
theorem d_RE_addPower_53 : decode prog_2_method_4_code 53 = .ok (.getfield 9, 3) := by decide +kernel
theorem d_RE_addPower_56 : decode prog_2_method_4_code 56 = .ok (.iload 6, 2) := by decide +kernel
theorem d_RE_addPower_58 : decode prog_2_method_4_code 58 = .ok (.lload 4, 2) := by decide +kernel
theorem d_RE_addPower_60 : decode prog_2_method_4_code 60 = .ok (.l2i, 1) := by decide +kernel
theorem d_RE_addPower_61 : decode prog_2_method_4_code 61 = .ok (.ldc 37, 2) := by decide +kernel
theorem d_RE_addPower_63 : decode prog_2_method_4_code 63 = .ok (.iand, 1) := by decide +kernel
theorem d_RE_addPower_64 : decode prog_2_method_4_code 64 = .ok (.iastore, 1) := by decide +kernel
theorem d_RE_addPower_65 : decode prog_2_method_4_code 65 = .ok (.lload 4, 2) := by decide +kernel
theorem d_RE_addPower_67 : decode prog_2_method_4_code 67 = .ok (.bipush 31, 2) := by decide +kernel
theorem d_RE_addPower_69 : decode prog_2_method_4_code 69 = .ok (.lshr, 1) := by decide +kernel
theorem d_RE_addPower_70 : decode prog_2_method_4_code 70 = .ok (.lstore 4, 2) := by decide +kernel
theorem d_RE_addPower_72 : decode prog_2_method_4_code 72 = .ok (.iinc 6 1, 3) := by decide +kernel
theorem d_RE_addPower_75 : decode prog_2_method_4_code 75 = .ok (.goto (-50), 3) := by decide +kernel
theorem d_RE_addPower_78 : decode prog_2_method_4_code 78 = .ok (.return_, 1) := by decide +kernel
def RE_addPower_25 : Nat → Int64 → Int32 → rn_S → rn_S
  | 0, _, _, st => st
  | n + 1, L4, L6, st => (if (33 : Int32) ≤ L6 then st else (if (lg_cmp L4 (0 : Int64)) = 0 then st else nm (L4 + (rn_ex st L6.toNatClampNeg).toInt64) (fun x50 => nm (rn_exs st L6.toNatClampNeg (x50.toInt32 &&& (2147483647 : Int32))) (fun t64 => nm (x50 >>> ((31 : Int32).toInt64 &&& 63)) (fun x70 => nm (L6 + (1 : Int32)) (fun x72 => (RE_addPower_25 n) x70 x72 t64))))))
def RE_addPower (st : rn_S) (p0 : Int32) (p1 : Int32) : rn_S := nm (p0 - (-589 : Int32)) (fun x5 => nm (p1.toInt64 <<< ((x5 - x5 / (31 : Int32) * (31 : Int32)).toInt64 &&& 63)) (fun x13 => nm (if (0 : Int32) < (x5 / (31 : Int32)) then (x5 / (31 : Int32)) else (0 : Int32)) (fun x23 => RE_addPower_25 (34) x13 x23 st)))
set_option maxHeartbeats 4000000 in
set_option maxRecDepth 100000 in
theorem c_RE_addPower (l : Launch) {D : va_G} (a : Nat → Nat) (ci co : ClassId) (hi : rn_inj a) (st : rn_S) (p0 : Int32) (p1 : Int32) (t0 : rn_S) (hF : RE_addPower st p0 p1 = t0) : ct_v l ⟨"RoundedNumbers$Exact", "addPower", "(II)V"⟩ (.code ⟨"RoundedNumbers$Exact", "addPower", "(II)V"⟩ prog_2_method_4_code 7 none :: ct_T) { frames := 1, cells := 0, slots := 0, locals := 21 } D vwCl (rn_T ci co) (rn_g a ci co) (rn_X a) [.ref (a 3), .int p0, .int p1] st t0 := by
  refine ct_v.mk (cc := prog_2_method_4_code) (maxL := 7) (by decide) rfl (Nat.le_of_ble_eq_true rfl) ?_
  intro p e s m below meth c hx hb hr hml hown hts hlk hK hN hP hS ls hl
  have hown : s.vm.findClass "RoundedNumbers$Exact" = some m.cls := hown
  have hl : lv_has ls 7 [(0, .ref (a 3)), (1, .int p0), (2, .int p1)] := hl
  have htb := fun w h => hts w (List.mem_cons_of_mem _ h)
  unfold RE_addPower at hF
  refine lv_iload_n hx hb d_RE_addPower_0 rfl (lv_at hl 1 rfl) ?_
  refine lv_sipush (v := -589) hx hb d_RE_addPower_1 (by decide) ?_
  refine lv_isub hx hb d_RE_addPower_4 ?_
  refine lv_topi (fun x5 e5 => ?_)
  replace hF := (nm_eq e5.symm).symm.trans hF
  refine lv_istore_n (lv' := [(3, .int x5), (0, .ref (a 3)), (1, .int p0), (2, .int p1)]) hx hb d_RE_addPower_5 rfl hl (by decide) rfl (fun ls hl => ?_)
  refine lv_iload_n hx hb d_RE_addPower_6 rfl (lv_at hl 3 rfl) ?_
  refine lv_i2l hx hb d_RE_addPower_7 rfl ?_
  refine lv_iload_n hx hb d_RE_addPower_8 rfl (lv_at hl 0 rfl) ?_
  refine lv_bipush (v := 31) hx hb d_RE_addPower_9 (by decide) ?_
  refine lv_irem hx hb d_RE_addPower_11 (by decide) ?_
  refine lv_lshl hx hb d_RE_addPower_12 rfl ?_
  refine lv_topl (fun x13 e13 => ?_)
  replace hF := (nm_eq e13.symm).symm.trans hF
  refine lv_lstore (lv' := [(4, .long x13), (3, .int x5), (0, .ref (a 3)), (1, .int p0), (2, .int p1)]) hx hb d_RE_addPower_13 hl (by decide) rfl (fun ls hl => ?_)
  refine lv_iconst (v := 0) hx hb d_RE_addPower_15 (by decide) ?_
  refine lv_iload_n hx hb d_RE_addPower_16 rfl (lv_at hl 1 rfl) ?_
  refine lv_bipush (v := 31) hx hb d_RE_addPower_17 (by decide) ?_
  refine lv_idiv hx hb d_RE_addPower_19 (by decide) ?_
  refine mm_RE_max hx hb (hml.trans hl.1.symm) hown htb (by decide) (by decide) d_RE_addPower_20 ?_
  refine lv_topi (fun x23 e23 => ?_)
  replace hF := (nm_eq e23.symm).symm.trans hF
  refine lv_istore (lv' := [(6, .int x23), (4, .long x13), (3, .int x5), (0, .ref (a 3)), (1, .int p0), (2, .int p1)]) hx hb d_RE_addPower_23 hl (by decide) rfl (fun ls hl => ?_)
  refine ct_loop3 (fun n (w25L6 : Int32) (w25L4 : Int64) (w25t : rn_S) ls H locs => lv_has ls 7 [(6, .int w25L6), (4, .long w25L4), (0, .ref (a 3))] ∧ (∃ k, w25L6 = nI k ∧ k < 2147483648 ∧ 33 - k < n) ∧ RE_addPower_25 n w25L4 w25L6 w25t = t0 ∧ va_P D vwCl (rn_g a ci co w25t) H ∧ va_S (ct_F (rn_X a) s.heap.size) s.heap H locs) 25 ?_ ?_ (34) x23 x13 st ⟨lv_sub hl [0, 1, 3] rfl, (nk_max0 e23), hF, hP, hS⟩
  · intro w25L6 w25L4 w25t ls H locs hq
    obtain ⟨hl, hq9, hF, hP, hS⟩ := hq
    obtain ⟨k, e9, hk, hn⟩ := hq9
    exact absurd hn (Nat.not_lt_zero _)
  · intro n25 ih25 w25L6 w25L4 w25t ls H locs hq
    obtain ⟨hl, hq9, hF, hP, hS⟩ := hq
    obtain ⟨k25, e9, hk25, hn25⟩ := hq9
    subst e9
    rw [RE_addPower_25] at hF
    refine lv_iload hx hb d_RE_addPower_25 (lv_at hl 0 rfl) ?_
    refine lv_bipush (v := 33) hx hb d_RE_addPower_27 (by decide) ?_
    refine lv_icmp_ge hx hb d_RE_addPower_29 (tgt := 78) (by decide) (fun c29 => ?_) (fun c29 => ?_)
    · replace hF := (if_pos c29).symm.trans hF
      subst hF
      exact ct_vret hx hb hr hlk hP hS d_RE_addPower_78
    · replace hF := (if_neg c29).symm.trans hF
      refine lv_lload hx hb d_RE_addPower_32 (lv_at hl 1 rfl) ?_
      refine lv_lconst (v := 0) hx hb d_RE_addPower_34 (by decide) ?_
      refine W.lcmp hx hb d_RE_addPower_35 ?_
      refine lv_if_eq hx hb d_RE_addPower_36 (tgt := 78) (by decide) (fun c36 => ?_) (fun c36 => ?_)
      · replace hF := (if_pos c36).symm.trans hF
        subst hF
        exact ct_vret hx hb hr hlk hP hS d_RE_addPower_78
      · replace hF := (if_neg c36).symm.trans hF
        refine lv_lload hx hb d_RE_addPower_39 (lv_at hl 1 rfl) ?_
        refine lv_aload_n hx hb d_RE_addPower_41 rfl (lv_at hl 2 rfl) ?_
        refine gf_RE_9 hx hb htb hown hK hP d_RE_addPower_42 ?_
        refine lv_iload hx hb d_RE_addPower_45 (lv_at hl 0 rfl) ?_
        refine rn_ald_exl hx hb hK hP (nk_in hk25 rfl (by decide) c29) d_RE_addPower_47 ?_
        refine lv_i2l hx hb d_RE_addPower_48 rfl ?_
        refine lv_ladd hx hb d_RE_addPower_49 ?_
        refine lv_topl (fun x50 e50 => ?_)
        replace hF := (nm_eq e50.symm).symm.trans hF
        refine lv_lstore (lv' := [(4, .long x50), (6, .int (nI k25)), (0, .ref (a 3))]) hx hb d_RE_addPower_50 hl (by decide) rfl (fun ls hl => ?_)
        refine lv_aload_n hx hb d_RE_addPower_52 rfl (lv_at hl 2 rfl) ?_
        refine gf_RE_9 hx hb htb hown hK hP d_RE_addPower_53 ?_
        refine lv_iload hx hb d_RE_addPower_56 (lv_at hl 1 rfl) ?_
        refine lv_lload hx hb d_RE_addPower_58 (lv_at hl 0 rfl) ?_
        refine lv_l2i hx hb d_RE_addPower_60 rfl ?_
        refine lv_ldc (v := 2147483647) hx hb hown (htb _ mw_29) d_RE_addPower_61 ?_
        refine lv_iand hx hb d_RE_addPower_63 ?_
        refine rn_ast_exl hx hb hK hP hS hi (nk_in hk25 rfl (by decide) c29) d_RE_addPower_64 (fun H locs hP hS => ?_)
        obtain ⟨t64, e64, hP⟩ := nm_st hP
        replace hF := (nm_eq e64).symm.trans hF
        refine lv_lload hx hb d_RE_addPower_65 (lv_at hl 0 rfl) ?_
        refine lv_bipush (v := 31) hx hb d_RE_addPower_67 (by decide) ?_
        refine lv_lshr hx hb d_RE_addPower_69 rfl ?_
        refine lv_topl (fun x70 e70 => ?_)
        replace hF := (nm_eq e70.symm).symm.trans hF
        refine lv_lstore (lv' := [(4, .long x70), (6, .int (nI k25)), (0, .ref (a 3))]) hx hb d_RE_addPower_70 hl (by decide) rfl (fun ls hl => ?_)
        obtain ⟨x72, e72⟩ := nm_ex ((nI k25) + (1 : Int32))
        replace hF := (nm_eq e72).symm.trans hF
        refine lv_iinc (v := x72) (lv' := [(6, .int x72), (4, .long x70), (0, .ref (a 3))]) hx hb d_RE_addPower_72 hl (k := 1) rfl e72 (by decide) rfl (fun ls hl => ?_)
        refine lv_goto hx hb d_RE_addPower_75 (tgt := 25) (by decide) ?_
        have hk9 : k25 < 33 := nk_lt hk25 rfl (by decide) c29
        exact ih25 x72 x70 t64 _ _ _ ⟨lv_sub hl [0, 1, 2] rfl, ⟨k25 + 1, e72.symm.trans (nI_1 k25), by omega, by omega⟩, hF, hP, hS⟩
theorem d_RE_roundAt_0 : decode prog_2_method_14_code 0 = .ok (.aload_n 0, 1) := by decide +kernel
theorem d_RE_roundAt_1 : decode prog_2_method_14_code 1 = .ok (.iload_n 1, 1) := by decide +kernel
theorem d_RE_roundAt_2 : decode prog_2_method_14_code 2 = .ok (.invokevirtual 54, 3) := by decide +kernel
theorem d_RE_roundAt_5 : decode prog_2_method_14_code 5 = .ok (.ifCond .ne 5, 3) := by decide +kernel
theorem d_RE_roundAt_8 : decode prog_2_method_14_code 8 = .ok (.iconst 0, 1) := by decide +kernel
theorem d_RE_roundAt_9 : decode prog_2_method_14_code 9 = .ok (.ireturn, 1) := by decide +kernel
theorem d_RE_roundAt_10 : decode prog_2_method_14_code 10 = .ok (.iload_n 2, 1) := by decide +kernel
theorem d_RE_roundAt_11 : decode prog_2_method_14_code 11 = .ok (.iconst 4, 1) := by decide +kernel
theorem d_RE_roundAt_12 : decode prog_2_method_14_code 12 = .ok (.if_icmp .ne 7, 3) := by decide +kernel
theorem d_RE_roundAt_15 : decode prog_2_method_14_code 15 = .ok (.iconst 1, 1) := by decide +kernel
theorem d_RE_roundAt_16 : decode prog_2_method_14_code 16 = .ok (.goto 4, 3) := by decide +kernel
theorem d_RE_roundAt_19 : decode prog_2_method_14_code 19 = .ok (.iconst 0, 1) := by decide +kernel
theorem d_RE_roundAt_20 : decode prog_2_method_14_code 20 = .ok (.istore 4, 2) := by decide +kernel
theorem d_RE_roundAt_22 : decode prog_2_method_14_code 22 = .ok (.iload_n 2, 1) := by decide +kernel
theorem d_RE_roundAt_23 : decode prog_2_method_14_code 23 = .ok (.ifCond .ne 35, 3) := by decide +kernel
theorem d_RE_roundAt_26 : decode prog_2_method_14_code 26 = .ok (.aload_n 0, 1) := by decide +kernel
theorem d_RE_roundAt_27 : decode prog_2_method_14_code 27 = .ok (.iload_n 1, 1) := by decide +kernel
theorem d_RE_roundAt_28 : decode prog_2_method_14_code 28 = .ok (.iconst 1, 1) := by decide +kernel
theorem d_RE_roundAt_29 : decode prog_2_method_14_code 29 = .ok (.isub, 1) := by decide +kernel
theorem d_RE_roundAt_30 : decode prog_2_method_14_code 30 = .ok (.invokevirtual 61, 3) := by decide +kernel
theorem d_RE_roundAt_33 : decode prog_2_method_14_code 33 = .ok (.iconst 1, 1) := by decide +kernel
theorem d_RE_roundAt_34 : decode prog_2_method_14_code 34 = .ok (.if_icmp .ne 21, 3) := by decide +kernel
theorem d_RE_roundAt_37 : decode prog_2_method_14_code 37 = .ok (.iload_n 3, 1) := by decide +kernel
theorem d_RE_roundAt_38 : decode prog_2_method_14_code 38 = .ok (.ifCond .ne 13, 3) := by decide +kernel
theorem d_RE_roundAt_41 : decode prog_2_method_14_code 41 = .ok (.aload_n 0, 1) := by decide +kernel
theorem d_RE_roundAt_42 : decode prog_2_method_14_code 42 = .ok (.iload_n 1, 1) := by decide +kernel
theorem d_RE_roundAt_43 : decode prog_2_method_14_code 43 = .ok (.iconst 1, 1) := by decide +kernel
theorem d_RE_roundAt_44 : decode prog_2_method_14_code 44 = .ok (.isub, 1) := by decide +kernel
theorem d_RE_roundAt_45 : decode prog_2_method_14_code 45 = .ok (.invokevirtual 54, 3) := by decide +kernel
theorem d_RE_roundAt_48 : decode prog_2_method_14_code 48 = .ok (.ifCond .eq 7, 3) := by decide +kernel
theorem d_RE_roundAt_51 : decode prog_2_method_14_code 51 = .ok (.iconst 1, 1) := by decide +kernel
theorem d_RE_roundAt_52 : decode prog_2_method_14_code 52 = .ok (.goto 4, 3) := by decide +kernel
theorem d_RE_roundAt_55 : decode prog_2_method_14_code 55 = .ok (.iconst 0, 1) := by decide +kernel
theorem d_RE_roundAt_56 : decode prog_2_method_14_code 56 = .ok (.istore 4, 2) := by decide +kernel
theorem d_RE_roundAt_58 : decode prog_2_method_14_code 58 = .ok (.aload_n 0, 1) := by decide +kernel
theorem d_RE_roundAt_59 : decode prog_2_method_14_code 59 = .ok (.iload_n 1, 1) := by decide +kernel
theorem d_RE_roundAt_60 : decode prog_2_method_14_code 60 = .ok (.invokevirtual 64, 3) := by decide +kernel
theorem d_RE_roundAt_63 : decode prog_2_method_14_code 63 = .ok (.iload 4, 2) := by decide +kernel
theorem d_RE_roundAt_65 : decode prog_2_method_14_code 65 = .ok (.ifCond .ne 5, 3) := by decide +kernel
theorem d_RE_roundAt_68 : decode prog_2_method_14_code 68 = .ok (.iconst (-1), 1) := by decide +kernel
theorem d_RE_roundAt_69 : decode prog_2_method_14_code 69 = .ok (.ireturn, 1) := by decide +kernel
theorem d_RE_roundAt_70 : decode prog_2_method_14_code 70 = .ok (.aload_n 0, 1) := by decide +kernel
theorem d_RE_roundAt_71 : decode prog_2_method_14_code 71 = .ok (.iload_n 1, 1) := by decide +kernel
theorem d_RE_roundAt_72 : decode prog_2_method_14_code 72 = .ok (.iconst 1, 1) := by decide +kernel
theorem d_RE_roundAt_73 : decode prog_2_method_14_code 73 = .ok (.invokevirtual 68, 3) := by decide +kernel
theorem d_RE_roundAt_76 : decode prog_2_method_14_code 76 = .ok (.iconst 1, 1) := by decide +kernel
theorem d_RE_roundAt_77 : decode prog_2_method_14_code 77 = .ok (.ireturn, 1) := by decide +kernel
def RE_roundAt_58 (L1 : Int32) (L4 : Int32) (st : rn_S) : Int32 × rn_S := nm (RE_cutBelow st L1) (fun t60 => (if L4 = 0 then ((-1 : Int32), t60) else nm (RE_addPower t60 L1 (1 : Int32)) (fun t73 => ((1 : Int32), t73))))
def RE_roundAt_56 (L1 : Int32) (s0 : Int32) (st : rn_S) : Int32 × rn_S := RE_roundAt_58 L1 s0 st
def RE_roundAt_55 (L1 : Int32) (st : rn_S) : Int32 × rn_S := RE_roundAt_56 L1 (0 : Int32) st
def RE_roundAt_51 (L1 : Int32) (st : rn_S) : Int32 × rn_S := RE_roundAt_56 L1 (1 : Int32) st
def RE_roundAt_20 (L1 : Int32) (L2 : Int32) (L3 : Int32) (s0 : Int32) (st : rn_S) : Int32 × rn_S := (if L2 = 0 then nm (RE_bit st (L1 - (1 : Int32))) (fun r30 => (if r30 = (1 : Int32) then (if L3 = 0 then nm (RE_hasBelow st (L1 - (1 : Int32))) (fun r45 => (if r45 = 0 then RE_roundAt_55 L1 st else RE_roundAt_51 L1 st)) else RE_roundAt_51 L1 st) else RE_roundAt_55 L1 st)) else RE_roundAt_58 L1 s0 st)
def RE_roundAt (st : rn_S) (p0 : Int32) (p1 : Int32) (p2 : Int32) : Int32 × rn_S := nm (RE_hasBelow st p0) (fun r2 => (if r2 = 0 then ((0 : Int32), st) else (if p1 = (4 : Int32) then RE_roundAt_20 p0 p1 p2 (1 : Int32) st else RE_roundAt_20 p0 p1 p2 (0 : Int32) st)))
set_option maxHeartbeats 4000000 in
set_option maxRecDepth 100000 in
theorem c_RE_roundAt (l : Launch) {D : va_G} (a : Nat → Nat) (ci co : ClassId) (hi : rn_inj a) (st : rn_S) (p0 : Int32) (p1 : Int32) (p2 : Int32) (r0 : Int32) (t0 : rn_S) (hF : RE_roundAt st p0 p1 p2 = (r0, t0)) : ct_i l ⟨"RoundedNumbers$Exact", "roundAt", "(IIZ)I"⟩ (.code ⟨"RoundedNumbers$Exact", "roundAt", "(IIZ)I"⟩ prog_2_method_14_code 5 (some .int) :: ct_T) { frames := 2, cells := 0, slots := 0, locals := 47 } D vwCl (rn_T ci co) (rn_g a ci co) (rn_X a) [.ref (a 3), .int p0, .int p1, .int p2] st r0 t0 := by
  refine ct_i.mk (cc := prog_2_method_14_code) (maxL := 5) (by decide) rfl (Nat.le_of_ble_eq_true rfl) ?_
  intro p e s m below meth c hx hb hr hml hown hts hlk hK hN hP hS ls hl
  have hown : s.vm.findClass "RoundedNumbers$Exact" = some m.cls := hown
  have hl : lv_has ls 5 [(0, .ref (a 3)), (1, .int p0), (2, .int p1), (3, .int p2)] := hl
  have htb := fun w h => hts w (List.mem_cons_of_mem _ h)
  unfold RE_roundAt at hF
  refine lv_aload_n hx hb d_RE_roundAt_0 rfl (lv_at hl 0 rfl) ?_
  refine lv_iload_n hx hb d_RE_roundAt_1 rfl (lv_at hl 1 rfl) ?_
  obtain ⟨r2, e2⟩ := nm_ex (RE_hasBelow st p0)
  replace hF := (nm_eq e2).symm.trans hF
  refine ct_calli (va_runV (As := [.int p0]) (rest := []) ⟨hx, hb, hml, hown, hts⟩ (c_RE_hasBelow l (D := D) a ci co hi st p0 _ e2 _) (kc_RE_54 hts ⟨by decide, by decide⟩) ⟨ct_blind, rn_rc2 hK hP, ct_ok hP hK hN⟩ rfl rfl hl.1 rfl (lv_room (Nat.le_of_ble_eq_true rfl)) d_RE_roundAt_2 ⟨Nat.zero_le _, Nat.zero_le _⟩) hS (fun H locs hP hS => ?_)
  refine lv_if_ne hx hb d_RE_roundAt_5 (tgt := 10) (by decide) (fun c5 => ?_) (fun c5 => ?_)
  · replace hF := (if_neg c5).symm.trans hF
    refine lv_iload_n hx hb d_RE_roundAt_10 rfl (lv_at hl 2 rfl) ?_
    refine lv_iconst (v := 4) hx hb d_RE_roundAt_11 (by decide) ?_
    refine ct_cut1 (fun (j20s0 : Int32) ls H locs => lv_has ls 5 [(0, .ref (a 3)), (1, .int p0), (2, .int p1), (3, .int p2)] ∧ RE_roundAt_20 p0 p1 p2 j20s0 st = (r0, t0) ∧ va_P D vwCl (rn_g a ci co st) H ∧ va_S (ct_F (rn_X a) s.heap.size) s.heap H locs) 20 (fun j20s0 => [.int j20s0]) ?_ ?_
    · intro j20s0 ls H locs hq
      obtain ⟨hl, hF, hP, hS⟩ := hq
      unfold RE_roundAt_20 at hF
      refine lv_istore (lv' := [(4, .int j20s0), (0, .ref (a 3)), (1, .int p0), (2, .int p1), (3, .int p2)]) hx hb d_RE_roundAt_20 hl (by decide) rfl (fun ls hl => ?_)
      refine lv_iload_n hx hb d_RE_roundAt_22 rfl (lv_at hl 3 rfl) ?_
      refine ct_cut1 (fun (j58L4 : Int32) ls H locs => lv_has ls 5 [(4, .int j58L4), (0, .ref (a 3)), (1, .int p0)] ∧ RE_roundAt_58 p0 j58L4 st = (r0, t0) ∧ va_P D vwCl (rn_g a ci co st) H ∧ va_S (ct_F (rn_X a) s.heap.size) s.heap H locs) 58 (fun j58L4 => []) ?_ ?_
      · intro j58L4 ls H locs hq
        obtain ⟨hl, hF, hP, hS⟩ := hq
        unfold RE_roundAt_58 at hF
        refine lv_aload_n hx hb d_RE_roundAt_58 rfl (lv_at hl 1 rfl) ?_
        refine lv_iload_n hx hb d_RE_roundAt_59 rfl (lv_at hl 2 rfl) ?_
        obtain ⟨t60, e60⟩ := nm_ex (RE_cutBelow st p0)
        replace hF := (nm_eq e60).symm.trans hF
        refine ct_callv (va_runV (As := [.int p0]) (rest := []) ⟨hx, hb, hml, hown, hts⟩ (c_RE_cutBelow l (D := D) a ci co hi st p0 _ e60 _) (kc_RE_64 hts ⟨by decide, by decide⟩) ⟨ct_blind, rn_rc2 hK hP, ct_ok hP hK hN⟩ rfl rfl hl.1 rfl (lv_room (Nat.le_of_ble_eq_true rfl)) d_RE_roundAt_60 ⟨Nat.zero_le _, Nat.zero_le _⟩) hS (fun H locs hP hS => ?_)
        refine lv_iload hx hb d_RE_roundAt_63 (lv_at hl 0 rfl) ?_
        refine lv_if_ne hx hb d_RE_roundAt_65 (tgt := 70) (by decide) (fun c65 => ?_) (fun c65 => ?_)
        · replace hF := (if_neg c65).symm.trans hF
          refine lv_aload_n hx hb d_RE_roundAt_70 rfl (lv_at hl 1 rfl) ?_
          refine lv_iload_n hx hb d_RE_roundAt_71 rfl (lv_at hl 2 rfl) ?_
          refine lv_iconst (v := 1) hx hb d_RE_roundAt_72 (by decide) ?_
          obtain ⟨t73, e73⟩ := nm_ex (RE_addPower t60 p0 (1 : Int32))
          replace hF := (nm_eq e73).symm.trans hF
          refine ct_callv (va_runV (As := [.int p0, .int (1 : Int32)]) (rest := []) ⟨hx, hb, hml, hown, hts⟩ (c_RE_addPower l (D := D) a ci co hi t60 p0 (1 : Int32) _ e73 _) (kc_RE_68 hts ⟨by decide, by decide⟩) ⟨ct_blind, rn_rc2 hK hP, ct_ok hP hK hN⟩ rfl rfl hl.1 rfl (lv_room (Nat.le_of_ble_eq_true rfl)) d_RE_roundAt_73 ⟨Nat.zero_le _, Nat.zero_le _⟩) hS (fun H locs hP hS => ?_)
          refine lv_iconst (v := 1) hx hb d_RE_roundAt_76 (by decide) ?_
          obtain ⟨rfl, rfl⟩ := Prod.mk.inj hF
          exact ct_iret hx hb hr hlk hP hS d_RE_roundAt_77
        · replace hF := (if_pos c65).symm.trans hF
          refine lv_iconst (v := -1) hx hb d_RE_roundAt_68 (by decide) ?_
          obtain ⟨rfl, rfl⟩ := Prod.mk.inj hF
          exact ct_iret hx hb hr hlk hP hS d_RE_roundAt_69
      · intro kj58
        refine lv_if_ne hx hb d_RE_roundAt_23 (tgt := 58) (by decide) (fun c23 => ?_) (fun c23 => ?_)
        · replace hF := (if_neg c23).symm.trans hF
          exact kj58 j20s0 _ _ _ ⟨lv_sub hl [0, 1, 2] rfl, hF, hP, hS⟩
        · replace hF := (if_pos c23).symm.trans hF
          refine lv_aload_n hx hb d_RE_roundAt_26 rfl (lv_at hl 1 rfl) ?_
          refine lv_iload_n hx hb d_RE_roundAt_27 rfl (lv_at hl 2 rfl) ?_
          refine lv_iconst (v := 1) hx hb d_RE_roundAt_28 (by decide) ?_
          refine lv_isub hx hb d_RE_roundAt_29 ?_
          obtain ⟨r30, e30⟩ := nm_ex (RE_bit st (p0 - (1 : Int32)))
          replace hF := (nm_eq e30).symm.trans hF
          refine ct_calli (va_runV (As := [.int (p0 - (1 : Int32))]) (rest := []) ⟨hx, hb, hml, hown, hts⟩ (c_RE_bit l (D := D) a ci co hi st (p0 - (1 : Int32)) _ e30 _) (kc_RE_61 hts ⟨by decide, by decide⟩) ⟨ct_blind, rn_rc2 hK hP, ct_ok hP hK hN⟩ rfl rfl hl.1 rfl (lv_room (Nat.le_of_ble_eq_true rfl)) d_RE_roundAt_30 ⟨Nat.zero_le _, Nat.zero_le _⟩) hS (fun H locs hP hS => ?_)
          refine lv_iconst (v := 1) hx hb d_RE_roundAt_33 (by decide) ?_
          refine ct_cut1 (fun (j56s0 : Int32) ls H locs => lv_has ls 5 [(0, .ref (a 3)), (1, .int p0)] ∧ RE_roundAt_56 p0 j56s0 st = (r0, t0) ∧ va_P D vwCl (rn_g a ci co st) H ∧ va_S (ct_F (rn_X a) s.heap.size) s.heap H locs) 56 (fun j56s0 => [.int j56s0]) ?_ ?_
          · intro j56s0 ls H locs hq
            obtain ⟨hl, hF, hP, hS⟩ := hq
            unfold RE_roundAt_56 at hF
            refine lv_istore (lv' := [(4, .int j56s0), (0, .ref (a 3)), (1, .int p0)]) hx hb d_RE_roundAt_56 hl (by decide) rfl (fun ls hl => ?_)
            exact kj58 j56s0 _ _ _ ⟨lv_sub hl [0, 1, 2] rfl, hF, hP, hS⟩
          · intro kj56
            refine ct_cut0 (fun  ls H locs => lv_has ls 5 [(0, .ref (a 3)), (1, .int p0)] ∧ RE_roundAt_55 p0 st = (r0, t0) ∧ va_P D vwCl (rn_g a ci co st) H ∧ va_S (ct_F (rn_X a) s.heap.size) s.heap H locs) 55 [] ?_ ?_
            · intro ls H locs hq
              obtain ⟨hl, hF, hP, hS⟩ := hq
              unfold RE_roundAt_55 at hF
              refine lv_iconst (v := 0) hx hb d_RE_roundAt_55 (by decide) ?_
              exact kj56 (0 : Int32) _ _ _ ⟨lv_sub hl [0, 1] rfl, hF, hP, hS⟩
            · intro kj55
              refine lv_icmp_ne hx hb d_RE_roundAt_34 (tgt := 55) (by decide) (fun c34 => ?_) (fun c34 => ?_)
              · replace hF := (if_neg c34).symm.trans hF
                exact kj55 _ _ _ ⟨lv_sub hl [1, 2] rfl, hF, hP, hS⟩
              · replace hF := (if_pos c34).symm.trans hF
                refine lv_iload_n hx hb d_RE_roundAt_37 rfl (lv_at hl 4 rfl) ?_
                refine ct_cut0 (fun  ls H locs => lv_has ls 5 [(0, .ref (a 3)), (1, .int p0)] ∧ RE_roundAt_51 p0 st = (r0, t0) ∧ va_P D vwCl (rn_g a ci co st) H ∧ va_S (ct_F (rn_X a) s.heap.size) s.heap H locs) 51 [] ?_ ?_
                · intro ls H locs hq
                  obtain ⟨hl, hF, hP, hS⟩ := hq
                  unfold RE_roundAt_51 at hF
                  refine lv_iconst (v := 1) hx hb d_RE_roundAt_51 (by decide) ?_
                  refine lv_goto hx hb d_RE_roundAt_52 (tgt := 56) (by decide) ?_
                  exact kj56 (1 : Int32) _ _ _ ⟨lv_sub hl [0, 1] rfl, hF, hP, hS⟩
                · intro kj51
                  refine lv_if_ne hx hb d_RE_roundAt_38 (tgt := 51) (by decide) (fun c38 => ?_) (fun c38 => ?_)
                  · replace hF := (if_neg c38).symm.trans hF
                    exact kj51 _ _ _ ⟨lv_sub hl [1, 2] rfl, hF, hP, hS⟩
                  · replace hF := (if_pos c38).symm.trans hF
                    refine lv_aload_n hx hb d_RE_roundAt_41 rfl (lv_at hl 1 rfl) ?_
                    refine lv_iload_n hx hb d_RE_roundAt_42 rfl (lv_at hl 2 rfl) ?_
                    refine lv_iconst (v := 1) hx hb d_RE_roundAt_43 (by decide) ?_
                    refine lv_isub hx hb d_RE_roundAt_44 ?_
                    obtain ⟨r45, e45⟩ := nm_ex (RE_hasBelow st (p0 - (1 : Int32)))
                    replace hF := (nm_eq e45).symm.trans hF
                    refine ct_calli (va_runV (As := [.int (p0 - (1 : Int32))]) (rest := []) ⟨hx, hb, hml, hown, hts⟩ (c_RE_hasBelow l (D := D) a ci co hi st (p0 - (1 : Int32)) _ e45 _) (kc_RE_54 hts ⟨by decide, by decide⟩) ⟨ct_blind, rn_rc2 hK hP, ct_ok hP hK hN⟩ rfl rfl hl.1 rfl (lv_room (Nat.le_of_ble_eq_true rfl)) d_RE_roundAt_45 ⟨Nat.zero_le _, Nat.zero_le _⟩) hS (fun H locs hP hS => ?_)
                    refine lv_if_eq hx hb d_RE_roundAt_48 (tgt := 55) (by decide) (fun c48 => ?_) (fun c48 => ?_)
                    · replace hF := (if_pos c48).symm.trans hF
                      exact kj55 _ _ _ ⟨lv_sub hl [1, 2] rfl, hF, hP, hS⟩
                    · replace hF := (if_neg c48).symm.trans hF
                      exact kj51 _ _ _ ⟨lv_sub hl [1, 2] rfl, hF, hP, hS⟩
    · intro kj20
      refine lv_icmp_ne hx hb d_RE_roundAt_12 (tgt := 19) (by decide) (fun c12 => ?_) (fun c12 => ?_)
      · replace hF := (if_neg c12).symm.trans hF
        refine lv_iconst (v := 0) hx hb d_RE_roundAt_19 (by decide) ?_
        exact kj20 (0 : Int32) _ _ _ ⟨lv_sub hl [0, 1, 2, 3] rfl, hF, hP, hS⟩
      · replace hF := (if_pos c12).symm.trans hF
        refine lv_iconst (v := 1) hx hb d_RE_roundAt_15 (by decide) ?_
        refine lv_goto hx hb d_RE_roundAt_16 (tgt := 20) (by decide) ?_
        exact kj20 (1 : Int32) _ _ _ ⟨lv_sub hl [0, 1, 2, 3] rfl, hF, hP, hS⟩
  · replace hF := (if_pos c5).symm.trans hF
    refine lv_iconst (v := 0) hx hb d_RE_roundAt_8 (by decide) ?_
    obtain ⟨rfl, rfl⟩ := Prod.mk.inj hF
    exact ct_iret hx hb hr hlk hP hS d_RE_roundAt_9
theorem d_RE_storeInto_0 : decode prog_2_method_16_code 0 = .ok (.aload_n 0, 1) := by decide +kernel
theorem d_RE_storeInto_1 : decode prog_2_method_16_code 1 = .ok (.invokevirtual 41, 3) := by decide +kernel
theorem d_RE_storeInto_4 : decode prog_2_method_16_code 4 = .ok (.iconst 1, 1) := by decide +kernel
theorem d_RE_storeInto_5 : decode prog_2_method_16_code 5 = .ok (.iadd, 1) := by decide +kernel
theorem d_RE_storeInto_6 : decode prog_2_method_16_code 6 = .ok (.bipush 93, 2) := by decide +kernel
theorem d_RE_storeInto_8 : decode prog_2_method_16_code 8 = .ok (.isub, 1) := by decide +kernel
theorem d_RE_storeInto_9 : decode prog_2_method_16_code 9 = .ok (.istore_n 3, 1) := by decide +kernel
theorem d_RE_storeInto_10 : decode prog_2_method_16_code 10 = .ok (.iload_n 3, 1) := by decide +kernel
theorem d_RE_storeInto_11 : decode prog_2_method_16_code 11 = .ok (.sipush (-589), 3) := by decide +kernel
theorem d_RE_storeInto_14 : decode prog_2_method_16_code 14 = .ok (.isub, 1) := by decide +kernel
theorem d_RE_storeInto_15 : decode prog_2_method_16_code 15 = .ok (.istore 4, 2) := by decide +kernel
theorem d_RE_storeInto_17 : decode prog_2_method_16_code 17 = .ok (.iload 4, 2) := by decide +kernel
theorem d_RE_storeInto_19 : decode prog_2_method_16_code 19 = .ok (.bipush 31, 2) := by decide +kernel
theorem d_RE_storeInto_21 : decode prog_2_method_16_code 21 = .ok (.idiv, 1) := by decide +kernel
theorem d_RE_storeInto_22 : decode prog_2_method_16_code 22 = .ok (.istore 5, 2) := by decide +kernel
theorem d_RE_storeInto_24 : decode prog_2_method_16_code 24 = .ok (.iload 4, 2) := by decide +kernel
theorem d_RE_storeInto_26 : decode prog_2_method_16_code 26 = .ok (.bipush 31, 2) := by decide +kernel
theorem d_RE_storeInto_28 : decode prog_2_method_16_code 28 = .ok (.irem, 1) := by decide +kernel
theorem d_RE_storeInto_29 : decode prog_2_method_16_code 29 = .ok (.istore 6, 2) := by decide +kernel
theorem d_RE_storeInto_31 : decode prog_2_method_16_code 31 = .ok (.iconst 0, 1) := by decide +kernel
theorem d_RE_storeInto_32 : decode prog_2_method_16_code 32 = .ok (.istore 7, 2) := by decide +kernel
theorem d_RE_storeInto_34 : decode prog_2_method_16_code 34 = .ok (.iload 7, 2) := by decide +kernel
theorem d_RE_storeInto_36 : decode prog_2_method_16_code 36 = .ok (.iconst 3, 1) := by decide +kernel
theorem d_RE_storeInto_37 : decode prog_2_method_16_code 37 = .ok (.if_icmp .ge 53, 3) := by decide +kernel
theorem d_RE_storeInto_40 : decode prog_2_method_16_code 40 = .ok (.aload_n 0, 1) := by decide +kernel
theorem d_RE_storeInto_41 : decode prog_2_method_16_code 41 = .ok (.iload 5, 2) := by decide +kernel
theorem d_RE_storeInto_43 : decode prog_2_method_16_code 43 = .ok (.iload 7, 2) := by decide +kernel
theorem d_RE_storeInto_45 : decode prog_2_method_16_code 45 = .ok (.iadd, 1) := by decide +kernel
theorem d_RE_storeInto_46 : decode prog_2_method_16_code 46 = .ok (.iconst 1, 1) := by decide +kernel
theorem d_RE_storeInto_47 : decode prog_2_method_16_code 47 = .ok (.iadd, 1) := by decide +kernel
theorem d_RE_storeInto_48 : decode prog_2_method_16_code 48 = .ok (.invokevirtual 51, 3) := by decide +kernel
theorem d_RE_storeInto_51 : decode prog_2_method_16_code 51 = .ok (.i2l, 1) := by decide +kernel
theorem d_RE_storeInto_52 : decode prog_2_method_16_code 52 = .ok (.bipush 31, 2) := by decide +kernel
theorem d_RE_storeInto_54 : decode prog_2_method_16_code 54 = .ok (.lshl, 1) := by decide +kernel
theorem d_RE_storeInto_55 : decode prog_2_method_16_code 55 = .ok (.aload_n 0, 1) := by decide +kernel
theorem d_RE_storeInto_56 : decode prog_2_method_16_code 56 = .ok (.iload 5, 2) := by decide +kernel
theorem d_RE_storeInto_58 : decode prog_2_method_16_code 58 = .ok (.iload 7, 2) := by decide +kernel
theorem d_RE_storeInto_60 : decode prog_2_method_16_code 60 = .ok (.iadd, 1) := by decide +kernel
theorem d_RE_storeInto_61 : decode prog_2_method_16_code 61 = .ok (.invokevirtual 51, 3) := by decide +kernel
theorem d_RE_storeInto_64 : decode prog_2_method_16_code 64 = .ok (.i2l, 1) := by decide +kernel
theorem d_RE_storeInto_65 : decode prog_2_method_16_code 65 = .ok (.lor, 1) := by decide +kernel
theorem d_RE_storeInto_66 : decode prog_2_method_16_code 66 = .ok (.lstore 8, 2) := by decide +kernel
theorem d_RE_storeInto_68 : decode prog_2_method_16_code 68 = .ok (.aload_n 1, 1) := by decide +kernel
theorem d_RE_storeInto_69 : decode prog_2_method_16_code 69 = .ok (.getfield 36, 3) := by decide +kernel
theorem d_RE_storeInto_72 : decode prog_2_method_16_code 72 = .ok (.iload 7, 2) := by decide +kernel
theorem d_RE_storeInto_74 : decode prog_2_method_16_code 74 = .ok (.lload 8, 2) := by decide +kernel
theorem d_RE_storeInto_76 : decode prog_2_method_16_code 76 = .ok (.iload 6, 2) := by decide +kernel
theorem d_RE_storeInto_78 : decode prog_2_method_16_code 78 = .ok (.lshr, 1) := by decide +kernel
theorem d_RE_storeInto_79 : decode prog_2_method_16_code 79 = .ok (.l2i, 1) := by decide +kernel
theorem d_RE_storeInto_80 : decode prog_2_method_16_code 80 = .ok (.ldc 37, 2) := by decide +kernel
theorem d_RE_storeInto_82 : decode prog_2_method_16_code 82 = .ok (.iand, 1) := by decide +kernel
theorem d_RE_storeInto_83 : decode prog_2_method_16_code 83 = .ok (.iastore, 1) := by decide +kernel
theorem d_RE_storeInto_84 : decode prog_2_method_16_code 84 = .ok (.iinc 7 1, 3) := by decide +kernel
theorem d_RE_storeInto_87 : decode prog_2_method_16_code 87 = .ok (.goto (-53), 3) := by decide +kernel
theorem d_RE_storeInto_90 : decode prog_2_method_16_code 90 = .ok (.aload_n 1, 1) := by decide +kernel
theorem d_RE_storeInto_91 : decode prog_2_method_16_code 91 = .ok (.iload_n 3, 1) := by decide +kernel
theorem d_RE_storeInto_92 : decode prog_2_method_16_code 92 = .ok (.putfield 27, 3) := by decide +kernel
theorem d_RE_storeInto_95 : decode prog_2_method_16_code 95 = .ok (.aload_n 1, 1) := by decide +kernel
theorem d_RE_storeInto_96 : decode prog_2_method_16_code 96 = .ok (.iconst 3, 1) := by decide +kernel
theorem d_RE_storeInto_97 : decode prog_2_method_16_code 97 = .ok (.iload_n 2, 1) := by decide +kernel
theorem d_RE_storeInto_98 : decode prog_2_method_16_code 98 = .ok (.invokevirtual 72, 3) := by decide +kernel
theorem d_RE_storeInto_101 : decode prog_2_method_16_code 101 = .ok (.return_, 1) := by decide +kernel
def RE_storeInto_34 : Nat → Nat → Int32 → Int32 → Int32 → Int32 → Int32 → rn_S → rn_S
  | 0, _, _, _, _, _, _, st => st
  | n + 1, L1, L2, L3, L5, L6, L7, st => (if (3 : Int32) ≤ L7 then nm (rn_lws st L1 L3) (fun t92 => nm (RV_become t92 L1 (3 : Int32) L2) (fun t98 => t98)) else nm (RE_limb st ((L5 + L7) + (1 : Int32))) (fun r48 => nm (RE_limb st (L5 + L7)) (fun r61 => nm ((r48.toInt64 <<< ((31 : Int32).toInt64 &&& 63)) ||| r61.toInt64) (fun x66 => nm (rn_lbs st L1 L7.toNatClampNeg ((x66 >>> (L6.toInt64 &&& 63)).toInt32 &&& (2147483647 : Int32))) (fun t83 => nm (L7 + (1 : Int32)) (fun x84 => (RE_storeInto_34 n) L1 L2 L3 L5 L6 x84 t83))))))
def RE_storeInto (st : rn_S) (v0 : Nat) (p1 : Int32) : rn_S := nm (RE_topWeight st) (fun r1 => nm ((r1 + (1 : Int32)) - (93 : Int32)) (fun x9 => nm (x9 - (-589 : Int32)) (fun x15 => nm (x15 / (31 : Int32)) (fun x22 => nm (x15 - x15 / (31 : Int32) * (31 : Int32)) (fun x29 => RE_storeInto_34 (4) v0 p1 x9 x22 x29 (0 : Int32) st)))))
set_option maxHeartbeats 4000000 in
set_option maxRecDepth 100000 in
theorem c_RE_storeInto (l : Launch) {D : va_G} (a : Nat → Nat) (ci co : ClassId) (hi : rn_inj a) (st : rn_S) (v0 : Nat) (p1 : Int32) (hv0 : v0 < 10) (t0 : rn_S) (hF : RE_storeInto st v0 p1 = t0) : ct_v l ⟨"RoundedNumbers$Exact", "storeInto", "(LRoundedNumbers$Value;I)V"⟩ (.code ⟨"RoundedNumbers$Exact", "storeInto", "(LRoundedNumbers$Value;I)V"⟩ prog_2_method_16_code 10 none :: ct_T) { frames := 2, cells := 0, slots := 0, locals := 43 } D vwCl (rn_T ci co) (rn_g a ci co) (rn_X a) [.ref (a 3), .ref (a (8 + v0)), .int p1] st t0 := by
  refine ct_v.mk (cc := prog_2_method_16_code) (maxL := 10) (by decide) rfl (Nat.le_of_ble_eq_true rfl) ?_
  intro p e s m below meth c hx hb hr hml hown hts hlk hK hN hP hS ls hl
  have hown : s.vm.findClass "RoundedNumbers$Exact" = some m.cls := hown
  have hl : lv_has ls 10 [(0, .ref (a 3)), (1, .ref (a (8 + v0))), (2, .int p1)] := hl
  have htb := fun w h => hts w (List.mem_cons_of_mem _ h)
  unfold RE_storeInto at hF
  refine lv_aload_n hx hb d_RE_storeInto_0 rfl (lv_at hl 0 rfl) ?_
  obtain ⟨r1, e1⟩ := nm_ex (RE_topWeight st)
  replace hF := (nm_eq e1).symm.trans hF
  refine ct_calli (va_runV (As := []) (rest := []) ⟨hx, hb, hml, hown, hts⟩ (c_RE_topWeight l (D := D) a ci co hi st _ e1 _) (kc_RE_41 hts ⟨by decide, by decide⟩) ⟨ct_blind, rn_rc2 hK hP, ct_ok hP hK hN⟩ rfl rfl hl.1 rfl (lv_room (Nat.le_of_ble_eq_true rfl)) d_RE_storeInto_1 ⟨Nat.zero_le _, Nat.zero_le _⟩) hS (fun H locs hP hS => ?_)
  refine lv_iconst (v := 1) hx hb d_RE_storeInto_4 (by decide) ?_
  refine lv_iadd hx hb d_RE_storeInto_5 ?_
  refine lv_bipush (v := 93) hx hb d_RE_storeInto_6 (by decide) ?_
  refine lv_isub hx hb d_RE_storeInto_8 ?_
  refine lv_topi (fun x9 e9 => ?_)
  replace hF := (nm_eq e9.symm).symm.trans hF
  refine lv_istore_n (lv' := [(3, .int x9), (0, .ref (a 3)), (1, .ref (a (8 + v0))), (2, .int p1)]) hx hb d_RE_storeInto_9 rfl hl (by decide) rfl (fun ls hl => ?_)
  refine lv_iload_n hx hb d_RE_storeInto_10 rfl (lv_at hl 0 rfl) ?_
  refine lv_sipush (v := -589) hx hb d_RE_storeInto_11 (by decide) ?_
  refine lv_isub hx hb d_RE_storeInto_14 ?_
  refine lv_topi (fun x15 e15 => ?_)
  replace hF := (nm_eq e15.symm).symm.trans hF
  refine lv_istore (lv' := [(4, .int x15), (3, .int x9), (0, .ref (a 3)), (1, .ref (a (8 + v0))), (2, .int p1)]) hx hb d_RE_storeInto_15 hl (by decide) rfl (fun ls hl => ?_)
  refine lv_iload hx hb d_RE_storeInto_17 (lv_at hl 0 rfl) ?_
  refine lv_bipush (v := 31) hx hb d_RE_storeInto_19 (by decide) ?_
  refine lv_idiv hx hb d_RE_storeInto_21 (by decide) ?_
  refine lv_topi (fun x22 e22 => ?_)
  replace hF := (nm_eq e22.symm).symm.trans hF
  refine lv_istore (lv' := [(5, .int x22), (4, .int x15), (3, .int x9), (0, .ref (a 3)), (1, .ref (a (8 + v0))), (2, .int p1)]) hx hb d_RE_storeInto_22 hl (by decide) rfl (fun ls hl => ?_)
  refine lv_iload hx hb d_RE_storeInto_24 (lv_at hl 1 rfl) ?_
  refine lv_bipush (v := 31) hx hb d_RE_storeInto_26 (by decide) ?_
  refine lv_irem hx hb d_RE_storeInto_28 (by decide) ?_
  refine lv_topi (fun x29 e29 => ?_)
  replace hF := (nm_eq e29.symm).symm.trans hF
  refine lv_istore (lv' := [(6, .int x29), (5, .int x22), (4, .int x15), (3, .int x9), (0, .ref (a 3)), (1, .ref (a (8 + v0))), (2, .int p1)]) hx hb d_RE_storeInto_29 hl (by decide) rfl (fun ls hl => ?_)
  refine lv_iconst (v := 0) hx hb d_RE_storeInto_31 (by decide) ?_
  refine lv_istore (lv' := [(7, .int (0 : Int32)), (6, .int x29), (5, .int x22), (4, .int x15), (3, .int x9), (0, .ref (a 3)), (1, .ref (a (8 + v0))), (2, .int p1)]) hx hb d_RE_storeInto_32 hl (by decide) rfl (fun ls hl => ?_)
  refine ct_loop2 (fun n (w34L7 : Int32) (w34t : rn_S) ls H locs => lv_has ls 10 [(7, .int w34L7), (6, .int x29), (5, .int x22), (3, .int x9), (0, .ref (a 3)), (1, .ref (a (8 + v0))), (2, .int p1)] ∧ (∃ k, w34L7 = nI k ∧ k < 2147483648 ∧ 3 - k < n) ∧ RE_storeInto_34 n v0 p1 x9 x22 x29 w34L7 w34t = t0 ∧ va_P D vwCl (rn_g a ci co w34t) H ∧ va_S (ct_F (rn_X a) s.heap.size) s.heap H locs) 34 ?_ ?_ (4) (0 : Int32) st ⟨lv_sub hl [0, 1, 2, 4, 5, 6, 7] rfl, ⟨0, rfl, by omega, by omega⟩, hF, hP, hS⟩
  · intro w34L7 w34t ls H locs hq
    obtain ⟨hl, hq9, hF, hP, hS⟩ := hq
    obtain ⟨k, e9, hk, hn⟩ := hq9
    exact absurd hn (Nat.not_lt_zero _)
  · intro n34 ih34 w34L7 w34t ls H locs hq
    obtain ⟨hl, hq9, hF, hP, hS⟩ := hq
    obtain ⟨k34, e9, hk34, hn34⟩ := hq9
    subst e9
    rw [RE_storeInto_34] at hF
    refine lv_iload hx hb d_RE_storeInto_34 (lv_at hl 0 rfl) ?_
    refine lv_iconst (v := 3) hx hb d_RE_storeInto_36 (by decide) ?_
    refine lv_icmp_ge hx hb d_RE_storeInto_37 (tgt := 90) (by decide) (fun c37 => ?_) (fun c37 => ?_)
    · replace hF := (if_pos c37).symm.trans hF
      refine lv_aload_n hx hb d_RE_storeInto_90 rfl (lv_at hl 5 rfl) ?_
      refine lv_iload_n hx hb d_RE_storeInto_91 rfl (lv_at hl 3 rfl) ?_
      refine pf_RE_27 hx hb htb hown hK hP hS hi (i := v0) hv0 d_RE_storeInto_92 (fun H locs hP hS => ?_)
      obtain ⟨t92, e92, hP⟩ := nm_st hP
      replace hF := (nm_eq e92).symm.trans hF
      refine lv_aload_n hx hb d_RE_storeInto_95 rfl (lv_at hl 5 rfl) ?_
      refine lv_iconst (v := 3) hx hb d_RE_storeInto_96 (by decide) ?_
      refine lv_iload_n hx hb d_RE_storeInto_97 rfl (lv_at hl 6 rfl) ?_
      obtain ⟨t98, e98⟩ := nm_ex (RV_become t92 v0 (3 : Int32) p1)
      replace hF := (nm_eq e98).symm.trans hF
      refine ct_callv (va_runV (As := [.int (3 : Int32), .int p1]) (rest := []) ⟨hx, hb, hml, hown, hts⟩ (c_RV_become l (D := D) a ci co hi t92 v0 (3 : Int32) p1 hv0 _ e98 _) (kc_RE_72 hts ⟨by decide, by decide⟩) ⟨ct_blind, rn_rc1 hK hP hv0, ct_ok hP hK hN⟩ rfl rfl hl.1 rfl (lv_room (Nat.le_of_ble_eq_true rfl)) d_RE_storeInto_98 ⟨Nat.zero_le _, Nat.zero_le _⟩) hS (fun H locs hP hS => ?_)
      subst hF
      exact ct_vret hx hb hr hlk hP hS d_RE_storeInto_101
    · replace hF := (if_neg c37).symm.trans hF
      refine lv_aload_n hx hb d_RE_storeInto_40 rfl (lv_at hl 4 rfl) ?_
      refine lv_iload hx hb d_RE_storeInto_41 (lv_at hl 2 rfl) ?_
      refine lv_iload hx hb d_RE_storeInto_43 (lv_at hl 0 rfl) ?_
      refine lv_iadd hx hb d_RE_storeInto_45 ?_
      refine lv_iconst (v := 1) hx hb d_RE_storeInto_46 (by decide) ?_
      refine lv_iadd hx hb d_RE_storeInto_47 ?_
      obtain ⟨r48, e48⟩ := nm_ex (RE_limb w34t ((x22 + (nI k34)) + (1 : Int32)))
      replace hF := (nm_eq e48).symm.trans hF
      refine ct_calli (va_runV (As := [.int ((x22 + (nI k34)) + (1 : Int32))]) (rest := []) ⟨hx, hb, hml, hown, hts⟩ (c_RE_limb l (D := D) a ci co hi w34t ((x22 + (nI k34)) + (1 : Int32)) _ e48 _) (kc_RE_51 hts ⟨by decide, by decide⟩) ⟨ct_blind, rn_rc2 hK hP, ct_ok hP hK hN⟩ rfl rfl hl.1 rfl (lv_room (Nat.le_of_ble_eq_true rfl)) d_RE_storeInto_48 ⟨Nat.zero_le _, Nat.zero_le _⟩) hS (fun H locs hP hS => ?_)
      refine lv_i2l hx hb d_RE_storeInto_51 rfl ?_
      refine lv_bipush (v := 31) hx hb d_RE_storeInto_52 (by decide) ?_
      refine lv_lshl hx hb d_RE_storeInto_54 rfl ?_
      refine lv_aload_n hx hb d_RE_storeInto_55 rfl (lv_at hl 4 rfl) ?_
      refine lv_iload hx hb d_RE_storeInto_56 (lv_at hl 2 rfl) ?_
      refine lv_iload hx hb d_RE_storeInto_58 (lv_at hl 0 rfl) ?_
      refine lv_iadd hx hb d_RE_storeInto_60 ?_
      obtain ⟨r61, e61⟩ := nm_ex (RE_limb w34t (x22 + (nI k34)))
      replace hF := (nm_eq e61).symm.trans hF
      refine ct_calli (va_runV (As := [.int (x22 + (nI k34))]) (rest := [.long (r48.toInt64 <<< ((31 : Int32).toInt64 &&& 63))]) ⟨hx, hb, hml, hown, hts⟩ (c_RE_limb l (D := D) a ci co hi w34t (x22 + (nI k34)) _ e61 _) (kc_RE_51 hts ⟨by decide, by decide⟩) ⟨ct_blind, rn_rc2 hK hP, ct_ok hP hK hN⟩ rfl rfl hl.1 rfl (lv_room (Nat.le_of_ble_eq_true rfl)) d_RE_storeInto_61 ⟨Nat.zero_le _, Nat.zero_le _⟩) hS (fun H locs hP hS => ?_)
      refine lv_i2l hx hb d_RE_storeInto_64 rfl ?_
      refine lv_lor hx hb d_RE_storeInto_65 ?_
      refine lv_topl (fun x66 e66 => ?_)
      replace hF := (nm_eq e66.symm).symm.trans hF
      refine lv_lstore (lv' := [(8, .long x66), (7, .int (nI k34)), (6, .int x29), (5, .int x22), (3, .int x9), (0, .ref (a 3)), (1, .ref (a (8 + v0))), (2, .int p1)]) hx hb d_RE_storeInto_66 hl (by decide) rfl (fun ls hl => ?_)
      refine lv_aload_n hx hb d_RE_storeInto_68 rfl (lv_at hl 6 rfl) ?_
      refine gf_RE_36 hx hb htb hown hK hP (i := v0) hv0 d_RE_storeInto_69 ?_
      refine lv_iload hx hb d_RE_storeInto_72 (lv_at hl 1 rfl) ?_
      refine lv_lload hx hb d_RE_storeInto_74 (lv_at hl 0 rfl) ?_
      refine lv_iload hx hb d_RE_storeInto_76 (lv_at hl 2 rfl) ?_
      refine lv_lshr hx hb d_RE_storeInto_78 rfl ?_
      refine lv_l2i hx hb d_RE_storeInto_79 rfl ?_
      refine lv_ldc (v := 2147483647) hx hb hown (htb _ mw_29) d_RE_storeInto_80 ?_
      refine lv_iand hx hb d_RE_storeInto_82 ?_
      refine rn_ast_limbs hx hb hK hP hS hi (i := v0) hv0 (nk_in3 hk34 c37) d_RE_storeInto_83 (fun H locs hP hS => ?_)
      obtain ⟨t83, e83, hP⟩ := nm_st hP
      replace hF := (nm_eq e83).symm.trans hF
      obtain ⟨x84, e84⟩ := nm_ex ((nI k34) + (1 : Int32))
      replace hF := (nm_eq e84).symm.trans hF
      refine lv_iinc (v := x84) (lv' := [(7, .int x84), (8, .long x66), (6, .int x29), (5, .int x22), (3, .int x9), (0, .ref (a 3)), (1, .ref (a (8 + v0))), (2, .int p1)]) hx hb d_RE_storeInto_84 hl (k := 1) rfl e84 (by decide) rfl (fun ls hl => ?_)
      refine lv_goto hx hb d_RE_storeInto_87 (tgt := 34) (by decide) ?_
      have hk9 : k34 < 3 := nk_lt hk34 rfl (by decide) c37
      exact ih34 x84 t83 _ _ _ ⟨lv_sub hl [0, 2, 3, 4, 5, 6, 7] rfl, ⟨k34 + 1, e84.symm.trans (nI_1 k34), by omega, by omega⟩, hF, hP, hS⟩
theorem d_RE_turnSign_0 : decode prog_2_method_6_code 0 = .ok (.lconst 0, 1) := by decide +kernel
theorem d_RE_turnSign_1 : decode prog_2_method_6_code 1 = .ok (.lstore_n 1, 1) := by decide +kernel
theorem d_RE_turnSign_2 : decode prog_2_method_6_code 2 = .ok (.iconst 0, 1) := by decide +kernel
theorem d_RE_turnSign_3 : decode prog_2_method_6_code 3 = .ok (.istore_n 3, 1) := by decide +kernel
theorem d_RE_turnSign_4 : decode prog_2_method_6_code 4 = .ok (.iload_n 3, 1) := by decide +kernel
theorem d_RE_turnSign_5 : decode prog_2_method_6_code 5 = .ok (.bipush 33, 2) := by decide +kernel
theorem d_RE_turnSign_7 : decode prog_2_method_6_code 7 = .ok (.if_icmp .ge 35, 3) := by decide +kernel
theorem d_RE_turnSign_10 : decode prog_2_method_6_code 10 = .ok (.lload_n 1, 1) := by decide +kernel
theorem d_RE_turnSign_11 : decode prog_2_method_6_code 11 = .ok (.aload_n 0, 1) := by decide +kernel
theorem d_RE_turnSign_12 : decode prog_2_method_6_code 12 = .ok (.getfield 9, 3) := by decide +kernel
theorem d_RE_turnSign_15 : decode prog_2_method_6_code 15 = .ok (.iload_n 3, 1) := by decide +kernel
theorem d_RE_turnSign_16 : decode prog_2_method_6_code 16 = .ok (.iaload, 1) := by decide +kernel
theorem d_RE_turnSign_17 : decode prog_2_method_6_code 17 = .ok (.i2l, 1) := by decide +kernel
theorem d_RE_turnSign_18 : decode prog_2_method_6_code 18 = .ok (.lsub, 1) := by decide +kernel
theorem d_RE_turnSign_19 : decode prog_2_method_6_code 19 = .ok (.lstore_n 1, 1) := by decide +kernel
theorem d_RE_turnSign_20 : decode prog_2_method_6_code 20 = .ok (.aload_n 0, 1) := by decide +kernel
theorem d_RE_turnSign_21 : decode prog_2_method_6_code 21 = .ok (.getfield 9, 3) := by decide +kernel
theorem d_RE_turnSign_24 : decode prog_2_method_6_code 24 = .ok (.iload_n 3, 1) := by decide +kernel
theorem d_RE_turnSign_25 : decode prog_2_method_6_code 25 = .ok (.lload_n 1, 1) := by decide +kernel
theorem d_RE_turnSign_26 : decode prog_2_method_6_code 26 = .ok (.l2i, 1) := by decide +kernel
theorem d_RE_turnSign_27 : decode prog_2_method_6_code 27 = .ok (.ldc 37, 2) := by decide +kernel
theorem d_RE_turnSign_29 : decode prog_2_method_6_code 29 = .ok (.iand, 1) := by decide +kernel
theorem d_RE_turnSign_30 : decode prog_2_method_6_code 30 = .ok (.iastore, 1) := by decide +kernel
theorem d_RE_turnSign_31 : decode prog_2_method_6_code 31 = .ok (.lload_n 1, 1) := by decide +kernel
theorem d_RE_turnSign_32 : decode prog_2_method_6_code 32 = .ok (.bipush 31, 2) := by decide +kernel
theorem d_RE_turnSign_34 : decode prog_2_method_6_code 34 = .ok (.lshr, 1) := by decide +kernel
theorem d_RE_turnSign_35 : decode prog_2_method_6_code 35 = .ok (.lstore_n 1, 1) := by decide +kernel
theorem d_RE_turnSign_36 : decode prog_2_method_6_code 36 = .ok (.iinc 3 1, 3) := by decide +kernel
theorem d_RE_turnSign_39 : decode prog_2_method_6_code 39 = .ok (.goto (-35), 3) := by decide +kernel
theorem d_RE_turnSign_42 : decode prog_2_method_6_code 42 = .ok (.return_, 1) := by decide +kernel
def RE_turnSign_4 : Nat → Int64 → Int32 → rn_S → rn_S
  | 0, _, _, st => st
  | n + 1, L1, L3, st => (if (33 : Int32) ≤ L3 then st else nm (L1 - (rn_ex st L3.toNatClampNeg).toInt64) (fun x19 => nm (rn_exs st L3.toNatClampNeg (x19.toInt32 &&& (2147483647 : Int32))) (fun t30 => nm (x19 >>> ((31 : Int32).toInt64 &&& 63)) (fun x35 => nm (L3 + (1 : Int32)) (fun x36 => (RE_turnSign_4 n) x35 x36 t30)))))
def RE_turnSign (st : rn_S) : rn_S := RE_turnSign_4 (34) (0 : Int64) (0 : Int32) st
set_option maxHeartbeats 4000000 in
set_option maxRecDepth 100000 in
theorem c_RE_turnSign (l : Launch) {D : va_G} (a : Nat → Nat) (ci co : ClassId) (hi : rn_inj a) (st : rn_S) (t0 : rn_S) (hF : RE_turnSign st = t0) : ct_v l ⟨"RoundedNumbers$Exact", "turnSign", "()V"⟩ (.code ⟨"RoundedNumbers$Exact", "turnSign", "()V"⟩ prog_2_method_6_code 4 none :: ct_T) { frames := 0, cells := 0, slots := 0, locals := 0 } D vwCl (rn_T ci co) (rn_g a ci co) (rn_X a) [.ref (a 3)] st t0 := by
  refine ct_v.mk (cc := prog_2_method_6_code) (maxL := 4) (by decide) rfl (Nat.le_of_ble_eq_true rfl) ?_
  intro p e s m below meth c hx hb hr hml hown hts hlk hK hN hP hS ls hl
  have hown : s.vm.findClass "RoundedNumbers$Exact" = some m.cls := hown
  have hl : lv_has ls 4 [(0, .ref (a 3))] := hl
  have htb := fun w h => hts w (List.mem_cons_of_mem _ h)
  unfold RE_turnSign at hF
  refine lv_lconst (v := 0) hx hb d_RE_turnSign_0 (by decide) ?_
  refine lv_lstore_n (lv' := [(1, .long (0 : Int64)), (0, .ref (a 3))]) hx hb d_RE_turnSign_1 rfl hl (by decide) rfl (fun ls hl => ?_)
  refine lv_iconst (v := 0) hx hb d_RE_turnSign_2 (by decide) ?_
  refine lv_istore_n (lv' := [(3, .int (0 : Int32)), (1, .long (0 : Int64)), (0, .ref (a 3))]) hx hb d_RE_turnSign_3 rfl hl (by decide) rfl (fun ls hl => ?_)
  refine ct_loop3 (fun n (w4L3 : Int32) (w4L1 : Int64) (w4t : rn_S) ls H locs => lv_has ls 4 [(3, .int w4L3), (1, .long w4L1), (0, .ref (a 3))] ∧ (∃ k, w4L3 = nI k ∧ k < 2147483648 ∧ 33 - k < n) ∧ RE_turnSign_4 n w4L1 w4L3 w4t = t0 ∧ va_P D vwCl (rn_g a ci co w4t) H ∧ va_S (ct_F (rn_X a) s.heap.size) s.heap H locs) 4 ?_ ?_ (34) (0 : Int32) (0 : Int64) st ⟨lv_sub hl [0, 1, 2] rfl, ⟨0, rfl, by omega, by omega⟩, hF, hP, hS⟩
  · intro w4L3 w4L1 w4t ls H locs hq
    obtain ⟨hl, hq9, hF, hP, hS⟩ := hq
    obtain ⟨k, e9, hk, hn⟩ := hq9
    exact absurd hn (Nat.not_lt_zero _)
  · intro n4 ih4 w4L3 w4L1 w4t ls H locs hq
    obtain ⟨hl, hq9, hF, hP, hS⟩ := hq
    obtain ⟨k4, e9, hk4, hn4⟩ := hq9
    subst e9
    rw [RE_turnSign_4] at hF
    refine lv_iload_n hx hb d_RE_turnSign_4 rfl (lv_at hl 0 rfl) ?_
    refine lv_bipush (v := 33) hx hb d_RE_turnSign_5 (by decide) ?_
    refine lv_icmp_ge hx hb d_RE_turnSign_7 (tgt := 42) (by decide) (fun c7 => ?_) (fun c7 => ?_)
    · replace hF := (if_pos c7).symm.trans hF
      subst hF
      exact ct_vret hx hb hr hlk hP hS d_RE_turnSign_42
    · replace hF := (if_neg c7).symm.trans hF
      refine lv_lload_n hx hb d_RE_turnSign_10 rfl (lv_at hl 1 rfl) ?_
      refine lv_aload_n hx hb d_RE_turnSign_11 rfl (lv_at hl 2 rfl) ?_
      refine gf_RE_9 hx hb htb hown hK hP d_RE_turnSign_12 ?_
      refine lv_iload_n hx hb d_RE_turnSign_15 rfl (lv_at hl 0 rfl) ?_
      refine rn_ald_exl hx hb hK hP (nk_in hk4 rfl (by decide) c7) d_RE_turnSign_16 ?_
      refine lv_i2l hx hb d_RE_turnSign_17 rfl ?_
      refine lv_lsub hx hb d_RE_turnSign_18 ?_
      refine lv_topl (fun x19 e19 => ?_)
      replace hF := (nm_eq e19.symm).symm.trans hF
      refine lv_lstore_n (lv' := [(1, .long x19), (3, .int (nI k4)), (0, .ref (a 3))]) hx hb d_RE_turnSign_19 rfl hl (by decide) rfl (fun ls hl => ?_)
      refine lv_aload_n hx hb d_RE_turnSign_20 rfl (lv_at hl 2 rfl) ?_
      refine gf_RE_9 hx hb htb hown hK hP d_RE_turnSign_21 ?_
      refine lv_iload_n hx hb d_RE_turnSign_24 rfl (lv_at hl 1 rfl) ?_
      refine lv_lload_n hx hb d_RE_turnSign_25 rfl (lv_at hl 0 rfl) ?_
      refine lv_l2i hx hb d_RE_turnSign_26 rfl ?_
      refine lv_ldc (v := 2147483647) hx hb hown (htb _ mw_29) d_RE_turnSign_27 ?_
      refine lv_iand hx hb d_RE_turnSign_29 ?_
      refine rn_ast_exl hx hb hK hP hS hi (nk_in hk4 rfl (by decide) c7) d_RE_turnSign_30 (fun H locs hP hS => ?_)
      obtain ⟨t30, e30, hP⟩ := nm_st hP
      replace hF := (nm_eq e30).symm.trans hF
      refine lv_lload_n hx hb d_RE_turnSign_31 rfl (lv_at hl 0 rfl) ?_
      refine lv_bipush (v := 31) hx hb d_RE_turnSign_32 (by decide) ?_
      refine lv_lshr hx hb d_RE_turnSign_34 rfl ?_
      refine lv_topl (fun x35 e35 => ?_)
      replace hF := (nm_eq e35.symm).symm.trans hF
      refine lv_lstore_n (lv' := [(1, .long x35), (3, .int (nI k4)), (0, .ref (a 3))]) hx hb d_RE_turnSign_35 rfl hl (by decide) rfl (fun ls hl => ?_)
      obtain ⟨x36, e36⟩ := nm_ex ((nI k4) + (1 : Int32))
      replace hF := (nm_eq e36).symm.trans hF
      refine lv_iinc (v := x36) (lv' := [(3, .int x36), (1, .long x35), (0, .ref (a 3))]) hx hb d_RE_turnSign_36 hl (k := 1) rfl e36 (by decide) rfl (fun ls hl => ?_)
      refine lv_goto hx hb d_RE_turnSign_39 (tgt := 4) (by decide) ?_
      have hk9 : k4 < 33 := nk_lt hk4 rfl (by decide) c7
      exact ih4 x36 x35 t30 _ _ _ ⟨lv_sub hl [0, 1, 2] rfl, ⟨k4 + 1, e36.symm.trans (nI_1 k4), by omega, by omega⟩, hF, hP, hS⟩
theorem d_RE_splitSign_0 : decode prog_2_method_5_code 0 = .ok (.aload_n 0, 1) := by decide +kernel
theorem d_RE_splitSign_1 : decode prog_2_method_5_code 1 = .ok (.getfield 9, 3) := by decide +kernel
theorem d_RE_splitSign_4 : decode prog_2_method_5_code 4 = .ok (.bipush 32, 2) := by decide +kernel
theorem d_RE_splitSign_6 : decode prog_2_method_5_code 6 = .ok (.iaload, 1) := by decide +kernel
theorem d_RE_splitSign_7 : decode prog_2_method_5_code 7 = .ok (.ifCond .eq 9, 3) := by decide +kernel
theorem d_RE_splitSign_10 : decode prog_2_method_5_code 10 = .ok (.aload_n 0, 1) := by decide +kernel
theorem d_RE_splitSign_11 : decode prog_2_method_5_code 11 = .ok (.invokevirtual 38, 3) := by decide +kernel
theorem d_RE_splitSign_14 : decode prog_2_method_5_code 14 = .ok (.iconst (-1), 1) := by decide +kernel
theorem d_RE_splitSign_15 : decode prog_2_method_5_code 15 = .ok (.ireturn, 1) := by decide +kernel
theorem d_RE_splitSign_16 : decode prog_2_method_5_code 16 = .ok (.aload_n 0, 1) := by decide +kernel
theorem d_RE_splitSign_17 : decode prog_2_method_5_code 17 = .ok (.invokevirtual 41, 3) := by decide +kernel
theorem d_RE_splitSign_20 : decode prog_2_method_5_code 20 = .ok (.sipush (-589), 3) := by decide +kernel
theorem d_RE_splitSign_23 : decode prog_2_method_5_code 23 = .ok (.if_icmp .ge 7, 3) := by decide +kernel
theorem d_RE_splitSign_26 : decode prog_2_method_5_code 26 = .ok (.iconst 0, 1) := by decide +kernel
theorem d_RE_splitSign_27 : decode prog_2_method_5_code 27 = .ok (.goto 4, 3) := by decide +kernel
theorem d_RE_splitSign_30 : decode prog_2_method_5_code 30 = .ok (.iconst 1, 1) := by decide +kernel
theorem d_RE_splitSign_31 : decode prog_2_method_5_code 31 = .ok (.ireturn, 1) := by decide +kernel
def RE_splitSign (st : rn_S) : Int32 × rn_S := (if (rn_ex st (32 : Int32).toNatClampNeg) = 0 then nm (RE_topWeight st) (fun r17 => (if (-589 : Int32) ≤ r17 then ((1 : Int32), st) else ((0 : Int32), st))) else nm (RE_turnSign st) (fun t11 => ((-1 : Int32), t11)))
set_option maxHeartbeats 4000000 in
set_option maxRecDepth 100000 in
theorem c_RE_splitSign (l : Launch) {D : va_G} (a : Nat → Nat) (ci co : ClassId) (hi : rn_inj a) (st : rn_S) (r0 : Int32) (t0 : rn_S) (hF : RE_splitSign st = (r0, t0)) : ct_i l ⟨"RoundedNumbers$Exact", "splitSign", "()I"⟩ (.code ⟨"RoundedNumbers$Exact", "splitSign", "()I"⟩ prog_2_method_5_code 1 (some .int) :: ct_T) { frames := 2, cells := 0, slots := 0, locals := 43 } D vwCl (rn_T ci co) (rn_g a ci co) (rn_X a) [.ref (a 3)] st r0 t0 := by
  refine ct_i.mk (cc := prog_2_method_5_code) (maxL := 1) (by decide) rfl (Nat.le_of_ble_eq_true rfl) ?_
  intro p e s m below meth c hx hb hr hml hown hts hlk hK hN hP hS ls hl
  have hown : s.vm.findClass "RoundedNumbers$Exact" = some m.cls := hown
  have hl : lv_has ls 1 [(0, .ref (a 3))] := hl
  have htb := fun w h => hts w (List.mem_cons_of_mem _ h)
  unfold RE_splitSign at hF
  refine lv_aload_n hx hb d_RE_splitSign_0 rfl (lv_at hl 0 rfl) ?_
  refine gf_RE_9 hx hb htb hown hK hP d_RE_splitSign_1 ?_
  refine lv_bipush (v := 32) hx hb d_RE_splitSign_4 (by decide) ?_
  refine rn_ald_exl hx hb hK hP (vp_in_iff.mpr (by decide)) d_RE_splitSign_6 ?_
  refine lv_if_eq hx hb d_RE_splitSign_7 (tgt := 16) (by decide) (fun c7 => ?_) (fun c7 => ?_)
  · replace hF := (if_pos c7).symm.trans hF
    refine lv_aload_n hx hb d_RE_splitSign_16 rfl (lv_at hl 0 rfl) ?_
    obtain ⟨r17, e17⟩ := nm_ex (RE_topWeight st)
    replace hF := (nm_eq e17).symm.trans hF
    refine ct_calli (va_runV (As := []) (rest := []) ⟨hx, hb, hml, hown, hts⟩ (c_RE_topWeight l (D := D) a ci co hi st _ e17 _) (kc_RE_41 hts ⟨by decide, by decide⟩) ⟨ct_blind, rn_rc2 hK hP, ct_ok hP hK hN⟩ rfl rfl hl.1 rfl (lv_room (Nat.le_of_ble_eq_true rfl)) d_RE_splitSign_17 ⟨Nat.zero_le _, Nat.zero_le _⟩) hS (fun H locs hP hS => ?_)
    refine lv_sipush (v := -589) hx hb d_RE_splitSign_20 (by decide) ?_
    refine lv_icmp_ge hx hb d_RE_splitSign_23 (tgt := 30) (by decide) (fun c23 => ?_) (fun c23 => ?_)
    · replace hF := (if_pos c23).symm.trans hF
      refine lv_iconst (v := 1) hx hb d_RE_splitSign_30 (by decide) ?_
      obtain ⟨rfl, rfl⟩ := Prod.mk.inj hF
      exact ct_iret hx hb hr hlk hP hS d_RE_splitSign_31
    · replace hF := (if_neg c23).symm.trans hF
      refine lv_iconst (v := 0) hx hb d_RE_splitSign_26 (by decide) ?_
      refine lv_goto hx hb d_RE_splitSign_27 (tgt := 31) (by decide) ?_
      obtain ⟨rfl, rfl⟩ := Prod.mk.inj hF
      exact ct_iret hx hb hr hlk hP hS d_RE_splitSign_31
  · replace hF := (if_neg c7).symm.trans hF
    refine lv_aload_n hx hb d_RE_splitSign_10 rfl (lv_at hl 0 rfl) ?_
    obtain ⟨t11, e11⟩ := nm_ex (RE_turnSign st)
    replace hF := (nm_eq e11).symm.trans hF
    refine ct_callv (va_runV (As := []) (rest := []) ⟨hx, hb, hml, hown, hts⟩ (c_RE_turnSign l (D := D) a ci co hi st _ e11 _) (kc_RE_38 hts ⟨by decide, by decide⟩) ⟨ct_blind, rn_rc2 hK hP, ct_ok hP hK hN⟩ rfl rfl hl.1 rfl (lv_room (Nat.le_of_ble_eq_true rfl)) d_RE_splitSign_11 ⟨Nat.zero_le _, Nat.zero_le _⟩) hS (fun H locs hP hS => ?_)
    refine lv_iconst (v := -1) hx hb d_RE_splitSign_14 (by decide) ?_
    obtain ⟨rfl, rfl⟩ := Prod.mk.inj hF
    exact ct_iret hx hb hr hlk hP hS d_RE_splitSign_15
theorem d_RE_wholePart_0 : decode prog_2_method_15_code 0 = .ok (.aload_n 0, 1) := by decide +kernel
theorem d_RE_wholePart_1 : decode prog_2_method_15_code 1 = .ok (.getfield 9, 3) := by decide +kernel
theorem d_RE_wholePart_4 : decode prog_2_method_15_code 4 = .ok (.bipush 19, 2) := by decide +kernel
theorem d_RE_wholePart_6 : decode prog_2_method_15_code 6 = .ok (.iaload, 1) := by decide +kernel
theorem d_RE_wholePart_7 : decode prog_2_method_15_code 7 = .ok (.i2l, 1) := by decide +kernel
theorem d_RE_wholePart_8 : decode prog_2_method_15_code 8 = .ok (.aload_n 0, 1) := by decide +kernel
theorem d_RE_wholePart_9 : decode prog_2_method_15_code 9 = .ok (.getfield 9, 3) := by decide +kernel
theorem d_RE_wholePart_12 : decode prog_2_method_15_code 12 = .ok (.bipush 20, 2) := by decide +kernel
theorem d_RE_wholePart_14 : decode prog_2_method_15_code 14 = .ok (.iaload, 1) := by decide +kernel
theorem d_RE_wholePart_15 : decode prog_2_method_15_code 15 = .ok (.i2l, 1) := by decide +kernel
theorem d_RE_wholePart_16 : decode prog_2_method_15_code 16 = .ok (.bipush 31, 2) := by decide +kernel
theorem d_RE_wholePart_18 : decode prog_2_method_15_code 18 = .ok (.lshl, 1) := by decide +kernel
theorem d_RE_wholePart_19 : decode prog_2_method_15_code 19 = .ok (.lor, 1) := by decide +kernel
theorem d_RE_wholePart_20 : decode prog_2_method_15_code 20 = .ok (.aload_n 0, 1) := by decide +kernel
theorem d_RE_wholePart_21 : decode prog_2_method_15_code 21 = .ok (.getfield 9, 3) := by decide +kernel
theorem d_RE_wholePart_24 : decode prog_2_method_15_code 24 = .ok (.bipush 21, 2) := by decide +kernel
theorem d_RE_wholePart_26 : decode prog_2_method_15_code 26 = .ok (.iaload, 1) := by decide +kernel
theorem d_RE_wholePart_27 : decode prog_2_method_15_code 27 = .ok (.i2l, 1) := by decide +kernel
theorem d_RE_wholePart_28 : decode prog_2_method_15_code 28 = .ok (.bipush 62, 2) := by decide +kernel
theorem d_RE_wholePart_30 : decode prog_2_method_15_code 30 = .ok (.lshl, 1) := by decide +kernel
theorem d_RE_wholePart_31 : decode prog_2_method_15_code 31 = .ok (.lor, 1) := by decide +kernel
theorem d_RE_wholePart_32 : decode prog_2_method_15_code 32 = .ok (.lreturn, 1) := by decide +kernel
def RE_wholePart (st : rn_S) : Int64 := (((rn_ex st (19 : Int32).toNatClampNeg).toInt64 ||| ((rn_ex st (20 : Int32).toNatClampNeg).toInt64 <<< ((31 : Int32).toInt64 &&& 63))) ||| ((rn_ex st (21 : Int32).toNatClampNeg).toInt64 <<< ((62 : Int32).toInt64 &&& 63)))
set_option maxHeartbeats 4000000 in
set_option maxRecDepth 100000 in
theorem c_RE_wholePart (l : Launch) {D : va_G} (a : Nat → Nat) (ci co : ClassId) (hi : rn_inj a) (st : rn_S) (r0 : Int64) (hF : RE_wholePart st = r0) : ct_l l ⟨"RoundedNumbers$Exact", "wholePart", "()J"⟩ (.code ⟨"RoundedNumbers$Exact", "wholePart", "()J"⟩ prog_2_method_15_code 1 (some .long) :: ct_T) { frames := 0, cells := 0, slots := 0, locals := 0 } D vwCl (rn_T ci co) (rn_g a ci co) (rn_X a) [.ref (a 3)] st r0 st := by
  refine ct_l.mk (cc := prog_2_method_15_code) (maxL := 1) (by decide) rfl (Nat.le_of_ble_eq_true rfl) ?_
  intro p e s m below meth c hx hb hr hml hown hts hlk hK hN hP hS ls hl
  have hown : s.vm.findClass "RoundedNumbers$Exact" = some m.cls := hown
  have hl : lv_has ls 1 [(0, .ref (a 3))] := hl
  have htb := fun w h => hts w (List.mem_cons_of_mem _ h)
  unfold RE_wholePart at hF
  refine lv_aload_n hx hb d_RE_wholePart_0 rfl (lv_at hl 0 rfl) ?_
  refine gf_RE_9 hx hb htb hown hK hP d_RE_wholePart_1 ?_
  refine lv_bipush (v := 19) hx hb d_RE_wholePart_4 (by decide) ?_
  refine rn_ald_exl hx hb hK hP (vp_in_iff.mpr (by decide)) d_RE_wholePart_6 ?_
  refine lv_i2l hx hb d_RE_wholePart_7 rfl ?_
  refine lv_aload_n hx hb d_RE_wholePart_8 rfl (lv_at hl 0 rfl) ?_
  refine gf_RE_9 hx hb htb hown hK hP d_RE_wholePart_9 ?_
  refine lv_bipush (v := 20) hx hb d_RE_wholePart_12 (by decide) ?_
  refine rn_ald_exl hx hb hK hP (vp_in_iff.mpr (by decide)) d_RE_wholePart_14 ?_
  refine lv_i2l hx hb d_RE_wholePart_15 rfl ?_
  refine lv_bipush (v := 31) hx hb d_RE_wholePart_16 (by decide) ?_
  refine lv_lshl hx hb d_RE_wholePart_18 rfl ?_
  refine lv_lor hx hb d_RE_wholePart_19 ?_
  refine lv_aload_n hx hb d_RE_wholePart_20 rfl (lv_at hl 0 rfl) ?_
  refine gf_RE_9 hx hb htb hown hK hP d_RE_wholePart_21 ?_
  refine lv_bipush (v := 21) hx hb d_RE_wholePart_24 (by decide) ?_
  refine rn_ald_exl hx hb hK hP (vp_in_iff.mpr (by decide)) d_RE_wholePart_26 ?_
  refine lv_i2l hx hb d_RE_wholePart_27 rfl ?_
  refine lv_bipush (v := 62) hx hb d_RE_wholePart_28 (by decide) ?_
  refine lv_lshl hx hb d_RE_wholePart_30 rfl ?_
  refine lv_lor hx hb d_RE_wholePart_31 ?_
  subst hF
  exact ct_lret hx hb hr hlk hP hS d_RE_wholePart_32
