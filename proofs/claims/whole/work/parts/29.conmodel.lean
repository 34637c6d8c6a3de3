def rm_clamp (b : Int32) : Int32 := if (1 : Int32) ≤ b then (if b ≤ (93 : Int32) then b else 93) else 1
def rm_init (v : Int32) : rm_S := fun k => if k = 1 then (fun _ => v) else fun _ => 0
theorem d_RM_init_0 : decode prog_6_method_1_code 0 = .ok (.aload_n 0, 1) := by decide +kernel
theorem d_RM_init_1 : decode prog_6_method_1_code 1 = .ok (.invokespecial 1, 3) := by decide +kernel
theorem d_RM_init_4 : decode prog_6_method_1_code 4 = .ok (.aload_n 0, 1) := by decide +kernel
theorem d_RM_init_5 : decode prog_6_method_1_code 5 = .ok (.bipush 8, 2) := by decide +kernel
theorem d_RM_init_7 : decode prog_6_method_1_code 7 = .ok (.newarray .int, 2) := by decide +kernel
theorem d_RM_init_9 : decode prog_6_method_1_code 9 = .ok (.putfield 7, 3) := by decide +kernel
theorem d_RM_init_12 : decode prog_6_method_1_code 12 = .ok (.aload_n 0, 1) := by decide +kernel
theorem d_RM_init_13 : decode prog_6_method_1_code 13 = .ok (.bipush 8, 2) := by decide +kernel
theorem d_RM_init_15 : decode prog_6_method_1_code 15 = .ok (.newarray .int, 2) := by decide +kernel
theorem d_RM_init_17 : decode prog_6_method_1_code 17 = .ok (.putfield 13, 3) := by decide +kernel
theorem d_RM_init_20 : decode prog_6_method_1_code 20 = .ok (.aload_n 0, 1) := by decide +kernel
theorem d_RM_init_21 : decode prog_6_method_1_code 21 = .ok (.bipush 8, 2) := by decide +kernel
theorem d_RM_init_23 : decode prog_6_method_1_code 23 = .ok (.newarray .int, 2) := by decide +kernel
theorem d_RM_init_25 : decode prog_6_method_1_code 25 = .ok (.putfield 16, 3) := by decide +kernel
theorem d_RM_init_28 : decode prog_6_method_1_code 28 = .ok (.aload_n 0, 1) := by decide +kernel
theorem d_RM_init_29 : decode prog_6_method_1_code 29 = .ok (.bipush 8, 2) := by decide +kernel
theorem d_RM_init_31 : decode prog_6_method_1_code 31 = .ok (.newarray .int, 2) := by decide +kernel
theorem d_RM_init_33 : decode prog_6_method_1_code 33 = .ok (.putfield 19, 3) := by decide +kernel
theorem d_RM_init_36 : decode prog_6_method_1_code 36 = .ok (.aload_n 0, 1) := by decide +kernel
theorem d_RM_init_37 : decode prog_6_method_1_code 37 = .ok (.sipush 744, 3) := by decide +kernel
theorem d_RM_init_40 : decode prog_6_method_1_code 40 = .ok (.newarray .int, 2) := by decide +kernel
theorem d_RM_init_42 : decode prog_6_method_1_code 42 = .ok (.putfield 22, 3) := by decide +kernel
theorem d_RM_init_45 : decode prog_6_method_1_code 45 = .ok (.aload_n 0, 1) := by decide +kernel
theorem d_RM_init_46 : decode prog_6_method_1_code 46 = .ok (.sipush 1024, 3) := by decide +kernel
theorem d_RM_init_49 : decode prog_6_method_1_code 49 = .ok (.newarray .int, 2) := by decide +kernel
theorem d_RM_init_51 : decode prog_6_method_1_code 51 = .ok (.putfield 25, 3) := by decide +kernel
theorem d_RM_init_54 : decode prog_6_method_1_code 54 = .ok (.aload_n 0, 1) := by decide +kernel
theorem d_RM_init_55 : decode prog_6_method_1_code 55 = .ok (.sipush 1024, 3) := by decide +kernel
theorem d_RM_init_58 : decode prog_6_method_1_code 58 = .ok (.newarray .int, 2) := by decide +kernel
theorem d_RM_init_60 : decode prog_6_method_1_code 60 = .ok (.putfield 28, 3) := by decide +kernel
theorem d_RM_init_63 : decode prog_6_method_1_code 63 = .ok (.aload_n 0, 1) := by decide +kernel
theorem d_RM_init_64 : decode prog_6_method_1_code 64 = .ok (.bipush 104, 2) := by decide +kernel
theorem d_RM_init_66 : decode prog_6_method_1_code 66 = .ok (.newarray .int, 2) := by decide +kernel
theorem d_RM_init_68 : decode prog_6_method_1_code 68 = .ok (.putfield 31, 3) := by decide +kernel
theorem d_RM_init_71 : decode prog_6_method_1_code 71 = .ok (.aload_n 0, 1) := by decide +kernel
theorem d_RM_init_72 : decode prog_6_method_1_code 72 = .ok (.bipush 104, 2) := by decide +kernel
theorem d_RM_init_74 : decode prog_6_method_1_code 74 = .ok (.newarray .int, 2) := by decide +kernel
theorem d_RM_init_76 : decode prog_6_method_1_code 76 = .ok (.putfield 34, 3) := by decide +kernel
theorem d_RM_init_79 : decode prog_6_method_1_code 79 = .ok (.aload_n 0, 1) := by decide +kernel
theorem d_RM_init_80 : decode prog_6_method_1_code 80 = .ok (.bipush 104, 2) := by decide +kernel
theorem d_RM_init_82 : decode prog_6_method_1_code 82 = .ok (.newarray .int, 2) := by decide +kernel
theorem d_RM_init_84 : decode prog_6_method_1_code 84 = .ok (.putfield 37, 3) := by decide +kernel
theorem d_RM_init_87 : decode prog_6_method_1_code 87 = .ok (.iconst 0, 1) := by decide +kernel
theorem d_RM_init_88 : decode prog_6_method_1_code 88 = .ok (.istore_n 2, 1) := by decide +kernel
theorem d_RM_init_89 : decode prog_6_method_1_code 89 = .ok (.iload_n 2, 1) := by decide +kernel
theorem d_RM_init_90 : decode prog_6_method_1_code 90 = .ok (.bipush 8, 2) := by decide +kernel
theorem d_RM_init_92 : decode prog_6_method_1_code 92 = .ok (.if_icmp .ge 36, 3) := by decide +kernel
theorem d_RM_init_95 : decode prog_6_method_1_code 95 = .ok (.aload_n 0, 1) := by decide +kernel
theorem d_RM_init_96 : decode prog_6_method_1_code 96 = .ok (.getfield 7, 3) := by decide +kernel
theorem d_RM_init_99 : decode prog_6_method_1_code 99 = .ok (.iload_n 2, 1) := by decide +kernel
theorem d_RM_init_100 : decode prog_6_method_1_code 100 = .ok (.iload_n 1, 1) := by decide +kernel
theorem d_RM_init_101 : decode prog_6_method_1_code 101 = .ok (.iconst 1, 1) := by decide +kernel
theorem d_RM_init_102 : decode prog_6_method_1_code 102 = .ok (.if_icmp .ge 7, 3) := by decide +kernel
theorem d_RM_init_105 : decode prog_6_method_1_code 105 = .ok (.iconst 1, 1) := by decide +kernel
theorem d_RM_init_106 : decode prog_6_method_1_code 106 = .ok (.goto 15, 3) := by decide +kernel
theorem d_RM_init_109 : decode prog_6_method_1_code 109 = .ok (.iload_n 1, 1) := by decide +kernel
theorem d_RM_init_110 : decode prog_6_method_1_code 110 = .ok (.bipush 93, 2) := by decide +kernel
theorem d_RM_init_112 : decode prog_6_method_1_code 112 = .ok (.if_icmp .le 8, 3) := by decide +kernel
theorem d_RM_init_115 : decode prog_6_method_1_code 115 = .ok (.bipush 93, 2) := by decide +kernel
theorem d_RM_init_117 : decode prog_6_method_1_code 117 = .ok (.goto 4, 3) := by decide +kernel
theorem d_RM_init_120 : decode prog_6_method_1_code 120 = .ok (.iload_n 1, 1) := by decide +kernel
theorem d_RM_init_121 : decode prog_6_method_1_code 121 = .ok (.iastore, 1) := by decide +kernel
theorem d_RM_init_122 : decode prog_6_method_1_code 122 = .ok (.iinc 2 1, 3) := by decide +kernel
theorem d_RM_init_125 : decode prog_6_method_1_code 125 = .ok (.goto (-36), 3) := by decide +kernel
theorem d_RM_init_128 : decode prog_6_method_1_code 128 = .ok (.return_, 1) := by decide +kernel
set_option maxHeartbeats 8000000 in
set_option maxRecDepth 100000 in
theorem c_RM_init (l : Launch) {D : va_G} (h0 sz : Nat) (p0 : Int32) : Met l ⟨"RoundedNumbersModel", "<init>", "(I)V"⟩ (.code ⟨"RoundedNumbersModel", "<init>", "(I)V"⟩ prog_6_method_1_code 3 none :: ct_T) { frames := 1, cells := 10, slots := 3136, locals := 12 } (va_Pc [.ref h0, .int p0] (fun U => U.heap.size = sz ∧ va_P D vwCl [(h0, .inr (4, [.null, .null, .null, .null, .null, .null, .null, .null, .null, .null]))] U.heap ∧ va_K D vwCl [] U ∧ va_D (fun _ => True) [(h0, .inr (4, [.null, .null, .null, .null, .null, .null, .null, .null, .null, .null]))])) (va_Qv (fun _ : (Nat → Nat) × ClassId => True) (fun u t => u.1 0 = h0 ∧ va_P D vwCl (rm_g u.1 u.2 (rm_init (rm_clamp p0))) t.heap ∧ va_K D vwCl (rm_T u.2) t ∧ va_D (va_A [(h0, .inr (4, [.null, .null, .null, .null, .null, .null, .null, .null, .null, .null]))] sz) (rm_g u.1 u.2 (rm_init (rm_clamp p0)))) (va_A [(h0, .inr (4, [.null, .null, .null, .null, .null, .null, .null, .null, .null, .null]))] sz)) 10 3136 (va_A [(h0, .inr (4, [.null, .null, .null, .null, .null, .null, .null, .null, .null, .null]))] sz) := by
  refine Met.ofW (cc := prog_6_method_1_code) (maxL := 3) (ret := none) (by decide) rfl ?_
  intro p e s m args below meth c s₁ B hml hv
  obtain ⟨rfl, hsz, hP, hK, hD0⟩ := hv
  have hx := B.exec
  have hb := B.bytes
  have hr := B.returns
  have hts := atoms_spec (ws := .code ⟨"RoundedNumbersModel", "<init>", "(I)V"⟩ prog_6_method_1_code 3 none :: ct_T) B.pre
  have htb := fun w h => hts w (List.mem_cons_of_mem _ h)
  have hown : s.vm.findClass "RoundedNumbersModel" = some m.cls := findClass_of_methodNamed B.named
  have hlk := B.notSynchronized
  have hin : meth.name = "<init>" := (name_of_methodNamed B.named B.method).1
  subst hsz
  have hD := hD0.self (sz := s.heap.size)
  generalize hAe : va_A [(h0, .inr (4, [.null, .null, .null, .null, .null, .null, .null, .null, .null, .null]))] s.heap.size = A at hD ⊢
  have hA : ∀ q : Nat, s.heap.size ≤ q → A q := fun q h => by rw [← hAe]; exact Or.inr h
  have hS : va_S A s.heap s.heap [] := va_S.rf
  have hP : va_P D vwCl [(h0, .inr (4, [.null, .null, .null, .null, .null, .null, .null, .null, .null, .null]))] s.heap := hP
  have hl := lv_entry ([.ref h0, .int p0]) (n := 3) (Nat.le_of_ble_eq_true rfl)
  rw [lg_entry_eq]
  generalize (lg_sl ([.ref h0, .int p0]) ++ List.replicate (3 - (lg_sl ([.ref h0, .int p0])).length) Slot.unset).toArray = ls at hl ⊢
  have hl : lv_has ls 3 [(0, .ref h0), (1, .int p0)] := hl
  refine lv_aload_n hx hb d_RM_init_0 rfl (lv_at hl 0 rfl) ?_
  refine W.objInit hx hb hown (htb _ mw_388) (htb _ mw_229) (htb _ mw_230) rfl (by rw [hml]; exact hl.1) rfl d_RM_init_1 (Nat.le_of_ble_eq_true rfl) (Nat.le_of_ble_eq_true rfl) ?_
  refine W.eq (g2 := F0 m 4 ls []) rfl ?_
  refine lv_aload_n hx hb d_RM_init_4 rfl (lv_at hl 0 rfl) ?_
  refine lv_bipush (v := 8) hx hb d_RM_init_5 (by decide) ?_
  refine va_newa (atype := .int) (ty := .int) (N' := 8) (a0 := (8, .inl (fun _ => 0))) hx hb (htb _ mw_231) rfl hK hP hD hS hA (fun _ => rfl) (by decide) rfl (by decide) (Nat.le_of_ble_eq_true rfl) (by decide) d_RM_init_7 (fun q7 k7 H hK hP hD hS => ?_)
  have hP : va_P D vwCl [(h0, .inr (4, [.null, .null, .null, .null, .null, .null, .null, .null, .null, .null])), (q7, .inl (k7, 8, .inl (fun _ => 0)))] H := hP
  have hD : va_D A [(h0, .inr (4, [.null, .null, .null, .null, .null, .null, .null, .null, .null, .null])), (q7, .inl (k7, 8, .inl (fun _ => 0)))] := hD
  have hK : va_K D vwCl [(k7, .int)] s := hK
  refine W.widen (k := 1) (n := 8) (by omega) (by omega) ?_
  refine va_putF (D := D) (ci := 4) (v := .ref q7) (ty := .array .int) (C := cn_RM) (T := ft_RM) (N := 10) hx hb htb ly_RM fy_RM fy_RM_ok ft_RM_n hown hK hP hD hS 0 rfl rfl 0 (by decide) (htb _ mw_259) (fun _ h9 => h9) rfl hin rfl (by decide +kernel) rfl rfl (Nat.le_of_ble_eq_true rfl) d_RM_init_9 (fun H locs hP hD hS => ?_)
  have hP : va_P D vwCl [(h0, .inr (4, [.ref q7, .null, .null, .null, .null, .null, .null, .null, .null, .null])), (q7, .inl (k7, 8, .inl (fun _ => 0)))] H := hP
  have hD : va_D A [(h0, .inr (4, [.ref q7, .null, .null, .null, .null, .null, .null, .null, .null, .null])), (q7, .inl (k7, 8, .inl (fun _ => 0)))] := hD
  refine lv_aload_n hx hb d_RM_init_12 rfl (lv_at hl 0 rfl) ?_
  refine lv_bipush (v := 8) hx hb d_RM_init_13 (by decide) ?_
  refine va_newa (atype := .int) (ty := .int) (N' := 8) (a0 := (8, .inl (fun _ => 0))) hx hb (htb _ mw_231) rfl hK hP hD hS hA (fun _ => rfl) (by decide) rfl (by decide) (Nat.le_of_ble_eq_true rfl) (by decide) d_RM_init_15 (fun q15 k15 H hK hP hD hS => ?_)
  have hP : va_P D vwCl [(h0, .inr (4, [.ref q7, .null, .null, .null, .null, .null, .null, .null, .null, .null])), (q7, .inl (k7, 8, .inl (fun _ => 0))), (q15, .inl (k15, 8, .inl (fun _ => 0)))] H := hP
  have hD : va_D A [(h0, .inr (4, [.ref q7, .null, .null, .null, .null, .null, .null, .null, .null, .null])), (q7, .inl (k7, 8, .inl (fun _ => 0))), (q15, .inl (k15, 8, .inl (fun _ => 0)))] := hD
  have hK : va_K D vwCl [(k7, .int), (k15, .int)] s := hK
  refine W.widen (k := 2) (n := 16) (by omega) (by omega) ?_
  refine va_putF (D := D) (ci := 4) (v := .ref q15) (ty := .array .int) (C := cn_RM) (T := ft_RM) (N := 10) hx hb htb ly_RM fy_RM fy_RM_ok ft_RM_n hown hK hP hD hS 0 rfl rfl 1 (by decide) (htb _ mw_260) (fun _ h9 => h9) rfl hin rfl (by decide +kernel) rfl rfl (Nat.le_of_ble_eq_true rfl) d_RM_init_17 (fun H locs hP hD hS => ?_)
  have hP : va_P D vwCl [(h0, .inr (4, [.ref q7, .ref q15, .null, .null, .null, .null, .null, .null, .null, .null])), (q7, .inl (k7, 8, .inl (fun _ => 0))), (q15, .inl (k15, 8, .inl (fun _ => 0)))] H := hP
  have hD : va_D A [(h0, .inr (4, [.ref q7, .ref q15, .null, .null, .null, .null, .null, .null, .null, .null])), (q7, .inl (k7, 8, .inl (fun _ => 0))), (q15, .inl (k15, 8, .inl (fun _ => 0)))] := hD
  refine lv_aload_n hx hb d_RM_init_20 rfl (lv_at hl 0 rfl) ?_
  refine lv_bipush (v := 8) hx hb d_RM_init_21 (by decide) ?_
  refine va_newa (atype := .int) (ty := .int) (N' := 8) (a0 := (8, .inl (fun _ => 0))) hx hb (htb _ mw_231) rfl hK hP hD hS hA (fun _ => rfl) (by decide) rfl (by decide) (Nat.le_of_ble_eq_true rfl) (by decide) d_RM_init_23 (fun q23 k23 H hK hP hD hS => ?_)
  have hP : va_P D vwCl [(h0, .inr (4, [.ref q7, .ref q15, .null, .null, .null, .null, .null, .null, .null, .null])), (q7, .inl (k7, 8, .inl (fun _ => 0))), (q15, .inl (k15, 8, .inl (fun _ => 0))), (q23, .inl (k23, 8, .inl (fun _ => 0)))] H := hP
  have hD : va_D A [(h0, .inr (4, [.ref q7, .ref q15, .null, .null, .null, .null, .null, .null, .null, .null])), (q7, .inl (k7, 8, .inl (fun _ => 0))), (q15, .inl (k15, 8, .inl (fun _ => 0))), (q23, .inl (k23, 8, .inl (fun _ => 0)))] := hD
  have hK : va_K D vwCl [(k7, .int), (k15, .int), (k23, .int)] s := hK
  refine W.widen (k := 3) (n := 24) (by omega) (by omega) ?_
  refine va_putF (D := D) (ci := 4) (v := .ref q23) (ty := .array .int) (C := cn_RM) (T := ft_RM) (N := 10) hx hb htb ly_RM fy_RM fy_RM_ok ft_RM_n hown hK hP hD hS 0 rfl rfl 2 (by decide) (htb _ mw_261) (fun _ h9 => h9) rfl hin rfl (by decide +kernel) rfl rfl (Nat.le_of_ble_eq_true rfl) d_RM_init_25 (fun H locs hP hD hS => ?_)
  have hP : va_P D vwCl [(h0, .inr (4, [.ref q7, .ref q15, .ref q23, .null, .null, .null, .null, .null, .null, .null])), (q7, .inl (k7, 8, .inl (fun _ => 0))), (q15, .inl (k15, 8, .inl (fun _ => 0))), (q23, .inl (k23, 8, .inl (fun _ => 0)))] H := hP
  have hD : va_D A [(h0, .inr (4, [.ref q7, .ref q15, .ref q23, .null, .null, .null, .null, .null, .null, .null])), (q7, .inl (k7, 8, .inl (fun _ => 0))), (q15, .inl (k15, 8, .inl (fun _ => 0))), (q23, .inl (k23, 8, .inl (fun _ => 0)))] := hD
  refine lv_aload_n hx hb d_RM_init_28 rfl (lv_at hl 0 rfl) ?_
  refine lv_bipush (v := 8) hx hb d_RM_init_29 (by decide) ?_
  refine va_newa (atype := .int) (ty := .int) (N' := 8) (a0 := (8, .inl (fun _ => 0))) hx hb (htb _ mw_231) rfl hK hP hD hS hA (fun _ => rfl) (by decide) rfl (by decide) (Nat.le_of_ble_eq_true rfl) (by decide) d_RM_init_31 (fun q31 k31 H hK hP hD hS => ?_)
  have hP : va_P D vwCl [(h0, .inr (4, [.ref q7, .ref q15, .ref q23, .null, .null, .null, .null, .null, .null, .null])), (q7, .inl (k7, 8, .inl (fun _ => 0))), (q15, .inl (k15, 8, .inl (fun _ => 0))), (q23, .inl (k23, 8, .inl (fun _ => 0))), (q31, .inl (k31, 8, .inl (fun _ => 0)))] H := hP
  have hD : va_D A [(h0, .inr (4, [.ref q7, .ref q15, .ref q23, .null, .null, .null, .null, .null, .null, .null])), (q7, .inl (k7, 8, .inl (fun _ => 0))), (q15, .inl (k15, 8, .inl (fun _ => 0))), (q23, .inl (k23, 8, .inl (fun _ => 0))), (q31, .inl (k31, 8, .inl (fun _ => 0)))] := hD
  have hK : va_K D vwCl [(k7, .int), (k15, .int), (k23, .int), (k31, .int)] s := hK
  refine W.widen (k := 4) (n := 32) (by omega) (by omega) ?_
  refine va_putF (D := D) (ci := 4) (v := .ref q31) (ty := .array .int) (C := cn_RM) (T := ft_RM) (N := 10) hx hb htb ly_RM fy_RM fy_RM_ok ft_RM_n hown hK hP hD hS 0 rfl rfl 3 (by decide) (htb _ mw_262) (fun _ h9 => h9) rfl hin rfl (by decide +kernel) rfl rfl (Nat.le_of_ble_eq_true rfl) d_RM_init_33 (fun H locs hP hD hS => ?_)
  have hP : va_P D vwCl [(h0, .inr (4, [.ref q7, .ref q15, .ref q23, .ref q31, .null, .null, .null, .null, .null, .null])), (q7, .inl (k7, 8, .inl (fun _ => 0))), (q15, .inl (k15, 8, .inl (fun _ => 0))), (q23, .inl (k23, 8, .inl (fun _ => 0))), (q31, .inl (k31, 8, .inl (fun _ => 0)))] H := hP
  have hD : va_D A [(h0, .inr (4, [.ref q7, .ref q15, .ref q23, .ref q31, .null, .null, .null, .null, .null, .null])), (q7, .inl (k7, 8, .inl (fun _ => 0))), (q15, .inl (k15, 8, .inl (fun _ => 0))), (q23, .inl (k23, 8, .inl (fun _ => 0))), (q31, .inl (k31, 8, .inl (fun _ => 0)))] := hD
  refine lv_aload_n hx hb d_RM_init_36 rfl (lv_at hl 0 rfl) ?_
  refine lv_sipush (v := 744) hx hb d_RM_init_37 (by decide) ?_
  refine va_newa (atype := .int) (ty := .int) (N' := 744) (a0 := (744, .inl (fun _ => 0))) hx hb (htb _ mw_231) rfl hK hP hD hS hA (fun _ => rfl) (by decide) rfl (by decide) (Nat.le_of_ble_eq_true rfl) (by decide) d_RM_init_40 (fun q40 k40 H hK hP hD hS => ?_)
  have hP : va_P D vwCl [(h0, .inr (4, [.ref q7, .ref q15, .ref q23, .ref q31, .null, .null, .null, .null, .null, .null])), (q7, .inl (k7, 8, .inl (fun _ => 0))), (q15, .inl (k15, 8, .inl (fun _ => 0))), (q23, .inl (k23, 8, .inl (fun _ => 0))), (q31, .inl (k31, 8, .inl (fun _ => 0))), (q40, .inl (k40, 744, .inl (fun _ => 0)))] H := hP
  have hD : va_D A [(h0, .inr (4, [.ref q7, .ref q15, .ref q23, .ref q31, .null, .null, .null, .null, .null, .null])), (q7, .inl (k7, 8, .inl (fun _ => 0))), (q15, .inl (k15, 8, .inl (fun _ => 0))), (q23, .inl (k23, 8, .inl (fun _ => 0))), (q31, .inl (k31, 8, .inl (fun _ => 0))), (q40, .inl (k40, 744, .inl (fun _ => 0)))] := hD
  have hK : va_K D vwCl [(k7, .int), (k15, .int), (k23, .int), (k31, .int), (k40, .int)] s := hK
  refine W.widen (k := 5) (n := 776) (by omega) (by omega) ?_
  refine va_putF (D := D) (ci := 4) (v := .ref q40) (ty := .array .int) (C := cn_RM) (T := ft_RM) (N := 10) hx hb htb ly_RM fy_RM fy_RM_ok ft_RM_n hown hK hP hD hS 0 rfl rfl 4 (by decide) (htb _ mw_263) (fun _ h9 => h9) rfl hin rfl (by decide +kernel) rfl rfl (Nat.le_of_ble_eq_true rfl) d_RM_init_42 (fun H locs hP hD hS => ?_)
  have hP : va_P D vwCl [(h0, .inr (4, [.ref q7, .ref q15, .ref q23, .ref q31, .ref q40, .null, .null, .null, .null, .null])), (q7, .inl (k7, 8, .inl (fun _ => 0))), (q15, .inl (k15, 8, .inl (fun _ => 0))), (q23, .inl (k23, 8, .inl (fun _ => 0))), (q31, .inl (k31, 8, .inl (fun _ => 0))), (q40, .inl (k40, 744, .inl (fun _ => 0)))] H := hP
  have hD : va_D A [(h0, .inr (4, [.ref q7, .ref q15, .ref q23, .ref q31, .ref q40, .null, .null, .null, .null, .null])), (q7, .inl (k7, 8, .inl (fun _ => 0))), (q15, .inl (k15, 8, .inl (fun _ => 0))), (q23, .inl (k23, 8, .inl (fun _ => 0))), (q31, .inl (k31, 8, .inl (fun _ => 0))), (q40, .inl (k40, 744, .inl (fun _ => 0)))] := hD
  refine lv_aload_n hx hb d_RM_init_45 rfl (lv_at hl 0 rfl) ?_
  refine lv_sipush (v := 1024) hx hb d_RM_init_46 (by decide) ?_
  refine va_newa (atype := .int) (ty := .int) (N' := 1024) (a0 := (1024, .inl (fun _ => 0))) hx hb (htb _ mw_231) rfl hK hP hD hS hA (fun _ => rfl) (by decide) rfl (by decide) (Nat.le_of_ble_eq_true rfl) (by decide) d_RM_init_49 (fun q49 k49 H hK hP hD hS => ?_)
  have hP : va_P D vwCl [(h0, .inr (4, [.ref q7, .ref q15, .ref q23, .ref q31, .ref q40, .null, .null, .null, .null, .null])), (q7, .inl (k7, 8, .inl (fun _ => 0))), (q15, .inl (k15, 8, .inl (fun _ => 0))), (q23, .inl (k23, 8, .inl (fun _ => 0))), (q31, .inl (k31, 8, .inl (fun _ => 0))), (q40, .inl (k40, 744, .inl (fun _ => 0))), (q49, .inl (k49, 1024, .inl (fun _ => 0)))] H := hP
  have hD : va_D A [(h0, .inr (4, [.ref q7, .ref q15, .ref q23, .ref q31, .ref q40, .null, .null, .null, .null, .null])), (q7, .inl (k7, 8, .inl (fun _ => 0))), (q15, .inl (k15, 8, .inl (fun _ => 0))), (q23, .inl (k23, 8, .inl (fun _ => 0))), (q31, .inl (k31, 8, .inl (fun _ => 0))), (q40, .inl (k40, 744, .inl (fun _ => 0))), (q49, .inl (k49, 1024, .inl (fun _ => 0)))] := hD
  have hK : va_K D vwCl [(k7, .int), (k15, .int), (k23, .int), (k31, .int), (k40, .int), (k49, .int)] s := hK
  refine W.widen (k := 6) (n := 1800) (by omega) (by omega) ?_
  refine va_putF (D := D) (ci := 4) (v := .ref q49) (ty := .array .int) (C := cn_RM) (T := ft_RM) (N := 10) hx hb htb ly_RM fy_RM fy_RM_ok ft_RM_n hown hK hP hD hS 0 rfl rfl 5 (by decide) (htb _ mw_264) (fun _ h9 => h9) rfl hin rfl (by decide +kernel) rfl rfl (Nat.le_of_ble_eq_true rfl) d_RM_init_51 (fun H locs hP hD hS => ?_)
  have hP : va_P D vwCl [(h0, .inr (4, [.ref q7, .ref q15, .ref q23, .ref q31, .ref q40, .ref q49, .null, .null, .null, .null])), (q7, .inl (k7, 8, .inl (fun _ => 0))), (q15, .inl (k15, 8, .inl (fun _ => 0))), (q23, .inl (k23, 8, .inl (fun _ => 0))), (q31, .inl (k31, 8, .inl (fun _ => 0))), (q40, .inl (k40, 744, .inl (fun _ => 0))), (q49, .inl (k49, 1024, .inl (fun _ => 0)))] H := hP
  have hD : va_D A [(h0, .inr (4, [.ref q7, .ref q15, .ref q23, .ref q31, .ref q40, .ref q49, .null, .null, .null, .null])), (q7, .inl (k7, 8, .inl (fun _ => 0))), (q15, .inl (k15, 8, .inl (fun _ => 0))), (q23, .inl (k23, 8, .inl (fun _ => 0))), (q31, .inl (k31, 8, .inl (fun _ => 0))), (q40, .inl (k40, 744, .inl (fun _ => 0))), (q49, .inl (k49, 1024, .inl (fun _ => 0)))] := hD
  refine lv_aload_n hx hb d_RM_init_54 rfl (lv_at hl 0 rfl) ?_
  refine lv_sipush (v := 1024) hx hb d_RM_init_55 (by decide) ?_
  refine va_newa (atype := .int) (ty := .int) (N' := 1024) (a0 := (1024, .inl (fun _ => 0))) hx hb (htb _ mw_231) rfl hK hP hD hS hA (fun _ => rfl) (by decide) rfl (by decide) (Nat.le_of_ble_eq_true rfl) (by decide) d_RM_init_58 (fun q58 k58 H hK hP hD hS => ?_)
  have hP : va_P D vwCl [(h0, .inr (4, [.ref q7, .ref q15, .ref q23, .ref q31, .ref q40, .ref q49, .null, .null, .null, .null])), (q7, .inl (k7, 8, .inl (fun _ => 0))), (q15, .inl (k15, 8, .inl (fun _ => 0))), (q23, .inl (k23, 8, .inl (fun _ => 0))), (q31, .inl (k31, 8, .inl (fun _ => 0))), (q40, .inl (k40, 744, .inl (fun _ => 0))), (q49, .inl (k49, 1024, .inl (fun _ => 0))), (q58, .inl (k58, 1024, .inl (fun _ => 0)))] H := hP
  have hD : va_D A [(h0, .inr (4, [.ref q7, .ref q15, .ref q23, .ref q31, .ref q40, .ref q49, .null, .null, .null, .null])), (q7, .inl (k7, 8, .inl (fun _ => 0))), (q15, .inl (k15, 8, .inl (fun _ => 0))), (q23, .inl (k23, 8, .inl (fun _ => 0))), (q31, .inl (k31, 8, .inl (fun _ => 0))), (q40, .inl (k40, 744, .inl (fun _ => 0))), (q49, .inl (k49, 1024, .inl (fun _ => 0))), (q58, .inl (k58, 1024, .inl (fun _ => 0)))] := hD
  have hK : va_K D vwCl [(k7, .int), (k15, .int), (k23, .int), (k31, .int), (k40, .int), (k49, .int), (k58, .int)] s := hK
  refine W.widen (k := 7) (n := 2824) (by omega) (by omega) ?_
  refine va_putF (D := D) (ci := 4) (v := .ref q58) (ty := .array .int) (C := cn_RM) (T := ft_RM) (N := 10) hx hb htb ly_RM fy_RM fy_RM_ok ft_RM_n hown hK hP hD hS 0 rfl rfl 6 (by decide) (htb _ mw_280) (fun _ h9 => h9) rfl hin rfl (by decide +kernel) rfl rfl (Nat.le_of_ble_eq_true rfl) d_RM_init_60 (fun H locs hP hD hS => ?_)
  have hP : va_P D vwCl [(h0, .inr (4, [.ref q7, .ref q15, .ref q23, .ref q31, .ref q40, .ref q49, .ref q58, .null, .null, .null])), (q7, .inl (k7, 8, .inl (fun _ => 0))), (q15, .inl (k15, 8, .inl (fun _ => 0))), (q23, .inl (k23, 8, .inl (fun _ => 0))), (q31, .inl (k31, 8, .inl (fun _ => 0))), (q40, .inl (k40, 744, .inl (fun _ => 0))), (q49, .inl (k49, 1024, .inl (fun _ => 0))), (q58, .inl (k58, 1024, .inl (fun _ => 0)))] H := hP
  have hD : va_D A [(h0, .inr (4, [.ref q7, .ref q15, .ref q23, .ref q31, .ref q40, .ref q49, .ref q58, .null, .null, .null])), (q7, .inl (k7, 8, .inl (fun _ => 0))), (q15, .inl (k15, 8, .inl (fun _ => 0))), (q23, .inl (k23, 8, .inl (fun _ => 0))), (q31, .inl (k31, 8, .inl (fun _ => 0))), (q40, .inl (k40, 744, .inl (fun _ => 0))), (q49, .inl (k49, 1024, .inl (fun _ => 0))), (q58, .inl (k58, 1024, .inl (fun _ => 0)))] := hD
  refine lv_aload_n hx hb d_RM_init_63 rfl (lv_at hl 0 rfl) ?_
  refine lv_bipush (v := 104) hx hb d_RM_init_64 (by decide) ?_
  refine va_newa (atype := .int) (ty := .int) (N' := 104) (a0 := (104, .inl (fun _ => 0))) hx hb (htb _ mw_231) rfl hK hP hD hS hA (fun _ => rfl) (by decide) rfl (by decide) (Nat.le_of_ble_eq_true rfl) (by decide) d_RM_init_66 (fun q66 k66 H hK hP hD hS => ?_)
  have hP : va_P D vwCl [(h0, .inr (4, [.ref q7, .ref q15, .ref q23, .ref q31, .ref q40, .ref q49, .ref q58, .null, .null, .null])), (q7, .inl (k7, 8, .inl (fun _ => 0))), (q15, .inl (k15, 8, .inl (fun _ => 0))), (q23, .inl (k23, 8, .inl (fun _ => 0))), (q31, .inl (k31, 8, .inl (fun _ => 0))), (q40, .inl (k40, 744, .inl (fun _ => 0))), (q49, .inl (k49, 1024, .inl (fun _ => 0))), (q58, .inl (k58, 1024, .inl (fun _ => 0))), (q66, .inl (k66, 104, .inl (fun _ => 0)))] H := hP
  have hD : va_D A [(h0, .inr (4, [.ref q7, .ref q15, .ref q23, .ref q31, .ref q40, .ref q49, .ref q58, .null, .null, .null])), (q7, .inl (k7, 8, .inl (fun _ => 0))), (q15, .inl (k15, 8, .inl (fun _ => 0))), (q23, .inl (k23, 8, .inl (fun _ => 0))), (q31, .inl (k31, 8, .inl (fun _ => 0))), (q40, .inl (k40, 744, .inl (fun _ => 0))), (q49, .inl (k49, 1024, .inl (fun _ => 0))), (q58, .inl (k58, 1024, .inl (fun _ => 0))), (q66, .inl (k66, 104, .inl (fun _ => 0)))] := hD
  have hK : va_K D vwCl [(k7, .int), (k15, .int), (k23, .int), (k31, .int), (k40, .int), (k49, .int), (k58, .int), (k66, .int)] s := hK
  refine W.widen (k := 8) (n := 2928) (by omega) (by omega) ?_
  refine va_putF (D := D) (ci := 4) (v := .ref q66) (ty := .array .int) (C := cn_RM) (T := ft_RM) (N := 10) hx hb htb ly_RM fy_RM fy_RM_ok ft_RM_n hown hK hP hD hS 0 rfl rfl 7 (by decide) (htb _ mw_340) (fun _ h9 => h9) rfl hin rfl (by decide +kernel) rfl rfl (Nat.le_of_ble_eq_true rfl) d_RM_init_68 (fun H locs hP hD hS => ?_)
  have hP : va_P D vwCl [(h0, .inr (4, [.ref q7, .ref q15, .ref q23, .ref q31, .ref q40, .ref q49, .ref q58, .ref q66, .null, .null])), (q7, .inl (k7, 8, .inl (fun _ => 0))), (q15, .inl (k15, 8, .inl (fun _ => 0))), (q23, .inl (k23, 8, .inl (fun _ => 0))), (q31, .inl (k31, 8, .inl (fun _ => 0))), (q40, .inl (k40, 744, .inl (fun _ => 0))), (q49, .inl (k49, 1024, .inl (fun _ => 0))), (q58, .inl (k58, 1024, .inl (fun _ => 0))), (q66, .inl (k66, 104, .inl (fun _ => 0)))] H := hP
  have hD : va_D A [(h0, .inr (4, [.ref q7, .ref q15, .ref q23, .ref q31, .ref q40, .ref q49, .ref q58, .ref q66, .null, .null])), (q7, .inl (k7, 8, .inl (fun _ => 0))), (q15, .inl (k15, 8, .inl (fun _ => 0))), (q23, .inl (k23, 8, .inl (fun _ => 0))), (q31, .inl (k31, 8, .inl (fun _ => 0))), (q40, .inl (k40, 744, .inl (fun _ => 0))), (q49, .inl (k49, 1024, .inl (fun _ => 0))), (q58, .inl (k58, 1024, .inl (fun _ => 0))), (q66, .inl (k66, 104, .inl (fun _ => 0)))] := hD
  refine lv_aload_n hx hb d_RM_init_71 rfl (lv_at hl 0 rfl) ?_
  refine lv_bipush (v := 104) hx hb d_RM_init_72 (by decide) ?_
  refine va_newa (atype := .int) (ty := .int) (N' := 104) (a0 := (104, .inl (fun _ => 0))) hx hb (htb _ mw_231) rfl hK hP hD hS hA (fun _ => rfl) (by decide) rfl (by decide) (Nat.le_of_ble_eq_true rfl) (by decide) d_RM_init_74 (fun q74 k74 H hK hP hD hS => ?_)
  have hP : va_P D vwCl [(h0, .inr (4, [.ref q7, .ref q15, .ref q23, .ref q31, .ref q40, .ref q49, .ref q58, .ref q66, .null, .null])), (q7, .inl (k7, 8, .inl (fun _ => 0))), (q15, .inl (k15, 8, .inl (fun _ => 0))), (q23, .inl (k23, 8, .inl (fun _ => 0))), (q31, .inl (k31, 8, .inl (fun _ => 0))), (q40, .inl (k40, 744, .inl (fun _ => 0))), (q49, .inl (k49, 1024, .inl (fun _ => 0))), (q58, .inl (k58, 1024, .inl (fun _ => 0))), (q66, .inl (k66, 104, .inl (fun _ => 0))), (q74, .inl (k74, 104, .inl (fun _ => 0)))] H := hP
  have hD : va_D A [(h0, .inr (4, [.ref q7, .ref q15, .ref q23, .ref q31, .ref q40, .ref q49, .ref q58, .ref q66, .null, .null])), (q7, .inl (k7, 8, .inl (fun _ => 0))), (q15, .inl (k15, 8, .inl (fun _ => 0))), (q23, .inl (k23, 8, .inl (fun _ => 0))), (q31, .inl (k31, 8, .inl (fun _ => 0))), (q40, .inl (k40, 744, .inl (fun _ => 0))), (q49, .inl (k49, 1024, .inl (fun _ => 0))), (q58, .inl (k58, 1024, .inl (fun _ => 0))), (q66, .inl (k66, 104, .inl (fun _ => 0))), (q74, .inl (k74, 104, .inl (fun _ => 0)))] := hD
  have hK : va_K D vwCl [(k7, .int), (k15, .int), (k23, .int), (k31, .int), (k40, .int), (k49, .int), (k58, .int), (k66, .int), (k74, .int)] s := hK
  refine W.widen (k := 9) (n := 3032) (by omega) (by omega) ?_
  refine va_putF (D := D) (ci := 4) (v := .ref q74) (ty := .array .int) (C := cn_RM) (T := ft_RM) (N := 10) hx hb htb ly_RM fy_RM fy_RM_ok ft_RM_n hown hK hP hD hS 0 rfl rfl 8 (by decide) (htb _ mw_341) (fun _ h9 => h9) rfl hin rfl (by decide +kernel) rfl rfl (Nat.le_of_ble_eq_true rfl) d_RM_init_76 (fun H locs hP hD hS => ?_)
  have hP : va_P D vwCl [(h0, .inr (4, [.ref q7, .ref q15, .ref q23, .ref q31, .ref q40, .ref q49, .ref q58, .ref q66, .ref q74, .null])), (q7, .inl (k7, 8, .inl (fun _ => 0))), (q15, .inl (k15, 8, .inl (fun _ => 0))), (q23, .inl (k23, 8, .inl (fun _ => 0))), (q31, .inl (k31, 8, .inl (fun _ => 0))), (q40, .inl (k40, 744, .inl (fun _ => 0))), (q49, .inl (k49, 1024, .inl (fun _ => 0))), (q58, .inl (k58, 1024, .inl (fun _ => 0))), (q66, .inl (k66, 104, .inl (fun _ => 0))), (q74, .inl (k74, 104, .inl (fun _ => 0)))] H := hP
  have hD : va_D A [(h0, .inr (4, [.ref q7, .ref q15, .ref q23, .ref q31, .ref q40, .ref q49, .ref q58, .ref q66, .ref q74, .null])), (q7, .inl (k7, 8, .inl (fun _ => 0))), (q15, .inl (k15, 8, .inl (fun _ => 0))), (q23, .inl (k23, 8, .inl (fun _ => 0))), (q31, .inl (k31, 8, .inl (fun _ => 0))), (q40, .inl (k40, 744, .inl (fun _ => 0))), (q49, .inl (k49, 1024, .inl (fun _ => 0))), (q58, .inl (k58, 1024, .inl (fun _ => 0))), (q66, .inl (k66, 104, .inl (fun _ => 0))), (q74, .inl (k74, 104, .inl (fun _ => 0)))] := hD
  refine lv_aload_n hx hb d_RM_init_79 rfl (lv_at hl 0 rfl) ?_
  refine lv_bipush (v := 104) hx hb d_RM_init_80 (by decide) ?_
  refine va_newa (atype := .int) (ty := .int) (N' := 104) (a0 := (104, .inl (fun _ => 0))) hx hb (htb _ mw_231) rfl hK hP hD hS hA (fun _ => rfl) (by decide) rfl (by decide) (Nat.le_of_ble_eq_true rfl) (by decide) d_RM_init_82 (fun q82 k82 H hK hP hD hS => ?_)
  have hP : va_P D vwCl [(h0, .inr (4, [.ref q7, .ref q15, .ref q23, .ref q31, .ref q40, .ref q49, .ref q58, .ref q66, .ref q74, .null])), (q7, .inl (k7, 8, .inl (fun _ => 0))), (q15, .inl (k15, 8, .inl (fun _ => 0))), (q23, .inl (k23, 8, .inl (fun _ => 0))), (q31, .inl (k31, 8, .inl (fun _ => 0))), (q40, .inl (k40, 744, .inl (fun _ => 0))), (q49, .inl (k49, 1024, .inl (fun _ => 0))), (q58, .inl (k58, 1024, .inl (fun _ => 0))), (q66, .inl (k66, 104, .inl (fun _ => 0))), (q74, .inl (k74, 104, .inl (fun _ => 0))), (q82, .inl (k82, 104, .inl (fun _ => 0)))] H := hP
  have hD : va_D A [(h0, .inr (4, [.ref q7, .ref q15, .ref q23, .ref q31, .ref q40, .ref q49, .ref q58, .ref q66, .ref q74, .null])), (q7, .inl (k7, 8, .inl (fun _ => 0))), (q15, .inl (k15, 8, .inl (fun _ => 0))), (q23, .inl (k23, 8, .inl (fun _ => 0))), (q31, .inl (k31, 8, .inl (fun _ => 0))), (q40, .inl (k40, 744, .inl (fun _ => 0))), (q49, .inl (k49, 1024, .inl (fun _ => 0))), (q58, .inl (k58, 1024, .inl (fun _ => 0))), (q66, .inl (k66, 104, .inl (fun _ => 0))), (q74, .inl (k74, 104, .inl (fun _ => 0))), (q82, .inl (k82, 104, .inl (fun _ => 0)))] := hD
  have hK : va_K D vwCl [(k7, .int), (k15, .int), (k23, .int), (k31, .int), (k40, .int), (k49, .int), (k58, .int), (k66, .int), (k74, .int), (k82, .int)] s := hK
  refine W.widen (k := 10) (n := 3136) (by omega) (by omega) ?_
  refine va_putF (D := D) (ci := 4) (v := .ref q82) (ty := .array .int) (C := cn_RM) (T := ft_RM) (N := 10) hx hb htb ly_RM fy_RM fy_RM_ok ft_RM_n hown hK hP hD hS 0 rfl rfl 9 (by decide) (htb _ mw_366) (fun _ h9 => h9) rfl hin rfl (by decide +kernel) rfl rfl (Nat.le_of_ble_eq_true rfl) d_RM_init_84 (fun H locs hP hD hS => ?_)
  have hP : va_P D vwCl [(h0, .inr (4, [.ref q7, .ref q15, .ref q23, .ref q31, .ref q40, .ref q49, .ref q58, .ref q66, .ref q74, .ref q82])), (q7, .inl (k7, 8, .inl (fun _ => 0))), (q15, .inl (k15, 8, .inl (fun _ => 0))), (q23, .inl (k23, 8, .inl (fun _ => 0))), (q31, .inl (k31, 8, .inl (fun _ => 0))), (q40, .inl (k40, 744, .inl (fun _ => 0))), (q49, .inl (k49, 1024, .inl (fun _ => 0))), (q58, .inl (k58, 1024, .inl (fun _ => 0))), (q66, .inl (k66, 104, .inl (fun _ => 0))), (q74, .inl (k74, 104, .inl (fun _ => 0))), (q82, .inl (k82, 104, .inl (fun _ => 0)))] H := hP
  have hD : va_D A [(h0, .inr (4, [.ref q7, .ref q15, .ref q23, .ref q31, .ref q40, .ref q49, .ref q58, .ref q66, .ref q74, .ref q82])), (q7, .inl (k7, 8, .inl (fun _ => 0))), (q15, .inl (k15, 8, .inl (fun _ => 0))), (q23, .inl (k23, 8, .inl (fun _ => 0))), (q31, .inl (k31, 8, .inl (fun _ => 0))), (q40, .inl (k40, 744, .inl (fun _ => 0))), (q49, .inl (k49, 1024, .inl (fun _ => 0))), (q58, .inl (k58, 1024, .inl (fun _ => 0))), (q66, .inl (k66, 104, .inl (fun _ => 0))), (q74, .inl (k74, 104, .inl (fun _ => 0))), (q82, .inl (k82, 104, .inl (fun _ => 0)))] := hD
  refine lv_iconst (v := 0) hx hb d_RM_init_87 (by decide) ?_
  refine lv_istore_n (lv' := [(2, .int 0), (0, .ref h0), (1, .int p0)]) hx hb d_RM_init_88 rfl hl (by decide) rfl (fun ls hl => ?_)
  refine lv_iload_n hx hb d_RM_init_89 rfl (lv_at hl 0 rfl) ?_
  refine lv_bipush (v := 8) hx hb d_RM_init_90 (by decide) ?_
  refine lv_icmp_ge hx hb d_RM_init_92 (tgt := 128) (by decide) (fun h => absurd h (by decide)) (fun _ => ?_)
  refine lv_aload_n hx hb d_RM_init_95 rfl (lv_at hl 1 rfl) ?_
  refine va_get (D := D) (ci := 4) (v := .ref q7) (C := cn_RM) (T := ft_RM) (N := 10) hx hb htb ly_RM hown hK hP 0 rfl rfl 0 (by decide) (htb _ mw_259) (fun _ h9 => h9) rfl d_RM_init_96 ?_
  refine lv_iload_n hx hb d_RM_init_99 rfl (lv_at hl 0 rfl) ?_
  refine lv_iload_n hx hb d_RM_init_100 rfl (lv_at hl 2 rfl) ?_
  refine lv_iconst (v := 1) hx hb d_RM_init_101 (by decide) ?_
  refine lv_icmp_ge hx hb d_RM_init_102 (tgt := 109) (by decide) (fun c102 => ?_) (fun c102 => ?_)
  · refine lv_iload_n hx hb d_RM_init_109 rfl (lv_at hl 2 rfl) ?_
    refine lv_bipush (v := 93) hx hb d_RM_init_110 (by decide) ?_
    refine lv_icmp_le hx hb d_RM_init_112 (tgt := 120) (by decide) (fun c112 => ?_) (fun c112 => ?_)
    · refine lv_iload_n hx hb d_RM_init_120 rfl (lv_at hl 2 rfl) ?_
      refine va_iast hx hb hK hP hD hS 1 0 rfl rfl (i := 0) (x := p0) (vp_in_iff.mpr (by decide)) d_RM_init_121 (fun H locs hP hD hS => ?_)
      have hP : va_P D vwCl [(h0, .inr (4, [.ref q7, .ref q15, .ref q23, .ref q31, .ref q40, .ref q49, .ref q58, .ref q66, .ref q74, .ref q82])), (q7, .inl (k7, 8, .inl (upd (fun _ => 0) 0 p0))), (q15, .inl (k15, 8, .inl (fun _ => 0))), (q23, .inl (k23, 8, .inl (fun _ => 0))), (q31, .inl (k31, 8, .inl (fun _ => 0))), (q40, .inl (k40, 744, .inl (fun _ => 0))), (q49, .inl (k49, 1024, .inl (fun _ => 0))), (q58, .inl (k58, 1024, .inl (fun _ => 0))), (q66, .inl (k66, 104, .inl (fun _ => 0))), (q74, .inl (k74, 104, .inl (fun _ => 0))), (q82, .inl (k82, 104, .inl (fun _ => 0)))] H := hP
      have hD : va_D A [(h0, .inr (4, [.ref q7, .ref q15, .ref q23, .ref q31, .ref q40, .ref q49, .ref q58, .ref q66, .ref q74, .ref q82])), (q7, .inl (k7, 8, .inl (upd (fun _ => 0) 0 p0))), (q15, .inl (k15, 8, .inl (fun _ => 0))), (q23, .inl (k23, 8, .inl (fun _ => 0))), (q31, .inl (k31, 8, .inl (fun _ => 0))), (q40, .inl (k40, 744, .inl (fun _ => 0))), (q49, .inl (k49, 1024, .inl (fun _ => 0))), (q58, .inl (k58, 1024, .inl (fun _ => 0))), (q66, .inl (k66, 104, .inl (fun _ => 0))), (q74, .inl (k74, 104, .inl (fun _ => 0))), (q82, .inl (k82, 104, .inl (fun _ => 0)))] := hD
      refine lv_iinc (v := 1) (lv' := [(2, .int 1), (0, .ref h0), (1, .int p0)]) hx hb d_RM_init_122 hl (k := 0) rfl (by decide) (by decide) rfl (fun ls hl => ?_)
      refine lv_goto hx hb d_RM_init_125 (tgt := 89) (by decide) ?_
      refine lv_iload_n hx hb d_RM_init_89 rfl (lv_at hl 0 rfl) ?_
      refine lv_bipush (v := 8) hx hb d_RM_init_90 (by decide) ?_
      refine lv_icmp_ge hx hb d_RM_init_92 (tgt := 128) (by decide) (fun h => absurd h (by decide)) (fun _ => ?_)
      refine lv_aload_n hx hb d_RM_init_95 rfl (lv_at hl 1 rfl) ?_
      refine va_get (D := D) (ci := 4) (v := .ref q7) (C := cn_RM) (T := ft_RM) (N := 10) hx hb htb ly_RM hown hK hP 0 rfl rfl 0 (by decide) (htb _ mw_259) (fun _ h9 => h9) rfl d_RM_init_96 ?_
      refine lv_iload_n hx hb d_RM_init_99 rfl (lv_at hl 0 rfl) ?_
      refine lv_iload_n hx hb d_RM_init_100 rfl (lv_at hl 2 rfl) ?_
      refine lv_iconst (v := 1) hx hb d_RM_init_101 (by decide) ?_
      refine lv_icmp_ge hx hb d_RM_init_102 (tgt := 109) (by decide) (fun _ => ?_) (fun h => absurd c102 h)
      refine lv_iload_n hx hb d_RM_init_109 rfl (lv_at hl 2 rfl) ?_
      refine lv_bipush (v := 93) hx hb d_RM_init_110 (by decide) ?_
      refine lv_icmp_le hx hb d_RM_init_112 (tgt := 120) (by decide) (fun _ => ?_) (fun h => absurd c112 h)
      refine lv_iload_n hx hb d_RM_init_120 rfl (lv_at hl 2 rfl) ?_
      refine va_iast hx hb hK hP hD hS 1 0 rfl rfl (i := 1) (x := p0) (vp_in_iff.mpr (by decide)) d_RM_init_121 (fun H locs hP hD hS => ?_)
      have hP : va_P D vwCl [(h0, .inr (4, [.ref q7, .ref q15, .ref q23, .ref q31, .ref q40, .ref q49, .ref q58, .ref q66, .ref q74, .ref q82])), (q7, .inl (k7, 8, .inl (upd (upd (fun _ => 0) 0 p0) 1 p0))), (q15, .inl (k15, 8, .inl (fun _ => 0))), (q23, .inl (k23, 8, .inl (fun _ => 0))), (q31, .inl (k31, 8, .inl (fun _ => 0))), (q40, .inl (k40, 744, .inl (fun _ => 0))), (q49, .inl (k49, 1024, .inl (fun _ => 0))), (q58, .inl (k58, 1024, .inl (fun _ => 0))), (q66, .inl (k66, 104, .inl (fun _ => 0))), (q74, .inl (k74, 104, .inl (fun _ => 0))), (q82, .inl (k82, 104, .inl (fun _ => 0)))] H := hP
      have hD : va_D A [(h0, .inr (4, [.ref q7, .ref q15, .ref q23, .ref q31, .ref q40, .ref q49, .ref q58, .ref q66, .ref q74, .ref q82])), (q7, .inl (k7, 8, .inl (upd (upd (fun _ => 0) 0 p0) 1 p0))), (q15, .inl (k15, 8, .inl (fun _ => 0))), (q23, .inl (k23, 8, .inl (fun _ => 0))), (q31, .inl (k31, 8, .inl (fun _ => 0))), (q40, .inl (k40, 744, .inl (fun _ => 0))), (q49, .inl (k49, 1024, .inl (fun _ => 0))), (q58, .inl (k58, 1024, .inl (fun _ => 0))), (q66, .inl (k66, 104, .inl (fun _ => 0))), (q74, .inl (k74, 104, .inl (fun _ => 0))), (q82, .inl (k82, 104, .inl (fun _ => 0)))] := hD
      refine lv_iinc (v := 2) (lv' := [(2, .int 2), (0, .ref h0), (1, .int p0)]) hx hb d_RM_init_122 hl (k := 0) rfl (by decide) (by decide) rfl (fun ls hl => ?_)
      refine lv_goto hx hb d_RM_init_125 (tgt := 89) (by decide) ?_
      refine lv_iload_n hx hb d_RM_init_89 rfl (lv_at hl 0 rfl) ?_
      refine lv_bipush (v := 8) hx hb d_RM_init_90 (by decide) ?_
      refine lv_icmp_ge hx hb d_RM_init_92 (tgt := 128) (by decide) (fun h => absurd h (by decide)) (fun _ => ?_)
      refine lv_aload_n hx hb d_RM_init_95 rfl (lv_at hl 1 rfl) ?_
      refine va_get (D := D) (ci := 4) (v := .ref q7) (C := cn_RM) (T := ft_RM) (N := 10) hx hb htb ly_RM hown hK hP 0 rfl rfl 0 (by decide) (htb _ mw_259) (fun _ h9 => h9) rfl d_RM_init_96 ?_
      refine lv_iload_n hx hb d_RM_init_99 rfl (lv_at hl 0 rfl) ?_
      refine lv_iload_n hx hb d_RM_init_100 rfl (lv_at hl 2 rfl) ?_
      refine lv_iconst (v := 1) hx hb d_RM_init_101 (by decide) ?_
      refine lv_icmp_ge hx hb d_RM_init_102 (tgt := 109) (by decide) (fun _ => ?_) (fun h => absurd c102 h)
      refine lv_iload_n hx hb d_RM_init_109 rfl (lv_at hl 2 rfl) ?_
      refine lv_bipush (v := 93) hx hb d_RM_init_110 (by decide) ?_
      refine lv_icmp_le hx hb d_RM_init_112 (tgt := 120) (by decide) (fun _ => ?_) (fun h => absurd c112 h)
      refine lv_iload_n hx hb d_RM_init_120 rfl (lv_at hl 2 rfl) ?_
      refine va_iast hx hb hK hP hD hS 1 0 rfl rfl (i := 2) (x := p0) (vp_in_iff.mpr (by decide)) d_RM_init_121 (fun H locs hP hD hS => ?_)
      have hP : va_P D vwCl [(h0, .inr (4, [.ref q7, .ref q15, .ref q23, .ref q31, .ref q40, .ref q49, .ref q58, .ref q66, .ref q74, .ref q82])), (q7, .inl (k7, 8, .inl (upd (upd (upd (fun _ => 0) 0 p0) 1 p0) 2 p0))), (q15, .inl (k15, 8, .inl (fun _ => 0))), (q23, .inl (k23, 8, .inl (fun _ => 0))), (q31, .inl (k31, 8, .inl (fun _ => 0))), (q40, .inl (k40, 744, .inl (fun _ => 0))), (q49, .inl (k49, 1024, .inl (fun _ => 0))), (q58, .inl (k58, 1024, .inl (fun _ => 0))), (q66, .inl (k66, 104, .inl (fun _ => 0))), (q74, .inl (k74, 104, .inl (fun _ => 0))), (q82, .inl (k82, 104, .inl (fun _ => 0)))] H := hP
      have hD : va_D A [(h0, .inr (4, [.ref q7, .ref q15, .ref q23, .ref q31, .ref q40, .ref q49, .ref q58, .ref q66, .ref q74, .ref q82])), (q7, .inl (k7, 8, .inl (upd (upd (upd (fun _ => 0) 0 p0) 1 p0) 2 p0))), (q15, .inl (k15, 8, .inl (fun _ => 0))), (q23, .inl (k23, 8, .inl (fun _ => 0))), (q31, .inl (k31, 8, .inl (fun _ => 0))), (q40, .inl (k40, 744, .inl (fun _ => 0))), (q49, .inl (k49, 1024, .inl (fun _ => 0))), (q58, .inl (k58, 1024, .inl (fun _ => 0))), (q66, .inl (k66, 104, .inl (fun _ => 0))), (q74, .inl (k74, 104, .inl (fun _ => 0))), (q82, .inl (k82, 104, .inl (fun _ => 0)))] := hD
      refine lv_iinc (v := 3) (lv' := [(2, .int 3), (0, .ref h0), (1, .int p0)]) hx hb d_RM_init_122 hl (k := 0) rfl (by decide) (by decide) rfl (fun ls hl => ?_)
      refine lv_goto hx hb d_RM_init_125 (tgt := 89) (by decide) ?_
      refine lv_iload_n hx hb d_RM_init_89 rfl (lv_at hl 0 rfl) ?_
      refine lv_bipush (v := 8) hx hb d_RM_init_90 (by decide) ?_
      refine lv_icmp_ge hx hb d_RM_init_92 (tgt := 128) (by decide) (fun h => absurd h (by decide)) (fun _ => ?_)
      refine lv_aload_n hx hb d_RM_init_95 rfl (lv_at hl 1 rfl) ?_
      refine va_get (D := D) (ci := 4) (v := .ref q7) (C := cn_RM) (T := ft_RM) (N := 10) hx hb htb ly_RM hown hK hP 0 rfl rfl 0 (by decide) (htb _ mw_259) (fun _ h9 => h9) rfl d_RM_init_96 ?_
      refine lv_iload_n hx hb d_RM_init_99 rfl (lv_at hl 0 rfl) ?_
      refine lv_iload_n hx hb d_RM_init_100 rfl (lv_at hl 2 rfl) ?_
      refine lv_iconst (v := 1) hx hb d_RM_init_101 (by decide) ?_
      refine lv_icmp_ge hx hb d_RM_init_102 (tgt := 109) (by decide) (fun _ => ?_) (fun h => absurd c102 h)
      refine lv_iload_n hx hb d_RM_init_109 rfl (lv_at hl 2 rfl) ?_
      refine lv_bipush (v := 93) hx hb d_RM_init_110 (by decide) ?_
      refine lv_icmp_le hx hb d_RM_init_112 (tgt := 120) (by decide) (fun _ => ?_) (fun h => absurd c112 h)
      refine lv_iload_n hx hb d_RM_init_120 rfl (lv_at hl 2 rfl) ?_
      refine va_iast hx hb hK hP hD hS 1 0 rfl rfl (i := 3) (x := p0) (vp_in_iff.mpr (by decide)) d_RM_init_121 (fun H locs hP hD hS => ?_)
      have hP : va_P D vwCl [(h0, .inr (4, [.ref q7, .ref q15, .ref q23, .ref q31, .ref q40, .ref q49, .ref q58, .ref q66, .ref q74, .ref q82])), (q7, .inl (k7, 8, .inl (upd (upd (upd (upd (fun _ => 0) 0 p0) 1 p0) 2 p0) 3 p0))), (q15, .inl (k15, 8, .inl (fun _ => 0))), (q23, .inl (k23, 8, .inl (fun _ => 0))), (q31, .inl (k31, 8, .inl (fun _ => 0))), (q40, .inl (k40, 744, .inl (fun _ => 0))), (q49, .inl (k49, 1024, .inl (fun _ => 0))), (q58, .inl (k58, 1024, .inl (fun _ => 0))), (q66, .inl (k66, 104, .inl (fun _ => 0))), (q74, .inl (k74, 104, .inl (fun _ => 0))), (q82, .inl (k82, 104, .inl (fun _ => 0)))] H := hP
      have hD : va_D A [(h0, .inr (4, [.ref q7, .ref q15, .ref q23, .ref q31, .ref q40, .ref q49, .ref q58, .ref q66, .ref q74, .ref q82])), (q7, .inl (k7, 8, .inl (upd (upd (upd (upd (fun _ => 0) 0 p0) 1 p0) 2 p0) 3 p0))), (q15, .inl (k15, 8, .inl (fun _ => 0))), (q23, .inl (k23, 8, .inl (fun _ => 0))), (q31, .inl (k31, 8, .inl (fun _ => 0))), (q40, .inl (k40, 744, .inl (fun _ => 0))), (q49, .inl (k49, 1024, .inl (fun _ => 0))), (q58, .inl (k58, 1024, .inl (fun _ => 0))), (q66, .inl (k66, 104, .inl (fun _ => 0))), (q74, .inl (k74, 104, .inl (fun _ => 0))), (q82, .inl (k82, 104, .inl (fun _ => 0)))] := hD
      refine lv_iinc (v := 4) (lv' := [(2, .int 4), (0, .ref h0), (1, .int p0)]) hx hb d_RM_init_122 hl (k := 0) rfl (by decide) (by decide) rfl (fun ls hl => ?_)
      refine lv_goto hx hb d_RM_init_125 (tgt := 89) (by decide) ?_
      refine lv_iload_n hx hb d_RM_init_89 rfl (lv_at hl 0 rfl) ?_
      refine lv_bipush (v := 8) hx hb d_RM_init_90 (by decide) ?_
      refine lv_icmp_ge hx hb d_RM_init_92 (tgt := 128) (by decide) (fun h => absurd h (by decide)) (fun _ => ?_)
      refine lv_aload_n hx hb d_RM_init_95 rfl (lv_at hl 1 rfl) ?_
      refine va_get (D := D) (ci := 4) (v := .ref q7) (C := cn_RM) (T := ft_RM) (N := 10) hx hb htb ly_RM hown hK hP 0 rfl rfl 0 (by decide) (htb _ mw_259) (fun _ h9 => h9) rfl d_RM_init_96 ?_
      refine lv_iload_n hx hb d_RM_init_99 rfl (lv_at hl 0 rfl) ?_
      refine lv_iload_n hx hb d_RM_init_100 rfl (lv_at hl 2 rfl) ?_
      refine lv_iconst (v := 1) hx hb d_RM_init_101 (by decide) ?_
      refine lv_icmp_ge hx hb d_RM_init_102 (tgt := 109) (by decide) (fun _ => ?_) (fun h => absurd c102 h)
      refine lv_iload_n hx hb d_RM_init_109 rfl (lv_at hl 2 rfl) ?_
      refine lv_bipush (v := 93) hx hb d_RM_init_110 (by decide) ?_
      refine lv_icmp_le hx hb d_RM_init_112 (tgt := 120) (by decide) (fun _ => ?_) (fun h => absurd c112 h)
      refine lv_iload_n hx hb d_RM_init_120 rfl (lv_at hl 2 rfl) ?_
      refine va_iast hx hb hK hP hD hS 1 0 rfl rfl (i := 4) (x := p0) (vp_in_iff.mpr (by decide)) d_RM_init_121 (fun H locs hP hD hS => ?_)
      have hP : va_P D vwCl [(h0, .inr (4, [.ref q7, .ref q15, .ref q23, .ref q31, .ref q40, .ref q49, .ref q58, .ref q66, .ref q74, .ref q82])), (q7, .inl (k7, 8, .inl (upd (upd (upd (upd (upd (fun _ => 0) 0 p0) 1 p0) 2 p0) 3 p0) 4 p0))), (q15, .inl (k15, 8, .inl (fun _ => 0))), (q23, .inl (k23, 8, .inl (fun _ => 0))), (q31, .inl (k31, 8, .inl (fun _ => 0))), (q40, .inl (k40, 744, .inl (fun _ => 0))), (q49, .inl (k49, 1024, .inl (fun _ => 0))), (q58, .inl (k58, 1024, .inl (fun _ => 0))), (q66, .inl (k66, 104, .inl (fun _ => 0))), (q74, .inl (k74, 104, .inl (fun _ => 0))), (q82, .inl (k82, 104, .inl (fun _ => 0)))] H := hP
      have hD : va_D A [(h0, .inr (4, [.ref q7, .ref q15, .ref q23, .ref q31, .ref q40, .ref q49, .ref q58, .ref q66, .ref q74, .ref q82])), (q7, .inl (k7, 8, .inl (upd (upd (upd (upd (upd (fun _ => 0) 0 p0) 1 p0) 2 p0) 3 p0) 4 p0))), (q15, .inl (k15, 8, .inl (fun _ => 0))), (q23, .inl (k23, 8, .inl (fun _ => 0))), (q31, .inl (k31, 8, .inl (fun _ => 0))), (q40, .inl (k40, 744, .inl (fun _ => 0))), (q49, .inl (k49, 1024, .inl (fun _ => 0))), (q58, .inl (k58, 1024, .inl (fun _ => 0))), (q66, .inl (k66, 104, .inl (fun _ => 0))), (q74, .inl (k74, 104, .inl (fun _ => 0))), (q82, .inl (k82, 104, .inl (fun _ => 0)))] := hD
      refine lv_iinc (v := 5) (lv' := [(2, .int 5), (0, .ref h0), (1, .int p0)]) hx hb d_RM_init_122 hl (k := 0) rfl (by decide) (by decide) rfl (fun ls hl => ?_)
      refine lv_goto hx hb d_RM_init_125 (tgt := 89) (by decide) ?_
      refine lv_iload_n hx hb d_RM_init_89 rfl (lv_at hl 0 rfl) ?_
      refine lv_bipush (v := 8) hx hb d_RM_init_90 (by decide) ?_
      refine lv_icmp_ge hx hb d_RM_init_92 (tgt := 128) (by decide) (fun h => absurd h (by decide)) (fun _ => ?_)
      refine lv_aload_n hx hb d_RM_init_95 rfl (lv_at hl 1 rfl) ?_
      refine va_get (D := D) (ci := 4) (v := .ref q7) (C := cn_RM) (T := ft_RM) (N := 10) hx hb htb ly_RM hown hK hP 0 rfl rfl 0 (by decide) (htb _ mw_259) (fun _ h9 => h9) rfl d_RM_init_96 ?_
      refine lv_iload_n hx hb d_RM_init_99 rfl (lv_at hl 0 rfl) ?_
      refine lv_iload_n hx hb d_RM_init_100 rfl (lv_at hl 2 rfl) ?_
      refine lv_iconst (v := 1) hx hb d_RM_init_101 (by decide) ?_
      refine lv_icmp_ge hx hb d_RM_init_102 (tgt := 109) (by decide) (fun _ => ?_) (fun h => absurd c102 h)
      refine lv_iload_n hx hb d_RM_init_109 rfl (lv_at hl 2 rfl) ?_
      refine lv_bipush (v := 93) hx hb d_RM_init_110 (by decide) ?_
      refine lv_icmp_le hx hb d_RM_init_112 (tgt := 120) (by decide) (fun _ => ?_) (fun h => absurd c112 h)
      refine lv_iload_n hx hb d_RM_init_120 rfl (lv_at hl 2 rfl) ?_
      refine va_iast hx hb hK hP hD hS 1 0 rfl rfl (i := 5) (x := p0) (vp_in_iff.mpr (by decide)) d_RM_init_121 (fun H locs hP hD hS => ?_)
      have hP : va_P D vwCl [(h0, .inr (4, [.ref q7, .ref q15, .ref q23, .ref q31, .ref q40, .ref q49, .ref q58, .ref q66, .ref q74, .ref q82])), (q7, .inl (k7, 8, .inl (upd (upd (upd (upd (upd (upd (fun _ => 0) 0 p0) 1 p0) 2 p0) 3 p0) 4 p0) 5 p0))), (q15, .inl (k15, 8, .inl (fun _ => 0))), (q23, .inl (k23, 8, .inl (fun _ => 0))), (q31, .inl (k31, 8, .inl (fun _ => 0))), (q40, .inl (k40, 744, .inl (fun _ => 0))), (q49, .inl (k49, 1024, .inl (fun _ => 0))), (q58, .inl (k58, 1024, .inl (fun _ => 0))), (q66, .inl (k66, 104, .inl (fun _ => 0))), (q74, .inl (k74, 104, .inl (fun _ => 0))), (q82, .inl (k82, 104, .inl (fun _ => 0)))] H := hP
      have hD : va_D A [(h0, .inr (4, [.ref q7, .ref q15, .ref q23, .ref q31, .ref q40, .ref q49, .ref q58, .ref q66, .ref q74, .ref q82])), (q7, .inl (k7, 8, .inl (upd (upd (upd (upd (upd (upd (fun _ => 0) 0 p0) 1 p0) 2 p0) 3 p0) 4 p0) 5 p0))), (q15, .inl (k15, 8, .inl (fun _ => 0))), (q23, .inl (k23, 8, .inl (fun _ => 0))), (q31, .inl (k31, 8, .inl (fun _ => 0))), (q40, .inl (k40, 744, .inl (fun _ => 0))), (q49, .inl (k49, 1024, .inl (fun _ => 0))), (q58, .inl (k58, 1024, .inl (fun _ => 0))), (q66, .inl (k66, 104, .inl (fun _ => 0))), (q74, .inl (k74, 104, .inl (fun _ => 0))), (q82, .inl (k82, 104, .inl (fun _ => 0)))] := hD
      refine lv_iinc (v := 6) (lv' := [(2, .int 6), (0, .ref h0), (1, .int p0)]) hx hb d_RM_init_122 hl (k := 0) rfl (by decide) (by decide) rfl (fun ls hl => ?_)
      refine lv_goto hx hb d_RM_init_125 (tgt := 89) (by decide) ?_
      refine lv_iload_n hx hb d_RM_init_89 rfl (lv_at hl 0 rfl) ?_
      refine lv_bipush (v := 8) hx hb d_RM_init_90 (by decide) ?_
      refine lv_icmp_ge hx hb d_RM_init_92 (tgt := 128) (by decide) (fun h => absurd h (by decide)) (fun _ => ?_)
      refine lv_aload_n hx hb d_RM_init_95 rfl (lv_at hl 1 rfl) ?_
      refine va_get (D := D) (ci := 4) (v := .ref q7) (C := cn_RM) (T := ft_RM) (N := 10) hx hb htb ly_RM hown hK hP 0 rfl rfl 0 (by decide) (htb _ mw_259) (fun _ h9 => h9) rfl d_RM_init_96 ?_
      refine lv_iload_n hx hb d_RM_init_99 rfl (lv_at hl 0 rfl) ?_
      refine lv_iload_n hx hb d_RM_init_100 rfl (lv_at hl 2 rfl) ?_
      refine lv_iconst (v := 1) hx hb d_RM_init_101 (by decide) ?_
      refine lv_icmp_ge hx hb d_RM_init_102 (tgt := 109) (by decide) (fun _ => ?_) (fun h => absurd c102 h)
      refine lv_iload_n hx hb d_RM_init_109 rfl (lv_at hl 2 rfl) ?_
      refine lv_bipush (v := 93) hx hb d_RM_init_110 (by decide) ?_
      refine lv_icmp_le hx hb d_RM_init_112 (tgt := 120) (by decide) (fun _ => ?_) (fun h => absurd c112 h)
      refine lv_iload_n hx hb d_RM_init_120 rfl (lv_at hl 2 rfl) ?_
      refine va_iast hx hb hK hP hD hS 1 0 rfl rfl (i := 6) (x := p0) (vp_in_iff.mpr (by decide)) d_RM_init_121 (fun H locs hP hD hS => ?_)
      have hP : va_P D vwCl [(h0, .inr (4, [.ref q7, .ref q15, .ref q23, .ref q31, .ref q40, .ref q49, .ref q58, .ref q66, .ref q74, .ref q82])), (q7, .inl (k7, 8, .inl (upd (upd (upd (upd (upd (upd (upd (fun _ => 0) 0 p0) 1 p0) 2 p0) 3 p0) 4 p0) 5 p0) 6 p0))), (q15, .inl (k15, 8, .inl (fun _ => 0))), (q23, .inl (k23, 8, .inl (fun _ => 0))), (q31, .inl (k31, 8, .inl (fun _ => 0))), (q40, .inl (k40, 744, .inl (fun _ => 0))), (q49, .inl (k49, 1024, .inl (fun _ => 0))), (q58, .inl (k58, 1024, .inl (fun _ => 0))), (q66, .inl (k66, 104, .inl (fun _ => 0))), (q74, .inl (k74, 104, .inl (fun _ => 0))), (q82, .inl (k82, 104, .inl (fun _ => 0)))] H := hP
      have hD : va_D A [(h0, .inr (4, [.ref q7, .ref q15, .ref q23, .ref q31, .ref q40, .ref q49, .ref q58, .ref q66, .ref q74, .ref q82])), (q7, .inl (k7, 8, .inl (upd (upd (upd (upd (upd (upd (upd (fun _ => 0) 0 p0) 1 p0) 2 p0) 3 p0) 4 p0) 5 p0) 6 p0))), (q15, .inl (k15, 8, .inl (fun _ => 0))), (q23, .inl (k23, 8, .inl (fun _ => 0))), (q31, .inl (k31, 8, .inl (fun _ => 0))), (q40, .inl (k40, 744, .inl (fun _ => 0))), (q49, .inl (k49, 1024, .inl (fun _ => 0))), (q58, .inl (k58, 1024, .inl (fun _ => 0))), (q66, .inl (k66, 104, .inl (fun _ => 0))), (q74, .inl (k74, 104, .inl (fun _ => 0))), (q82, .inl (k82, 104, .inl (fun _ => 0)))] := hD
      refine lv_iinc (v := 7) (lv' := [(2, .int 7), (0, .ref h0), (1, .int p0)]) hx hb d_RM_init_122 hl (k := 0) rfl (by decide) (by decide) rfl (fun ls hl => ?_)
      refine lv_goto hx hb d_RM_init_125 (tgt := 89) (by decide) ?_
      refine lv_iload_n hx hb d_RM_init_89 rfl (lv_at hl 0 rfl) ?_
      refine lv_bipush (v := 8) hx hb d_RM_init_90 (by decide) ?_
      refine lv_icmp_ge hx hb d_RM_init_92 (tgt := 128) (by decide) (fun h => absurd h (by decide)) (fun _ => ?_)
      refine lv_aload_n hx hb d_RM_init_95 rfl (lv_at hl 1 rfl) ?_
      refine va_get (D := D) (ci := 4) (v := .ref q7) (C := cn_RM) (T := ft_RM) (N := 10) hx hb htb ly_RM hown hK hP 0 rfl rfl 0 (by decide) (htb _ mw_259) (fun _ h9 => h9) rfl d_RM_init_96 ?_
      refine lv_iload_n hx hb d_RM_init_99 rfl (lv_at hl 0 rfl) ?_
      refine lv_iload_n hx hb d_RM_init_100 rfl (lv_at hl 2 rfl) ?_
      refine lv_iconst (v := 1) hx hb d_RM_init_101 (by decide) ?_
      refine lv_icmp_ge hx hb d_RM_init_102 (tgt := 109) (by decide) (fun _ => ?_) (fun h => absurd c102 h)
      refine lv_iload_n hx hb d_RM_init_109 rfl (lv_at hl 2 rfl) ?_
      refine lv_bipush (v := 93) hx hb d_RM_init_110 (by decide) ?_
      refine lv_icmp_le hx hb d_RM_init_112 (tgt := 120) (by decide) (fun _ => ?_) (fun h => absurd c112 h)
      refine lv_iload_n hx hb d_RM_init_120 rfl (lv_at hl 2 rfl) ?_
      refine va_iast hx hb hK hP hD hS 1 0 rfl rfl (i := 7) (x := p0) (vp_in_iff.mpr (by decide)) d_RM_init_121 (fun H locs hP hD hS => ?_)
      have hP : va_P D vwCl [(h0, .inr (4, [.ref q7, .ref q15, .ref q23, .ref q31, .ref q40, .ref q49, .ref q58, .ref q66, .ref q74, .ref q82])), (q7, .inl (k7, 8, .inl (upd (upd (upd (upd (upd (upd (upd (upd (fun _ => 0) 0 p0) 1 p0) 2 p0) 3 p0) 4 p0) 5 p0) 6 p0) 7 p0))), (q15, .inl (k15, 8, .inl (fun _ => 0))), (q23, .inl (k23, 8, .inl (fun _ => 0))), (q31, .inl (k31, 8, .inl (fun _ => 0))), (q40, .inl (k40, 744, .inl (fun _ => 0))), (q49, .inl (k49, 1024, .inl (fun _ => 0))), (q58, .inl (k58, 1024, .inl (fun _ => 0))), (q66, .inl (k66, 104, .inl (fun _ => 0))), (q74, .inl (k74, 104, .inl (fun _ => 0))), (q82, .inl (k82, 104, .inl (fun _ => 0)))] H := hP
      have hD : va_D A [(h0, .inr (4, [.ref q7, .ref q15, .ref q23, .ref q31, .ref q40, .ref q49, .ref q58, .ref q66, .ref q74, .ref q82])), (q7, .inl (k7, 8, .inl (upd (upd (upd (upd (upd (upd (upd (upd (fun _ => 0) 0 p0) 1 p0) 2 p0) 3 p0) 4 p0) 5 p0) 6 p0) 7 p0))), (q15, .inl (k15, 8, .inl (fun _ => 0))), (q23, .inl (k23, 8, .inl (fun _ => 0))), (q31, .inl (k31, 8, .inl (fun _ => 0))), (q40, .inl (k40, 744, .inl (fun _ => 0))), (q49, .inl (k49, 1024, .inl (fun _ => 0))), (q58, .inl (k58, 1024, .inl (fun _ => 0))), (q66, .inl (k66, 104, .inl (fun _ => 0))), (q74, .inl (k74, 104, .inl (fun _ => 0))), (q82, .inl (k82, 104, .inl (fun _ => 0)))] := hD
      refine lv_iinc (v := 8) (lv' := [(2, .int 8), (0, .ref h0), (1, .int p0)]) hx hb d_RM_init_122 hl (k := 0) rfl (by decide) (by decide) rfl (fun ls hl => ?_)
      refine lv_goto hx hb d_RM_init_125 (tgt := 89) (by decide) ?_
      refine lv_iload_n hx hb d_RM_init_89 rfl (lv_at hl 0 rfl) ?_
      refine lv_bipush (v := 8) hx hb d_RM_init_90 (by decide) ?_
      refine lv_icmp_ge hx hb d_RM_init_92 (tgt := 128) (by decide) (fun _ => ?_) (fun h => absurd (by decide) h)
      refine W.widen (k := 10) (n := 3136) (by omega) (by omega) ?_
      obtain rfl : k7 = k15 := ll_ci hK (i := 0) (j := 1) rfl rfl
      obtain rfl : k7 = k23 := ll_ci hK (i := 0) (j := 2) rfl rfl
      obtain rfl : k7 = k31 := ll_ci hK (i := 0) (j := 3) rfl rfl
      obtain rfl : k7 = k40 := ll_ci hK (i := 0) (j := 4) rfl rfl
      obtain rfl : k7 = k49 := ll_ci hK (i := 0) (j := 5) rfl rfl
      obtain rfl : k7 = k58 := ll_ci hK (i := 0) (j := 6) rfl rfl
      obtain rfl : k7 = k66 := ll_ci hK (i := 0) (j := 7) rfl rfl
      obtain rfl : k7 = k74 := ll_ci hK (i := 0) (j := 8) rfl rfl
      obtain rfl : k7 = k82 := ll_ci hK (i := 0) (j := 9) rfl rfl
      have hv9 : rm_clamp p0 = p0 := (if_pos c102).trans (if_pos c112)
      have hP := ll_i (k := 1) (fun _ => p0) hP rfl (ll_8 rfl rfl rfl rfl rfl rfl rfl rfl)
      have hD := hD.set (p := 1) (e := .inl (k7, 8, .inl (fun _ => p0))) rfl
      have hP : va_P D vwCl [(h0, .inr (4, [.ref q7, .ref q15, .ref q23, .ref q31, .ref q40, .ref q49, .ref q58, .ref q66, .ref q74, .ref q82])), (q7, .inl (k7, 8, .inl (fun _ => p0))), (q15, .inl (k7, 8, .inl (fun _ => 0))), (q23, .inl (k7, 8, .inl (fun _ => 0))), (q31, .inl (k7, 8, .inl (fun _ => 0))), (q40, .inl (k7, 744, .inl (fun _ => 0))), (q49, .inl (k7, 1024, .inl (fun _ => 0))), (q58, .inl (k7, 1024, .inl (fun _ => 0))), (q66, .inl (k7, 104, .inl (fun _ => 0))), (q74, .inl (k7, 104, .inl (fun _ => 0))), (q82, .inl (k7, 104, .inl (fun _ => 0)))] H := hP
      have hD : va_D A [(h0, .inr (4, [.ref q7, .ref q15, .ref q23, .ref q31, .ref q40, .ref q49, .ref q58, .ref q66, .ref q74, .ref q82])), (q7, .inl (k7, 8, .inl (fun _ => p0))), (q15, .inl (k7, 8, .inl (fun _ => 0))), (q23, .inl (k7, 8, .inl (fun _ => 0))), (q31, .inl (k7, 8, .inl (fun _ => 0))), (q40, .inl (k7, 744, .inl (fun _ => 0))), (q49, .inl (k7, 1024, .inl (fun _ => 0))), (q58, .inl (k7, 1024, .inl (fun _ => 0))), (q66, .inl (k7, 104, .inl (fun _ => 0))), (q74, .inl (k7, 104, .inl (fun _ => 0))), (q82, .inl (k7, 104, .inl (fun _ => 0)))] := hD
      have hP9 := hP.sub (ws' := rm_g (fun k => ([h0, q7, q15, q23, q31, q40, q49, q58, q66, q74, q82] : List Nat).getD k 0) k7 (rm_init p0)) [0, 1, 2, 3, 4, 5, 6, 7, 8, 9, 10] rfl
      have hD9 := hD.sub (ws' := rm_g (fun k => ([h0, q7, q15, q23, q31, q40, q49, q58, q66, q74, q82] : List Nat).getD k 0) k7 (rm_init p0)) [0, 1, 2, 3, 4, 5, 6, 7, 8, 9, 10] (by decide) rfl
      have hK9 := hK.sub (tys' := rm_T k7) [0] rfl
      subst hAe
      exact W.vret hx hb hr (fun t ht hW => ⟨⟨((fun k => ([h0, q7, q15, q23, q31, q40, q49, q58, q66, q74, q82] : List Nat).getD k 0), k7), rfl, trivial, rfl, (by show va_P D vwCl _ t.heap; rw [ht, hv9]; exact hP9), va_K.moved hW.alike hK9, (by rw [hv9]; exact hD9)⟩, hS.F ht⟩) hS.2.2 d_RM_init_128 hlk
    · refine lv_bipush (v := 93) hx hb d_RM_init_115 (by decide) ?_
      refine lv_goto hx hb d_RM_init_117 (tgt := 121) (by decide) ?_
      refine va_iast hx hb hK hP hD hS 1 0 rfl rfl (i := 0) (x := 93) (vp_in_iff.mpr (by decide)) d_RM_init_121 (fun H locs hP hD hS => ?_)
      have hP : va_P D vwCl [(h0, .inr (4, [.ref q7, .ref q15, .ref q23, .ref q31, .ref q40, .ref q49, .ref q58, .ref q66, .ref q74, .ref q82])), (q7, .inl (k7, 8, .inl (upd (fun _ => 0) 0 93))), (q15, .inl (k15, 8, .inl (fun _ => 0))), (q23, .inl (k23, 8, .inl (fun _ => 0))), (q31, .inl (k31, 8, .inl (fun _ => 0))), (q40, .inl (k40, 744, .inl (fun _ => 0))), (q49, .inl (k49, 1024, .inl (fun _ => 0))), (q58, .inl (k58, 1024, .inl (fun _ => 0))), (q66, .inl (k66, 104, .inl (fun _ => 0))), (q74, .inl (k74, 104, .inl (fun _ => 0))), (q82, .inl (k82, 104, .inl (fun _ => 0)))] H := hP
      have hD : va_D A [(h0, .inr (4, [.ref q7, .ref q15, .ref q23, .ref q31, .ref q40, .ref q49, .ref q58, .ref q66, .ref q74, .ref q82])), (q7, .inl (k7, 8, .inl (upd (fun _ => 0) 0 93))), (q15, .inl (k15, 8, .inl (fun _ => 0))), (q23, .inl (k23, 8, .inl (fun _ => 0))), (q31, .inl (k31, 8, .inl (fun _ => 0))), (q40, .inl (k40, 744, .inl (fun _ => 0))), (q49, .inl (k49, 1024, .inl (fun _ => 0))), (q58, .inl (k58, 1024, .inl (fun _ => 0))), (q66, .inl (k66, 104, .inl (fun _ => 0))), (q74, .inl (k74, 104, .inl (fun _ => 0))), (q82, .inl (k82, 104, .inl (fun _ => 0)))] := hD
      refine lv_iinc (v := 1) (lv' := [(2, .int 1), (0, .ref h0), (1, .int p0)]) hx hb d_RM_init_122 hl (k := 0) rfl (by decide) (by decide) rfl (fun ls hl => ?_)
      refine lv_goto hx hb d_RM_init_125 (tgt := 89) (by decide) ?_
      refine lv_iload_n hx hb d_RM_init_89 rfl (lv_at hl 0 rfl) ?_
      refine lv_bipush (v := 8) hx hb d_RM_init_90 (by decide) ?_
      refine lv_icmp_ge hx hb d_RM_init_92 (tgt := 128) (by decide) (fun h => absurd h (by decide)) (fun _ => ?_)
      refine lv_aload_n hx hb d_RM_init_95 rfl (lv_at hl 1 rfl) ?_
      refine va_get (D := D) (ci := 4) (v := .ref q7) (C := cn_RM) (T := ft_RM) (N := 10) hx hb htb ly_RM hown hK hP 0 rfl rfl 0 (by decide) (htb _ mw_259) (fun _ h9 => h9) rfl d_RM_init_96 ?_
      refine lv_iload_n hx hb d_RM_init_99 rfl (lv_at hl 0 rfl) ?_
      refine lv_iload_n hx hb d_RM_init_100 rfl (lv_at hl 2 rfl) ?_
      refine lv_iconst (v := 1) hx hb d_RM_init_101 (by decide) ?_
      refine lv_icmp_ge hx hb d_RM_init_102 (tgt := 109) (by decide) (fun _ => ?_) (fun h => absurd c102 h)
      refine lv_iload_n hx hb d_RM_init_109 rfl (lv_at hl 2 rfl) ?_
      refine lv_bipush (v := 93) hx hb d_RM_init_110 (by decide) ?_
      refine lv_icmp_le hx hb d_RM_init_112 (tgt := 120) (by decide) (fun h => absurd h c112) (fun _ => ?_)
      refine lv_bipush (v := 93) hx hb d_RM_init_115 (by decide) ?_
      refine lv_goto hx hb d_RM_init_117 (tgt := 121) (by decide) ?_
      refine va_iast hx hb hK hP hD hS 1 0 rfl rfl (i := 1) (x := 93) (vp_in_iff.mpr (by decide)) d_RM_init_121 (fun H locs hP hD hS => ?_)
      have hP : va_P D vwCl [(h0, .inr (4, [.ref q7, .ref q15, .ref q23, .ref q31, .ref q40, .ref q49, .ref q58, .ref q66, .ref q74, .ref q82])), (q7, .inl (k7, 8, .inl (upd (upd (fun _ => 0) 0 93) 1 93))), (q15, .inl (k15, 8, .inl (fun _ => 0))), (q23, .inl (k23, 8, .inl (fun _ => 0))), (q31, .inl (k31, 8, .inl (fun _ => 0))), (q40, .inl (k40, 744, .inl (fun _ => 0))), (q49, .inl (k49, 1024, .inl (fun _ => 0))), (q58, .inl (k58, 1024, .inl (fun _ => 0))), (q66, .inl (k66, 104, .inl (fun _ => 0))), (q74, .inl (k74, 104, .inl (fun _ => 0))), (q82, .inl (k82, 104, .inl (fun _ => 0)))] H := hP
      have hD : va_D A [(h0, .inr (4, [.ref q7, .ref q15, .ref q23, .ref q31, .ref q40, .ref q49, .ref q58, .ref q66, .ref q74, .ref q82])), (q7, .inl (k7, 8, .inl (upd (upd (fun _ => 0) 0 93) 1 93))), (q15, .inl (k15, 8, .inl (fun _ => 0))), (q23, .inl (k23, 8, .inl (fun _ => 0))), (q31, .inl (k31, 8, .inl (fun _ => 0))), (q40, .inl (k40, 744, .inl (fun _ => 0))), (q49, .inl (k49, 1024, .inl (fun _ => 0))), (q58, .inl (k58, 1024, .inl (fun _ => 0))), (q66, .inl (k66, 104, .inl (fun _ => 0))), (q74, .inl (k74, 104, .inl (fun _ => 0))), (q82, .inl (k82, 104, .inl (fun _ => 0)))] := hD
      refine lv_iinc (v := 2) (lv' := [(2, .int 2), (0, .ref h0), (1, .int p0)]) hx hb d_RM_init_122 hl (k := 0) rfl (by decide) (by decide) rfl (fun ls hl => ?_)
      refine lv_goto hx hb d_RM_init_125 (tgt := 89) (by decide) ?_
      refine lv_iload_n hx hb d_RM_init_89 rfl (lv_at hl 0 rfl) ?_
      refine lv_bipush (v := 8) hx hb d_RM_init_90 (by decide) ?_
      refine lv_icmp_ge hx hb d_RM_init_92 (tgt := 128) (by decide) (fun h => absurd h (by decide)) (fun _ => ?_)
      refine lv_aload_n hx hb d_RM_init_95 rfl (lv_at hl 1 rfl) ?_
      refine va_get (D := D) (ci := 4) (v := .ref q7) (C := cn_RM) (T := ft_RM) (N := 10) hx hb htb ly_RM hown hK hP 0 rfl rfl 0 (by decide) (htb _ mw_259) (fun _ h9 => h9) rfl d_RM_init_96 ?_
      refine lv_iload_n hx hb d_RM_init_99 rfl (lv_at hl 0 rfl) ?_
      refine lv_iload_n hx hb d_RM_init_100 rfl (lv_at hl 2 rfl) ?_
      refine lv_iconst (v := 1) hx hb d_RM_init_101 (by decide) ?_
      refine lv_icmp_ge hx hb d_RM_init_102 (tgt := 109) (by decide) (fun _ => ?_) (fun h => absurd c102 h)
      refine lv_iload_n hx hb d_RM_init_109 rfl (lv_at hl 2 rfl) ?_
      refine lv_bipush (v := 93) hx hb d_RM_init_110 (by decide) ?_
      refine lv_icmp_le hx hb d_RM_init_112 (tgt := 120) (by decide) (fun h => absurd h c112) (fun _ => ?_)
      refine lv_bipush (v := 93) hx hb d_RM_init_115 (by decide) ?_
      refine lv_goto hx hb d_RM_init_117 (tgt := 121) (by decide) ?_
      refine va_iast hx hb hK hP hD hS 1 0 rfl rfl (i := 2) (x := 93) (vp_in_iff.mpr (by decide)) d_RM_init_121 (fun H locs hP hD hS => ?_)
      have hP : va_P D vwCl [(h0, .inr (4, [.ref q7, .ref q15, .ref q23, .ref q31, .ref q40, .ref q49, .ref q58, .ref q66, .ref q74, .ref q82])), (q7, .inl (k7, 8, .inl (upd (upd (upd (fun _ => 0) 0 93) 1 93) 2 93))), (q15, .inl (k15, 8, .inl (fun _ => 0))), (q23, .inl (k23, 8, .inl (fun _ => 0))), (q31, .inl (k31, 8, .inl (fun _ => 0))), (q40, .inl (k40, 744, .inl (fun _ => 0))), (q49, .inl (k49, 1024, .inl (fun _ => 0))), (q58, .inl (k58, 1024, .inl (fun _ => 0))), (q66, .inl (k66, 104, .inl (fun _ => 0))), (q74, .inl (k74, 104, .inl (fun _ => 0))), (q82, .inl (k82, 104, .inl (fun _ => 0)))] H := hP
      have hD : va_D A [(h0, .inr (4, [.ref q7, .ref q15, .ref q23, .ref q31, .ref q40, .ref q49, .ref q58, .ref q66, .ref q74, .ref q82])), (q7, .inl (k7, 8, .inl (upd (upd (upd (fun _ => 0) 0 93) 1 93) 2 93))), (q15, .inl (k15, 8, .inl (fun _ => 0))), (q23, .inl (k23, 8, .inl (fun _ => 0))), (q31, .inl (k31, 8, .inl (fun _ => 0))), (q40, .inl (k40, 744, .inl (fun _ => 0))), (q49, .inl (k49, 1024, .inl (fun _ => 0))), (q58, .inl (k58, 1024, .inl (fun _ => 0))), (q66, .inl (k66, 104, .inl (fun _ => 0))), (q74, .inl (k74, 104, .inl (fun _ => 0))), (q82, .inl (k82, 104, .inl (fun _ => 0)))] := hD
      refine lv_iinc (v := 3) (lv' := [(2, .int 3), (0, .ref h0), (1, .int p0)]) hx hb d_RM_init_122 hl (k := 0) rfl (by decide) (by decide) rfl (fun ls hl => ?_)
      refine lv_goto hx hb d_RM_init_125 (tgt := 89) (by decide) ?_
      refine lv_iload_n hx hb d_RM_init_89 rfl (lv_at hl 0 rfl) ?_
      refine lv_bipush (v := 8) hx hb d_RM_init_90 (by decide) ?_
      refine lv_icmp_ge hx hb d_RM_init_92 (tgt := 128) (by decide) (fun h => absurd h (by decide)) (fun _ => ?_)
      refine lv_aload_n hx hb d_RM_init_95 rfl (lv_at hl 1 rfl) ?_
      refine va_get (D := D) (ci := 4) (v := .ref q7) (C := cn_RM) (T := ft_RM) (N := 10) hx hb htb ly_RM hown hK hP 0 rfl rfl 0 (by decide) (htb _ mw_259) (fun _ h9 => h9) rfl d_RM_init_96 ?_
      refine lv_iload_n hx hb d_RM_init_99 rfl (lv_at hl 0 rfl) ?_
      refine lv_iload_n hx hb d_RM_init_100 rfl (lv_at hl 2 rfl) ?_
      refine lv_iconst (v := 1) hx hb d_RM_init_101 (by decide) ?_
      refine lv_icmp_ge hx hb d_RM_init_102 (tgt := 109) (by decide) (fun _ => ?_) (fun h => absurd c102 h)
      refine lv_iload_n hx hb d_RM_init_109 rfl (lv_at hl 2 rfl) ?_
      refine lv_bipush (v := 93) hx hb d_RM_init_110 (by decide) ?_
      refine lv_icmp_le hx hb d_RM_init_112 (tgt := 120) (by decide) (fun h => absurd h c112) (fun _ => ?_)
      refine lv_bipush (v := 93) hx hb d_RM_init_115 (by decide) ?_
      refine lv_goto hx hb d_RM_init_117 (tgt := 121) (by decide) ?_
      refine va_iast hx hb hK hP hD hS 1 0 rfl rfl (i := 3) (x := 93) (vp_in_iff.mpr (by decide)) d_RM_init_121 (fun H locs hP hD hS => ?_)
      have hP : va_P D vwCl [(h0, .inr (4, [.ref q7, .ref q15, .ref q23, .ref q31, .ref q40, .ref q49, .ref q58, .ref q66, .ref q74, .ref q82])), (q7, .inl (k7, 8, .inl (upd (upd (upd (upd (fun _ => 0) 0 93) 1 93) 2 93) 3 93))), (q15, .inl (k15, 8, .inl (fun _ => 0))), (q23, .inl (k23, 8, .inl (fun _ => 0))), (q31, .inl (k31, 8, .inl (fun _ => 0))), (q40, .inl (k40, 744, .inl (fun _ => 0))), (q49, .inl (k49, 1024, .inl (fun _ => 0))), (q58, .inl (k58, 1024, .inl (fun _ => 0))), (q66, .inl (k66, 104, .inl (fun _ => 0))), (q74, .inl (k74, 104, .inl (fun _ => 0))), (q82, .inl (k82, 104, .inl (fun _ => 0)))] H := hP
      have hD : va_D A [(h0, .inr (4, [.ref q7, .ref q15, .ref q23, .ref q31, .ref q40, .ref q49, .ref q58, .ref q66, .ref q74, .ref q82])), (q7, .inl (k7, 8, .inl (upd (upd (upd (upd (fun _ => 0) 0 93) 1 93) 2 93) 3 93))), (q15, .inl (k15, 8, .inl (fun _ => 0))), (q23, .inl (k23, 8, .inl (fun _ => 0))), (q31, .inl (k31, 8, .inl (fun _ => 0))), (q40, .inl (k40, 744, .inl (fun _ => 0))), (q49, .inl (k49, 1024, .inl (fun _ => 0))), (q58, .inl (k58, 1024, .inl (fun _ => 0))), (q66, .inl (k66, 104, .inl (fun _ => 0))), (q74, .inl (k74, 104, .inl (fun _ => 0))), (q82, .inl (k82, 104, .inl (fun _ => 0)))] := hD
      refine lv_iinc (v := 4) (lv' := [(2, .int 4), (0, .ref h0), (1, .int p0)]) hx hb d_RM_init_122 hl (k := 0) rfl (by decide) (by decide) rfl (fun ls hl => ?_)
      refine lv_goto hx hb d_RM_init_125 (tgt := 89) (by decide) ?_
      refine lv_iload_n hx hb d_RM_init_89 rfl (lv_at hl 0 rfl) ?_
      refine lv_bipush (v := 8) hx hb d_RM_init_90 (by decide) ?_
      refine lv_icmp_ge hx hb d_RM_init_92 (tgt := 128) (by decide) (fun h => absurd h (by decide)) (fun _ => ?_)
      refine lv_aload_n hx hb d_RM_init_95 rfl (lv_at hl 1 rfl) ?_
      refine va_get (D := D) (ci := 4) (v := .ref q7) (C := cn_RM) (T := ft_RM) (N := 10) hx hb htb ly_RM hown hK hP 0 rfl rfl 0 (by decide) (htb _ mw_259) (fun _ h9 => h9) rfl d_RM_init_96 ?_
      refine lv_iload_n hx hb d_RM_init_99 rfl (lv_at hl 0 rfl) ?_
      refine lv_iload_n hx hb d_RM_init_100 rfl (lv_at hl 2 rfl) ?_
      refine lv_iconst (v := 1) hx hb d_RM_init_101 (by decide) ?_
      refine lv_icmp_ge hx hb d_RM_init_102 (tgt := 109) (by decide) (fun _ => ?_) (fun h => absurd c102 h)
      refine lv_iload_n hx hb d_RM_init_109 rfl (lv_at hl 2 rfl) ?_
      refine lv_bipush (v := 93) hx hb d_RM_init_110 (by decide) ?_
      refine lv_icmp_le hx hb d_RM_init_112 (tgt := 120) (by decide) (fun h => absurd h c112) (fun _ => ?_)
      refine lv_bipush (v := 93) hx hb d_RM_init_115 (by decide) ?_
      refine lv_goto hx hb d_RM_init_117 (tgt := 121) (by decide) ?_
      refine va_iast hx hb hK hP hD hS 1 0 rfl rfl (i := 4) (x := 93) (vp_in_iff.mpr (by decide)) d_RM_init_121 (fun H locs hP hD hS => ?_)
      have hP : va_P D vwCl [(h0, .inr (4, [.ref q7, .ref q15, .ref q23, .ref q31, .ref q40, .ref q49, .ref q58, .ref q66, .ref q74, .ref q82])), (q7, .inl (k7, 8, .inl (upd (upd (upd (upd (upd (fun _ => 0) 0 93) 1 93) 2 93) 3 93) 4 93))), (q15, .inl (k15, 8, .inl (fun _ => 0))), (q23, .inl (k23, 8, .inl (fun _ => 0))), (q31, .inl (k31, 8, .inl (fun _ => 0))), (q40, .inl (k40, 744, .inl (fun _ => 0))), (q49, .inl (k49, 1024, .inl (fun _ => 0))), (q58, .inl (k58, 1024, .inl (fun _ => 0))), (q66, .inl (k66, 104, .inl (fun _ => 0))), (q74, .inl (k74, 104, .inl (fun _ => 0))), (q82, .inl (k82, 104, .inl (fun _ => 0)))] H := hP
      have hD : va_D A [(h0, .inr (4, [.ref q7, .ref q15, .ref q23, .ref q31, .ref q40, .ref q49, .ref q58, .ref q66, .ref q74, .ref q82])), (q7, .inl (k7, 8, .inl (upd (upd (upd (upd (upd (fun _ => 0) 0 93) 1 93) 2 93) 3 93) 4 93))), (q15, .inl (k15, 8, .inl (fun _ => 0))), (q23, .inl (k23, 8, .inl (fun _ => 0))), (q31, .inl (k31, 8, .inl (fun _ => 0))), (q40, .inl (k40, 744, .inl (fun _ => 0))), (q49, .inl (k49, 1024, .inl (fun _ => 0))), (q58, .inl (k58, 1024, .inl (fun _ => 0))), (q66, .inl (k66, 104, .inl (fun _ => 0))), (q74, .inl (k74, 104, .inl (fun _ => 0))), (q82, .inl (k82, 104, .inl (fun _ => 0)))] := hD
      refine lv_iinc (v := 5) (lv' := [(2, .int 5), (0, .ref h0), (1, .int p0)]) hx hb d_RM_init_122 hl (k := 0) rfl (by decide) (by decide) rfl (fun ls hl => ?_)
      refine lv_goto hx hb d_RM_init_125 (tgt := 89) (by decide) ?_
      refine lv_iload_n hx hb d_RM_init_89 rfl (lv_at hl 0 rfl) ?_
      refine lv_bipush (v := 8) hx hb d_RM_init_90 (by decide) ?_
      refine lv_icmp_ge hx hb d_RM_init_92 (tgt := 128) (by decide) (fun h => absurd h (by decide)) (fun _ => ?_)
      refine lv_aload_n hx hb d_RM_init_95 rfl (lv_at hl 1 rfl) ?_
      refine va_get (D := D) (ci := 4) (v := .ref q7) (C := cn_RM) (T := ft_RM) (N := 10) hx hb htb ly_RM hown hK hP 0 rfl rfl 0 (by decide) (htb _ mw_259) (fun _ h9 => h9) rfl d_RM_init_96 ?_
      refine lv_iload_n hx hb d_RM_init_99 rfl (lv_at hl 0 rfl) ?_
      refine lv_iload_n hx hb d_RM_init_100 rfl (lv_at hl 2 rfl) ?_
      refine lv_iconst (v := 1) hx hb d_RM_init_101 (by decide) ?_
      refine lv_icmp_ge hx hb d_RM_init_102 (tgt := 109) (by decide) (fun _ => ?_) (fun h => absurd c102 h)
      refine lv_iload_n hx hb d_RM_init_109 rfl (lv_at hl 2 rfl) ?_
      refine lv_bipush (v := 93) hx hb d_RM_init_110 (by decide) ?_
      refine lv_icmp_le hx hb d_RM_init_112 (tgt := 120) (by decide) (fun h => absurd h c112) (fun _ => ?_)
      refine lv_bipush (v := 93) hx hb d_RM_init_115 (by decide) ?_
      refine lv_goto hx hb d_RM_init_117 (tgt := 121) (by decide) ?_
      refine va_iast hx hb hK hP hD hS 1 0 rfl rfl (i := 5) (x := 93) (vp_in_iff.mpr (by decide)) d_RM_init_121 (fun H locs hP hD hS => ?_)
      have hP : va_P D vwCl [(h0, .inr (4, [.ref q7, .ref q15, .ref q23, .ref q31, .ref q40, .ref q49, .ref q58, .ref q66, .ref q74, .ref q82])), (q7, .inl (k7, 8, .inl (upd (upd (upd (upd (upd (upd (fun _ => 0) 0 93) 1 93) 2 93) 3 93) 4 93) 5 93))), (q15, .inl (k15, 8, .inl (fun _ => 0))), (q23, .inl (k23, 8, .inl (fun _ => 0))), (q31, .inl (k31, 8, .inl (fun _ => 0))), (q40, .inl (k40, 744, .inl (fun _ => 0))), (q49, .inl (k49, 1024, .inl (fun _ => 0))), (q58, .inl (k58, 1024, .inl (fun _ => 0))), (q66, .inl (k66, 104, .inl (fun _ => 0))), (q74, .inl (k74, 104, .inl (fun _ => 0))), (q82, .inl (k82, 104, .inl (fun _ => 0)))] H := hP
      have hD : va_D A [(h0, .inr (4, [.ref q7, .ref q15, .ref q23, .ref q31, .ref q40, .ref q49, .ref q58, .ref q66, .ref q74, .ref q82])), (q7, .inl (k7, 8, .inl (upd (upd (upd (upd (upd (upd (fun _ => 0) 0 93) 1 93) 2 93) 3 93) 4 93) 5 93))), (q15, .inl (k15, 8, .inl (fun _ => 0))), (q23, .inl (k23, 8, .inl (fun _ => 0))), (q31, .inl (k31, 8, .inl (fun _ => 0))), (q40, .inl (k40, 744, .inl (fun _ => 0))), (q49, .inl (k49, 1024, .inl (fun _ => 0))), (q58, .inl (k58, 1024, .inl (fun _ => 0))), (q66, .inl (k66, 104, .inl (fun _ => 0))), (q74, .inl (k74, 104, .inl (fun _ => 0))), (q82, .inl (k82, 104, .inl (fun _ => 0)))] := hD
      refine lv_iinc (v := 6) (lv' := [(2, .int 6), (0, .ref h0), (1, .int p0)]) hx hb d_RM_init_122 hl (k := 0) rfl (by decide) (by decide) rfl (fun ls hl => ?_)
      refine lv_goto hx hb d_RM_init_125 (tgt := 89) (by decide) ?_
      refine lv_iload_n hx hb d_RM_init_89 rfl (lv_at hl 0 rfl) ?_
      refine lv_bipush (v := 8) hx hb d_RM_init_90 (by decide) ?_
      refine lv_icmp_ge hx hb d_RM_init_92 (tgt := 128) (by decide) (fun h => absurd h (by decide)) (fun _ => ?_)
      refine lv_aload_n hx hb d_RM_init_95 rfl (lv_at hl 1 rfl) ?_
      refine va_get (D := D) (ci := 4) (v := .ref q7) (C := cn_RM) (T := ft_RM) (N := 10) hx hb htb ly_RM hown hK hP 0 rfl rfl 0 (by decide) (htb _ mw_259) (fun _ h9 => h9) rfl d_RM_init_96 ?_
      refine lv_iload_n hx hb d_RM_init_99 rfl (lv_at hl 0 rfl) ?_
      refine lv_iload_n hx hb d_RM_init_100 rfl (lv_at hl 2 rfl) ?_
      refine lv_iconst (v := 1) hx hb d_RM_init_101 (by decide) ?_
      refine lv_icmp_ge hx hb d_RM_init_102 (tgt := 109) (by decide) (fun _ => ?_) (fun h => absurd c102 h)
      refine lv_iload_n hx hb d_RM_init_109 rfl (lv_at hl 2 rfl) ?_
      refine lv_bipush (v := 93) hx hb d_RM_init_110 (by decide) ?_
      refine lv_icmp_le hx hb d_RM_init_112 (tgt := 120) (by decide) (fun h => absurd h c112) (fun _ => ?_)
      refine lv_bipush (v := 93) hx hb d_RM_init_115 (by decide) ?_
      refine lv_goto hx hb d_RM_init_117 (tgt := 121) (by decide) ?_
      refine va_iast hx hb hK hP hD hS 1 0 rfl rfl (i := 6) (x := 93) (vp_in_iff.mpr (by decide)) d_RM_init_121 (fun H locs hP hD hS => ?_)
      have hP : va_P D vwCl [(h0, .inr (4, [.ref q7, .ref q15, .ref q23, .ref q31, .ref q40, .ref q49, .ref q58, .ref q66, .ref q74, .ref q82])), (q7, .inl (k7, 8, .inl (upd (upd (upd (upd (upd (upd (upd (fun _ => 0) 0 93) 1 93) 2 93) 3 93) 4 93) 5 93) 6 93))), (q15, .inl (k15, 8, .inl (fun _ => 0))), (q23, .inl (k23, 8, .inl (fun _ => 0))), (q31, .inl (k31, 8, .inl (fun _ => 0))), (q40, .inl (k40, 744, .inl (fun _ => 0))), (q49, .inl (k49, 1024, .inl (fun _ => 0))), (q58, .inl (k58, 1024, .inl (fun _ => 0))), (q66, .inl (k66, 104, .inl (fun _ => 0))), (q74, .inl (k74, 104, .inl (fun _ => 0))), (q82, .inl (k82, 104, .inl (fun _ => 0)))] H := hP
      have hD : va_D A [(h0, .inr (4, [.ref q7, .ref q15, .ref q23, .ref q31, .ref q40, .ref q49, .ref q58, .ref q66, .ref q74, .ref q82])), (q7, .inl (k7, 8, .inl (upd (upd (upd (upd (upd (upd (upd (fun _ => 0) 0 93) 1 93) 2 93) 3 93) 4 93) 5 93) 6 93))), (q15, .inl (k15, 8, .inl (fun _ => 0))), (q23, .inl (k23, 8, .inl (fun _ => 0))), (q31, .inl (k31, 8, .inl (fun _ => 0))), (q40, .inl (k40, 744, .inl (fun _ => 0))), (q49, .inl (k49, 1024, .inl (fun _ => 0))), (q58, .inl (k58, 1024, .inl (fun _ => 0))), (q66, .inl (k66, 104, .inl (fun _ => 0))), (q74, .inl (k74, 104, .inl (fun _ => 0))), (q82, .inl (k82, 104, .inl (fun _ => 0)))] := hD
      refine lv_iinc (v := 7) (lv' := [(2, .int 7), (0, .ref h0), (1, .int p0)]) hx hb d_RM_init_122 hl (k := 0) rfl (by decide) (by decide) rfl (fun ls hl => ?_)
      refine lv_goto hx hb d_RM_init_125 (tgt := 89) (by decide) ?_
      refine lv_iload_n hx hb d_RM_init_89 rfl (lv_at hl 0 rfl) ?_
      refine lv_bipush (v := 8) hx hb d_RM_init_90 (by decide) ?_
      refine lv_icmp_ge hx hb d_RM_init_92 (tgt := 128) (by decide) (fun h => absurd h (by decide)) (fun _ => ?_)
      refine lv_aload_n hx hb d_RM_init_95 rfl (lv_at hl 1 rfl) ?_
      refine va_get (D := D) (ci := 4) (v := .ref q7) (C := cn_RM) (T := ft_RM) (N := 10) hx hb htb ly_RM hown hK hP 0 rfl rfl 0 (by decide) (htb _ mw_259) (fun _ h9 => h9) rfl d_RM_init_96 ?_
      refine lv_iload_n hx hb d_RM_init_99 rfl (lv_at hl 0 rfl) ?_
      refine lv_iload_n hx hb d_RM_init_100 rfl (lv_at hl 2 rfl) ?_
      refine lv_iconst (v := 1) hx hb d_RM_init_101 (by decide) ?_
      refine lv_icmp_ge hx hb d_RM_init_102 (tgt := 109) (by decide) (fun _ => ?_) (fun h => absurd c102 h)
      refine lv_iload_n hx hb d_RM_init_109 rfl (lv_at hl 2 rfl) ?_
      refine lv_bipush (v := 93) hx hb d_RM_init_110 (by decide) ?_
      refine lv_icmp_le hx hb d_RM_init_112 (tgt := 120) (by decide) (fun h => absurd h c112) (fun _ => ?_)
      refine lv_bipush (v := 93) hx hb d_RM_init_115 (by decide) ?_
      refine lv_goto hx hb d_RM_init_117 (tgt := 121) (by decide) ?_
      refine va_iast hx hb hK hP hD hS 1 0 rfl rfl (i := 7) (x := 93) (vp_in_iff.mpr (by decide)) d_RM_init_121 (fun H locs hP hD hS => ?_)
      have hP : va_P D vwCl [(h0, .inr (4, [.ref q7, .ref q15, .ref q23, .ref q31, .ref q40, .ref q49, .ref q58, .ref q66, .ref q74, .ref q82])), (q7, .inl (k7, 8, .inl (upd (upd (upd (upd (upd (upd (upd (upd (fun _ => 0) 0 93) 1 93) 2 93) 3 93) 4 93) 5 93) 6 93) 7 93))), (q15, .inl (k15, 8, .inl (fun _ => 0))), (q23, .inl (k23, 8, .inl (fun _ => 0))), (q31, .inl (k31, 8, .inl (fun _ => 0))), (q40, .inl (k40, 744, .inl (fun _ => 0))), (q49, .inl (k49, 1024, .inl (fun _ => 0))), (q58, .inl (k58, 1024, .inl (fun _ => 0))), (q66, .inl (k66, 104, .inl (fun _ => 0))), (q74, .inl (k74, 104, .inl (fun _ => 0))), (q82, .inl (k82, 104, .inl (fun _ => 0)))] H := hP
      have hD : va_D A [(h0, .inr (4, [.ref q7, .ref q15, .ref q23, .ref q31, .ref q40, .ref q49, .ref q58, .ref q66, .ref q74, .ref q82])), (q7, .inl (k7, 8, .inl (upd (upd (upd (upd (upd (upd (upd (upd (fun _ => 0) 0 93) 1 93) 2 93) 3 93) 4 93) 5 93) 6 93) 7 93))), (q15, .inl (k15, 8, .inl (fun _ => 0))), (q23, .inl (k23, 8, .inl (fun _ => 0))), (q31, .inl (k31, 8, .inl (fun _ => 0))), (q40, .inl (k40, 744, .inl (fun _ => 0))), (q49, .inl (k49, 1024, .inl (fun _ => 0))), (q58, .inl (k58, 1024, .inl (fun _ => 0))), (q66, .inl (k66, 104, .inl (fun _ => 0))), (q74, .inl (k74, 104, .inl (fun _ => 0))), (q82, .inl (k82, 104, .inl (fun _ => 0)))] := hD
      refine lv_iinc (v := 8) (lv' := [(2, .int 8), (0, .ref h0), (1, .int p0)]) hx hb d_RM_init_122 hl (k := 0) rfl (by decide) (by decide) rfl (fun ls hl => ?_)
      refine lv_goto hx hb d_RM_init_125 (tgt := 89) (by decide) ?_
      refine lv_iload_n hx hb d_RM_init_89 rfl (lv_at hl 0 rfl) ?_
      refine lv_bipush (v := 8) hx hb d_RM_init_90 (by decide) ?_
      refine lv_icmp_ge hx hb d_RM_init_92 (tgt := 128) (by decide) (fun _ => ?_) (fun h => absurd (by decide) h)
      refine W.widen (k := 10) (n := 3136) (by omega) (by omega) ?_
      obtain rfl : k7 = k15 := ll_ci hK (i := 0) (j := 1) rfl rfl
      obtain rfl : k7 = k23 := ll_ci hK (i := 0) (j := 2) rfl rfl
      obtain rfl : k7 = k31 := ll_ci hK (i := 0) (j := 3) rfl rfl
      obtain rfl : k7 = k40 := ll_ci hK (i := 0) (j := 4) rfl rfl
      obtain rfl : k7 = k49 := ll_ci hK (i := 0) (j := 5) rfl rfl
      obtain rfl : k7 = k58 := ll_ci hK (i := 0) (j := 6) rfl rfl
      obtain rfl : k7 = k66 := ll_ci hK (i := 0) (j := 7) rfl rfl
      obtain rfl : k7 = k74 := ll_ci hK (i := 0) (j := 8) rfl rfl
      obtain rfl : k7 = k82 := ll_ci hK (i := 0) (j := 9) rfl rfl
      have hv9 : rm_clamp p0 = 93 := (if_pos c102).trans (if_neg c112)
      have hP := ll_i (k := 1) (fun _ => 93) hP rfl (ll_8 rfl rfl rfl rfl rfl rfl rfl rfl)
      have hD := hD.set (p := 1) (e := .inl (k7, 8, .inl (fun _ => 93))) rfl
      have hP : va_P D vwCl [(h0, .inr (4, [.ref q7, .ref q15, .ref q23, .ref q31, .ref q40, .ref q49, .ref q58, .ref q66, .ref q74, .ref q82])), (q7, .inl (k7, 8, .inl (fun _ => 93))), (q15, .inl (k7, 8, .inl (fun _ => 0))), (q23, .inl (k7, 8, .inl (fun _ => 0))), (q31, .inl (k7, 8, .inl (fun _ => 0))), (q40, .inl (k7, 744, .inl (fun _ => 0))), (q49, .inl (k7, 1024, .inl (fun _ => 0))), (q58, .inl (k7, 1024, .inl (fun _ => 0))), (q66, .inl (k7, 104, .inl (fun _ => 0))), (q74, .inl (k7, 104, .inl (fun _ => 0))), (q82, .inl (k7, 104, .inl (fun _ => 0)))] H := hP
      have hD : va_D A [(h0, .inr (4, [.ref q7, .ref q15, .ref q23, .ref q31, .ref q40, .ref q49, .ref q58, .ref q66, .ref q74, .ref q82])), (q7, .inl (k7, 8, .inl (fun _ => 93))), (q15, .inl (k7, 8, .inl (fun _ => 0))), (q23, .inl (k7, 8, .inl (fun _ => 0))), (q31, .inl (k7, 8, .inl (fun _ => 0))), (q40, .inl (k7, 744, .inl (fun _ => 0))), (q49, .inl (k7, 1024, .inl (fun _ => 0))), (q58, .inl (k7, 1024, .inl (fun _ => 0))), (q66, .inl (k7, 104, .inl (fun _ => 0))), (q74, .inl (k7, 104, .inl (fun _ => 0))), (q82, .inl (k7, 104, .inl (fun _ => 0)))] := hD
      have hP9 := hP.sub (ws' := rm_g (fun k => ([h0, q7, q15, q23, q31, q40, q49, q58, q66, q74, q82] : List Nat).getD k 0) k7 (rm_init 93)) [0, 1, 2, 3, 4, 5, 6, 7, 8, 9, 10] rfl
      have hD9 := hD.sub (ws' := rm_g (fun k => ([h0, q7, q15, q23, q31, q40, q49, q58, q66, q74, q82] : List Nat).getD k 0) k7 (rm_init 93)) [0, 1, 2, 3, 4, 5, 6, 7, 8, 9, 10] (by decide) rfl
      have hK9 := hK.sub (tys' := rm_T k7) [0] rfl
      subst hAe
      exact W.vret hx hb hr (fun t ht hW => ⟨⟨((fun k => ([h0, q7, q15, q23, q31, q40, q49, q58, q66, q74, q82] : List Nat).getD k 0), k7), rfl, trivial, rfl, (by show va_P D vwCl _ t.heap; rw [ht, hv9]; exact hP9), va_K.moved hW.alike hK9, (by rw [hv9]; exact hD9)⟩, hS.F ht⟩) hS.2.2 d_RM_init_128 hlk
  · refine lv_iconst (v := 1) hx hb d_RM_init_105 (by decide) ?_
    refine lv_goto hx hb d_RM_init_106 (tgt := 121) (by decide) ?_
    refine va_iast hx hb hK hP hD hS 1 0 rfl rfl (i := 0) (x := 1) (vp_in_iff.mpr (by decide)) d_RM_init_121 (fun H locs hP hD hS => ?_)
    have hP : va_P D vwCl [(h0, .inr (4, [.ref q7, .ref q15, .ref q23, .ref q31, .ref q40, .ref q49, .ref q58, .ref q66, .ref q74, .ref q82])), (q7, .inl (k7, 8, .inl (upd (fun _ => 0) 0 1))), (q15, .inl (k15, 8, .inl (fun _ => 0))), (q23, .inl (k23, 8, .inl (fun _ => 0))), (q31, .inl (k31, 8, .inl (fun _ => 0))), (q40, .inl (k40, 744, .inl (fun _ => 0))), (q49, .inl (k49, 1024, .inl (fun _ => 0))), (q58, .inl (k58, 1024, .inl (fun _ => 0))), (q66, .inl (k66, 104, .inl (fun _ => 0))), (q74, .inl (k74, 104, .inl (fun _ => 0))), (q82, .inl (k82, 104, .inl (fun _ => 0)))] H := hP
    have hD : va_D A [(h0, .inr (4, [.ref q7, .ref q15, .ref q23, .ref q31, .ref q40, .ref q49, .ref q58, .ref q66, .ref q74, .ref q82])), (q7, .inl (k7, 8, .inl (upd (fun _ => 0) 0 1))), (q15, .inl (k15, 8, .inl (fun _ => 0))), (q23, .inl (k23, 8, .inl (fun _ => 0))), (q31, .inl (k31, 8, .inl (fun _ => 0))), (q40, .inl (k40, 744, .inl (fun _ => 0))), (q49, .inl (k49, 1024, .inl (fun _ => 0))), (q58, .inl (k58, 1024, .inl (fun _ => 0))), (q66, .inl (k66, 104, .inl (fun _ => 0))), (q74, .inl (k74, 104, .inl (fun _ => 0))), (q82, .inl (k82, 104, .inl (fun _ => 0)))] := hD
    refine lv_iinc (v := 1) (lv' := [(2, .int 1), (0, .ref h0), (1, .int p0)]) hx hb d_RM_init_122 hl (k := 0) rfl (by decide) (by decide) rfl (fun ls hl => ?_)
    refine lv_goto hx hb d_RM_init_125 (tgt := 89) (by decide) ?_
    refine lv_iload_n hx hb d_RM_init_89 rfl (lv_at hl 0 rfl) ?_
    refine lv_bipush (v := 8) hx hb d_RM_init_90 (by decide) ?_
    refine lv_icmp_ge hx hb d_RM_init_92 (tgt := 128) (by decide) (fun h => absurd h (by decide)) (fun _ => ?_)
    refine lv_aload_n hx hb d_RM_init_95 rfl (lv_at hl 1 rfl) ?_
    refine va_get (D := D) (ci := 4) (v := .ref q7) (C := cn_RM) (T := ft_RM) (N := 10) hx hb htb ly_RM hown hK hP 0 rfl rfl 0 (by decide) (htb _ mw_259) (fun _ h9 => h9) rfl d_RM_init_96 ?_
    refine lv_iload_n hx hb d_RM_init_99 rfl (lv_at hl 0 rfl) ?_
    refine lv_iload_n hx hb d_RM_init_100 rfl (lv_at hl 2 rfl) ?_
    refine lv_iconst (v := 1) hx hb d_RM_init_101 (by decide) ?_
    refine lv_icmp_ge hx hb d_RM_init_102 (tgt := 109) (by decide) (fun h => absurd h c102) (fun _ => ?_)
    refine lv_iconst (v := 1) hx hb d_RM_init_105 (by decide) ?_
    refine lv_goto hx hb d_RM_init_106 (tgt := 121) (by decide) ?_
    refine va_iast hx hb hK hP hD hS 1 0 rfl rfl (i := 1) (x := 1) (vp_in_iff.mpr (by decide)) d_RM_init_121 (fun H locs hP hD hS => ?_)
    have hP : va_P D vwCl [(h0, .inr (4, [.ref q7, .ref q15, .ref q23, .ref q31, .ref q40, .ref q49, .ref q58, .ref q66, .ref q74, .ref q82])), (q7, .inl (k7, 8, .inl (upd (upd (fun _ => 0) 0 1) 1 1))), (q15, .inl (k15, 8, .inl (fun _ => 0))), (q23, .inl (k23, 8, .inl (fun _ => 0))), (q31, .inl (k31, 8, .inl (fun _ => 0))), (q40, .inl (k40, 744, .inl (fun _ => 0))), (q49, .inl (k49, 1024, .inl (fun _ => 0))), (q58, .inl (k58, 1024, .inl (fun _ => 0))), (q66, .inl (k66, 104, .inl (fun _ => 0))), (q74, .inl (k74, 104, .inl (fun _ => 0))), (q82, .inl (k82, 104, .inl (fun _ => 0)))] H := hP
    have hD : va_D A [(h0, .inr (4, [.ref q7, .ref q15, .ref q23, .ref q31, .ref q40, .ref q49, .ref q58, .ref q66, .ref q74, .ref q82])), (q7, .inl (k7, 8, .inl (upd (upd (fun _ => 0) 0 1) 1 1))), (q15, .inl (k15, 8, .inl (fun _ => 0))), (q23, .inl (k23, 8, .inl (fun _ => 0))), (q31, .inl (k31, 8, .inl (fun _ => 0))), (q40, .inl (k40, 744, .inl (fun _ => 0))), (q49, .inl (k49, 1024, .inl (fun _ => 0))), (q58, .inl (k58, 1024, .inl (fun _ => 0))), (q66, .inl (k66, 104, .inl (fun _ => 0))), (q74, .inl (k74, 104, .inl (fun _ => 0))), (q82, .inl (k82, 104, .inl (fun _ => 0)))] := hD
    refine lv_iinc (v := 2) (lv' := [(2, .int 2), (0, .ref h0), (1, .int p0)]) hx hb d_RM_init_122 hl (k := 0) rfl (by decide) (by decide) rfl (fun ls hl => ?_)
    refine lv_goto hx hb d_RM_init_125 (tgt := 89) (by decide) ?_
    refine lv_iload_n hx hb d_RM_init_89 rfl (lv_at hl 0 rfl) ?_
    refine lv_bipush (v := 8) hx hb d_RM_init_90 (by decide) ?_
    refine lv_icmp_ge hx hb d_RM_init_92 (tgt := 128) (by decide) (fun h => absurd h (by decide)) (fun _ => ?_)
    refine lv_aload_n hx hb d_RM_init_95 rfl (lv_at hl 1 rfl) ?_
    refine va_get (D := D) (ci := 4) (v := .ref q7) (C := cn_RM) (T := ft_RM) (N := 10) hx hb htb ly_RM hown hK hP 0 rfl rfl 0 (by decide) (htb _ mw_259) (fun _ h9 => h9) rfl d_RM_init_96 ?_
    refine lv_iload_n hx hb d_RM_init_99 rfl (lv_at hl 0 rfl) ?_
    refine lv_iload_n hx hb d_RM_init_100 rfl (lv_at hl 2 rfl) ?_
    refine lv_iconst (v := 1) hx hb d_RM_init_101 (by decide) ?_
    refine lv_icmp_ge hx hb d_RM_init_102 (tgt := 109) (by decide) (fun h => absurd h c102) (fun _ => ?_)
    refine lv_iconst (v := 1) hx hb d_RM_init_105 (by decide) ?_
    refine lv_goto hx hb d_RM_init_106 (tgt := 121) (by decide) ?_
    refine va_iast hx hb hK hP hD hS 1 0 rfl rfl (i := 2) (x := 1) (vp_in_iff.mpr (by decide)) d_RM_init_121 (fun H locs hP hD hS => ?_)
    have hP : va_P D vwCl [(h0, .inr (4, [.ref q7, .ref q15, .ref q23, .ref q31, .ref q40, .ref q49, .ref q58, .ref q66, .ref q74, .ref q82])), (q7, .inl (k7, 8, .inl (upd (upd (upd (fun _ => 0) 0 1) 1 1) 2 1))), (q15, .inl (k15, 8, .inl (fun _ => 0))), (q23, .inl (k23, 8, .inl (fun _ => 0))), (q31, .inl (k31, 8, .inl (fun _ => 0))), (q40, .inl (k40, 744, .inl (fun _ => 0))), (q49, .inl (k49, 1024, .inl (fun _ => 0))), (q58, .inl (k58, 1024, .inl (fun _ => 0))), (q66, .inl (k66, 104, .inl (fun _ => 0))), (q74, .inl (k74, 104, .inl (fun _ => 0))), (q82, .inl (k82, 104, .inl (fun _ => 0)))] H := hP
    have hD : va_D A [(h0, .inr (4, [.ref q7, .ref q15, .ref q23, .ref q31, .ref q40, .ref q49, .ref q58, .ref q66, .ref q74, .ref q82])), (q7, .inl (k7, 8, .inl (upd (upd (upd (fun _ => 0) 0 1) 1 1) 2 1))), (q15, .inl (k15, 8, .inl (fun _ => 0))), (q23, .inl (k23, 8, .inl (fun _ => 0))), (q31, .inl (k31, 8, .inl (fun _ => 0))), (q40, .inl (k40, 744, .inl (fun _ => 0))), (q49, .inl (k49, 1024, .inl (fun _ => 0))), (q58, .inl (k58, 1024, .inl (fun _ => 0))), (q66, .inl (k66, 104, .inl (fun _ => 0))), (q74, .inl (k74, 104, .inl (fun _ => 0))), (q82, .inl (k82, 104, .inl (fun _ => 0)))] := hD
    refine lv_iinc (v := 3) (lv' := [(2, .int 3), (0, .ref h0), (1, .int p0)]) hx hb d_RM_init_122 hl (k := 0) rfl (by decide) (by decide) rfl (fun ls hl => ?_)
    refine lv_goto hx hb d_RM_init_125 (tgt := 89) (by decide) ?_
    refine lv_iload_n hx hb d_RM_init_89 rfl (lv_at hl 0 rfl) ?_
    refine lv_bipush (v := 8) hx hb d_RM_init_90 (by decide) ?_
    refine lv_icmp_ge hx hb d_RM_init_92 (tgt := 128) (by decide) (fun h => absurd h (by decide)) (fun _ => ?_)
    refine lv_aload_n hx hb d_RM_init_95 rfl (lv_at hl 1 rfl) ?_
    refine va_get (D := D) (ci := 4) (v := .ref q7) (C := cn_RM) (T := ft_RM) (N := 10) hx hb htb ly_RM hown hK hP 0 rfl rfl 0 (by decide) (htb _ mw_259) (fun _ h9 => h9) rfl d_RM_init_96 ?_
    refine lv_iload_n hx hb d_RM_init_99 rfl (lv_at hl 0 rfl) ?_
    refine lv_iload_n hx hb d_RM_init_100 rfl (lv_at hl 2 rfl) ?_
    refine lv_iconst (v := 1) hx hb d_RM_init_101 (by decide) ?_
    refine lv_icmp_ge hx hb d_RM_init_102 (tgt := 109) (by decide) (fun h => absurd h c102) (fun _ => ?_)
    refine lv_iconst (v := 1) hx hb d_RM_init_105 (by decide) ?_
    refine lv_goto hx hb d_RM_init_106 (tgt := 121) (by decide) ?_
    refine va_iast hx hb hK hP hD hS 1 0 rfl rfl (i := 3) (x := 1) (vp_in_iff.mpr (by decide)) d_RM_init_121 (fun H locs hP hD hS => ?_)
    have hP : va_P D vwCl [(h0, .inr (4, [.ref q7, .ref q15, .ref q23, .ref q31, .ref q40, .ref q49, .ref q58, .ref q66, .ref q74, .ref q82])), (q7, .inl (k7, 8, .inl (upd (upd (upd (upd (fun _ => 0) 0 1) 1 1) 2 1) 3 1))), (q15, .inl (k15, 8, .inl (fun _ => 0))), (q23, .inl (k23, 8, .inl (fun _ => 0))), (q31, .inl (k31, 8, .inl (fun _ => 0))), (q40, .inl (k40, 744, .inl (fun _ => 0))), (q49, .inl (k49, 1024, .inl (fun _ => 0))), (q58, .inl (k58, 1024, .inl (fun _ => 0))), (q66, .inl (k66, 104, .inl (fun _ => 0))), (q74, .inl (k74, 104, .inl (fun _ => 0))), (q82, .inl (k82, 104, .inl (fun _ => 0)))] H := hP
    have hD : va_D A [(h0, .inr (4, [.ref q7, .ref q15, .ref q23, .ref q31, .ref q40, .ref q49, .ref q58, .ref q66, .ref q74, .ref q82])), (q7, .inl (k7, 8, .inl (upd (upd (upd (upd (fun _ => 0) 0 1) 1 1) 2 1) 3 1))), (q15, .inl (k15, 8, .inl (fun _ => 0))), (q23, .inl (k23, 8, .inl (fun _ => 0))), (q31, .inl (k31, 8, .inl (fun _ => 0))), (q40, .inl (k40, 744, .inl (fun _ => 0))), (q49, .inl (k49, 1024, .inl (fun _ => 0))), (q58, .inl (k58, 1024, .inl (fun _ => 0))), (q66, .inl (k66, 104, .inl (fun _ => 0))), (q74, .inl (k74, 104, .inl (fun _ => 0))), (q82, .inl (k82, 104, .inl (fun _ => 0)))] := hD
    refine lv_iinc (v := 4) (lv' := [(2, .int 4), (0, .ref h0), (1, .int p0)]) hx hb d_RM_init_122 hl (k := 0) rfl (by decide) (by decide) rfl (fun ls hl => ?_)
    refine lv_goto hx hb d_RM_init_125 (tgt := 89) (by decide) ?_
    refine lv_iload_n hx hb d_RM_init_89 rfl (lv_at hl 0 rfl) ?_
    refine lv_bipush (v := 8) hx hb d_RM_init_90 (by decide) ?_
    refine lv_icmp_ge hx hb d_RM_init_92 (tgt := 128) (by decide) (fun h => absurd h (by decide)) (fun _ => ?_)
    refine lv_aload_n hx hb d_RM_init_95 rfl (lv_at hl 1 rfl) ?_
    refine va_get (D := D) (ci := 4) (v := .ref q7) (C := cn_RM) (T := ft_RM) (N := 10) hx hb htb ly_RM hown hK hP 0 rfl rfl 0 (by decide) (htb _ mw_259) (fun _ h9 => h9) rfl d_RM_init_96 ?_
    refine lv_iload_n hx hb d_RM_init_99 rfl (lv_at hl 0 rfl) ?_
    refine lv_iload_n hx hb d_RM_init_100 rfl (lv_at hl 2 rfl) ?_
    refine lv_iconst (v := 1) hx hb d_RM_init_101 (by decide) ?_
    refine lv_icmp_ge hx hb d_RM_init_102 (tgt := 109) (by decide) (fun h => absurd h c102) (fun _ => ?_)
    refine lv_iconst (v := 1) hx hb d_RM_init_105 (by decide) ?_
    refine lv_goto hx hb d_RM_init_106 (tgt := 121) (by decide) ?_
    refine va_iast hx hb hK hP hD hS 1 0 rfl rfl (i := 4) (x := 1) (vp_in_iff.mpr (by decide)) d_RM_init_121 (fun H locs hP hD hS => ?_)
    have hP : va_P D vwCl [(h0, .inr (4, [.ref q7, .ref q15, .ref q23, .ref q31, .ref q40, .ref q49, .ref q58, .ref q66, .ref q74, .ref q82])), (q7, .inl (k7, 8, .inl (upd (upd (upd (upd (upd (fun _ => 0) 0 1) 1 1) 2 1) 3 1) 4 1))), (q15, .inl (k15, 8, .inl (fun _ => 0))), (q23, .inl (k23, 8, .inl (fun _ => 0))), (q31, .inl (k31, 8, .inl (fun _ => 0))), (q40, .inl (k40, 744, .inl (fun _ => 0))), (q49, .inl (k49, 1024, .inl (fun _ => 0))), (q58, .inl (k58, 1024, .inl (fun _ => 0))), (q66, .inl (k66, 104, .inl (fun _ => 0))), (q74, .inl (k74, 104, .inl (fun _ => 0))), (q82, .inl (k82, 104, .inl (fun _ => 0)))] H := hP
    have hD : va_D A [(h0, .inr (4, [.ref q7, .ref q15, .ref q23, .ref q31, .ref q40, .ref q49, .ref q58, .ref q66, .ref q74, .ref q82])), (q7, .inl (k7, 8, .inl (upd (upd (upd (upd (upd (fun _ => 0) 0 1) 1 1) 2 1) 3 1) 4 1))), (q15, .inl (k15, 8, .inl (fun _ => 0))), (q23, .inl (k23, 8, .inl (fun _ => 0))), (q31, .inl (k31, 8, .inl (fun _ => 0))), (q40, .inl (k40, 744, .inl (fun _ => 0))), (q49, .inl (k49, 1024, .inl (fun _ => 0))), (q58, .inl (k58, 1024, .inl (fun _ => 0))), (q66, .inl (k66, 104, .inl (fun _ => 0))), (q74, .inl (k74, 104, .inl (fun _ => 0))), (q82, .inl (k82, 104, .inl (fun _ => 0)))] := hD
    refine lv_iinc (v := 5) (lv' := [(2, .int 5), (0, .ref h0), (1, .int p0)]) hx hb d_RM_init_122 hl (k := 0) rfl (by decide) (by decide) rfl (fun ls hl => ?_)
    refine lv_goto hx hb d_RM_init_125 (tgt := 89) (by decide) ?_
    refine lv_iload_n hx hb d_RM_init_89 rfl (lv_at hl 0 rfl) ?_
    refine lv_bipush (v := 8) hx hb d_RM_init_90 (by decide) ?_
    refine lv_icmp_ge hx hb d_RM_init_92 (tgt := 128) (by decide) (fun h => absurd h (by decide)) (fun _ => ?_)
    refine lv_aload_n hx hb d_RM_init_95 rfl (lv_at hl 1 rfl) ?_
    refine va_get (D := D) (ci := 4) (v := .ref q7) (C := cn_RM) (T := ft_RM) (N := 10) hx hb htb ly_RM hown hK hP 0 rfl rfl 0 (by decide) (htb _ mw_259) (fun _ h9 => h9) rfl d_RM_init_96 ?_
    refine lv_iload_n hx hb d_RM_init_99 rfl (lv_at hl 0 rfl) ?_
    refine lv_iload_n hx hb d_RM_init_100 rfl (lv_at hl 2 rfl) ?_
    refine lv_iconst (v := 1) hx hb d_RM_init_101 (by decide) ?_
    refine lv_icmp_ge hx hb d_RM_init_102 (tgt := 109) (by decide) (fun h => absurd h c102) (fun _ => ?_)
    refine lv_iconst (v := 1) hx hb d_RM_init_105 (by decide) ?_
    refine lv_goto hx hb d_RM_init_106 (tgt := 121) (by decide) ?_
    refine va_iast hx hb hK hP hD hS 1 0 rfl rfl (i := 5) (x := 1) (vp_in_iff.mpr (by decide)) d_RM_init_121 (fun H locs hP hD hS => ?_)
    have hP : va_P D vwCl [(h0, .inr (4, [.ref q7, .ref q15, .ref q23, .ref q31, .ref q40, .ref q49, .ref q58, .ref q66, .ref q74, .ref q82])), (q7, .inl (k7, 8, .inl (upd (upd (upd (upd (upd (upd (fun _ => 0) 0 1) 1 1) 2 1) 3 1) 4 1) 5 1))), (q15, .inl (k15, 8, .inl (fun _ => 0))), (q23, .inl (k23, 8, .inl (fun _ => 0))), (q31, .inl (k31, 8, .inl (fun _ => 0))), (q40, .inl (k40, 744, .inl (fun _ => 0))), (q49, .inl (k49, 1024, .inl (fun _ => 0))), (q58, .inl (k58, 1024, .inl (fun _ => 0))), (q66, .inl (k66, 104, .inl (fun _ => 0))), (q74, .inl (k74, 104, .inl (fun _ => 0))), (q82, .inl (k82, 104, .inl (fun _ => 0)))] H := hP
    have hD : va_D A [(h0, .inr (4, [.ref q7, .ref q15, .ref q23, .ref q31, .ref q40, .ref q49, .ref q58, .ref q66, .ref q74, .ref q82])), (q7, .inl (k7, 8, .inl (upd (upd (upd (upd (upd (upd (fun _ => 0) 0 1) 1 1) 2 1) 3 1) 4 1) 5 1))), (q15, .inl (k15, 8, .inl (fun _ => 0))), (q23, .inl (k23, 8, .inl (fun _ => 0))), (q31, .inl (k31, 8, .inl (fun _ => 0))), (q40, .inl (k40, 744, .inl (fun _ => 0))), (q49, .inl (k49, 1024, .inl (fun _ => 0))), (q58, .inl (k58, 1024, .inl (fun _ => 0))), (q66, .inl (k66, 104, .inl (fun _ => 0))), (q74, .inl (k74, 104, .inl (fun _ => 0))), (q82, .inl (k82, 104, .inl (fun _ => 0)))] := hD
    refine lv_iinc (v := 6) (lv' := [(2, .int 6), (0, .ref h0), (1, .int p0)]) hx hb d_RM_init_122 hl (k := 0) rfl (by decide) (by decide) rfl (fun ls hl => ?_)
    refine lv_goto hx hb d_RM_init_125 (tgt := 89) (by decide) ?_
    refine lv_iload_n hx hb d_RM_init_89 rfl (lv_at hl 0 rfl) ?_
    refine lv_bipush (v := 8) hx hb d_RM_init_90 (by decide) ?_
    refine lv_icmp_ge hx hb d_RM_init_92 (tgt := 128) (by decide) (fun h => absurd h (by decide)) (fun _ => ?_)
    refine lv_aload_n hx hb d_RM_init_95 rfl (lv_at hl 1 rfl) ?_
    refine va_get (D := D) (ci := 4) (v := .ref q7) (C := cn_RM) (T := ft_RM) (N := 10) hx hb htb ly_RM hown hK hP 0 rfl rfl 0 (by decide) (htb _ mw_259) (fun _ h9 => h9) rfl d_RM_init_96 ?_
    refine lv_iload_n hx hb d_RM_init_99 rfl (lv_at hl 0 rfl) ?_
    refine lv_iload_n hx hb d_RM_init_100 rfl (lv_at hl 2 rfl) ?_
    refine lv_iconst (v := 1) hx hb d_RM_init_101 (by decide) ?_
    refine lv_icmp_ge hx hb d_RM_init_102 (tgt := 109) (by decide) (fun h => absurd h c102) (fun _ => ?_)
    refine lv_iconst (v := 1) hx hb d_RM_init_105 (by decide) ?_
    refine lv_goto hx hb d_RM_init_106 (tgt := 121) (by decide) ?_
    refine va_iast hx hb hK hP hD hS 1 0 rfl rfl (i := 6) (x := 1) (vp_in_iff.mpr (by decide)) d_RM_init_121 (fun H locs hP hD hS => ?_)
    have hP : va_P D vwCl [(h0, .inr (4, [.ref q7, .ref q15, .ref q23, .ref q31, .ref q40, .ref q49, .ref q58, .ref q66, .ref q74, .ref q82])), (q7, .inl (k7, 8, .inl (upd (upd (upd (upd (upd (upd (upd (fun _ => 0) 0 1) 1 1) 2 1) 3 1) 4 1) 5 1) 6 1))), (q15, .inl (k15, 8, .inl (fun _ => 0))), (q23, .inl (k23, 8, .inl (fun _ => 0))), (q31, .inl (k31, 8, .inl (fun _ => 0))), (q40, .inl (k40, 744, .inl (fun _ => 0))), (q49, .inl (k49, 1024, .inl (fun _ => 0))), (q58, .inl (k58, 1024, .inl (fun _ => 0))), (q66, .inl (k66, 104, .inl (fun _ => 0))), (q74, .inl (k74, 104, .inl (fun _ => 0))), (q82, .inl (k82, 104, .inl (fun _ => 0)))] H := hP
    have hD : va_D A [(h0, .inr (4, [.ref q7, .ref q15, .ref q23, .ref q31, .ref q40, .ref q49, .ref q58, .ref q66, .ref q74, .ref q82])), (q7, .inl (k7, 8, .inl (upd (upd (upd (upd (upd (upd (upd (fun _ => 0) 0 1) 1 1) 2 1) 3 1) 4 1) 5 1) 6 1))), (q15, .inl (k15, 8, .inl (fun _ => 0))), (q23, .inl (k23, 8, .inl (fun _ => 0))), (q31, .inl (k31, 8, .inl (fun _ => 0))), (q40, .inl (k40, 744, .inl (fun _ => 0))), (q49, .inl (k49, 1024, .inl (fun _ => 0))), (q58, .inl (k58, 1024, .inl (fun _ => 0))), (q66, .inl (k66, 104, .inl (fun _ => 0))), (q74, .inl (k74, 104, .inl (fun _ => 0))), (q82, .inl (k82, 104, .inl (fun _ => 0)))] := hD
    refine lv_iinc (v := 7) (lv' := [(2, .int 7), (0, .ref h0), (1, .int p0)]) hx hb d_RM_init_122 hl (k := 0) rfl (by decide) (by decide) rfl (fun ls hl => ?_)
    refine lv_goto hx hb d_RM_init_125 (tgt := 89) (by decide) ?_
    refine lv_iload_n hx hb d_RM_init_89 rfl (lv_at hl 0 rfl) ?_
    refine lv_bipush (v := 8) hx hb d_RM_init_90 (by decide) ?_
    refine lv_icmp_ge hx hb d_RM_init_92 (tgt := 128) (by decide) (fun h => absurd h (by decide)) (fun _ => ?_)
    refine lv_aload_n hx hb d_RM_init_95 rfl (lv_at hl 1 rfl) ?_
    refine va_get (D := D) (ci := 4) (v := .ref q7) (C := cn_RM) (T := ft_RM) (N := 10) hx hb htb ly_RM hown hK hP 0 rfl rfl 0 (by decide) (htb _ mw_259) (fun _ h9 => h9) rfl d_RM_init_96 ?_
    refine lv_iload_n hx hb d_RM_init_99 rfl (lv_at hl 0 rfl) ?_
    refine lv_iload_n hx hb d_RM_init_100 rfl (lv_at hl 2 rfl) ?_
    refine lv_iconst (v := 1) hx hb d_RM_init_101 (by decide) ?_
    refine lv_icmp_ge hx hb d_RM_init_102 (tgt := 109) (by decide) (fun h => absurd h c102) (fun _ => ?_)
    refine lv_iconst (v := 1) hx hb d_RM_init_105 (by decide) ?_
    refine lv_goto hx hb d_RM_init_106 (tgt := 121) (by decide) ?_
    refine va_iast hx hb hK hP hD hS 1 0 rfl rfl (i := 7) (x := 1) (vp_in_iff.mpr (by decide)) d_RM_init_121 (fun H locs hP hD hS => ?_)
    have hP : va_P D vwCl [(h0, .inr (4, [.ref q7, .ref q15, .ref q23, .ref q31, .ref q40, .ref q49, .ref q58, .ref q66, .ref q74, .ref q82])), (q7, .inl (k7, 8, .inl (upd (upd (upd (upd (upd (upd (upd (upd (fun _ => 0) 0 1) 1 1) 2 1) 3 1) 4 1) 5 1) 6 1) 7 1))), (q15, .inl (k15, 8, .inl (fun _ => 0))), (q23, .inl (k23, 8, .inl (fun _ => 0))), (q31, .inl (k31, 8, .inl (fun _ => 0))), (q40, .inl (k40, 744, .inl (fun _ => 0))), (q49, .inl (k49, 1024, .inl (fun _ => 0))), (q58, .inl (k58, 1024, .inl (fun _ => 0))), (q66, .inl (k66, 104, .inl (fun _ => 0))), (q74, .inl (k74, 104, .inl (fun _ => 0))), (q82, .inl (k82, 104, .inl (fun _ => 0)))] H := hP
    have hD : va_D A [(h0, .inr (4, [.ref q7, .ref q15, .ref q23, .ref q31, .ref q40, .ref q49, .ref q58, .ref q66, .ref q74, .ref q82])), (q7, .inl (k7, 8, .inl (upd (upd (upd (upd (upd (upd (upd (upd (fun _ => 0) 0 1) 1 1) 2 1) 3 1) 4 1) 5 1) 6 1) 7 1))), (q15, .inl (k15, 8, .inl (fun _ => 0))), (q23, .inl (k23, 8, .inl (fun _ => 0))), (q31, .inl (k31, 8, .inl (fun _ => 0))), (q40, .inl (k40, 744, .inl (fun _ => 0))), (q49, .inl (k49, 1024, .inl (fun _ => 0))), (q58, .inl (k58, 1024, .inl (fun _ => 0))), (q66, .inl (k66, 104, .inl (fun _ => 0))), (q74, .inl (k74, 104, .inl (fun _ => 0))), (q82, .inl (k82, 104, .inl (fun _ => 0)))] := hD
    refine lv_iinc (v := 8) (lv' := [(2, .int 8), (0, .ref h0), (1, .int p0)]) hx hb d_RM_init_122 hl (k := 0) rfl (by decide) (by decide) rfl (fun ls hl => ?_)
    refine lv_goto hx hb d_RM_init_125 (tgt := 89) (by decide) ?_
    refine lv_iload_n hx hb d_RM_init_89 rfl (lv_at hl 0 rfl) ?_
    refine lv_bipush (v := 8) hx hb d_RM_init_90 (by decide) ?_
    refine lv_icmp_ge hx hb d_RM_init_92 (tgt := 128) (by decide) (fun _ => ?_) (fun h => absurd (by decide) h)
    refine W.widen (k := 10) (n := 3136) (by omega) (by omega) ?_
    obtain rfl : k7 = k15 := ll_ci hK (i := 0) (j := 1) rfl rfl
    obtain rfl : k7 = k23 := ll_ci hK (i := 0) (j := 2) rfl rfl
    obtain rfl : k7 = k31 := ll_ci hK (i := 0) (j := 3) rfl rfl
    obtain rfl : k7 = k40 := ll_ci hK (i := 0) (j := 4) rfl rfl
    obtain rfl : k7 = k49 := ll_ci hK (i := 0) (j := 5) rfl rfl
    obtain rfl : k7 = k58 := ll_ci hK (i := 0) (j := 6) rfl rfl
    obtain rfl : k7 = k66 := ll_ci hK (i := 0) (j := 7) rfl rfl
    obtain rfl : k7 = k74 := ll_ci hK (i := 0) (j := 8) rfl rfl
    obtain rfl : k7 = k82 := ll_ci hK (i := 0) (j := 9) rfl rfl
    have hv9 : rm_clamp p0 = 1 := if_neg c102
    have hP := ll_i (k := 1) (fun _ => 1) hP rfl (ll_8 rfl rfl rfl rfl rfl rfl rfl rfl)
    have hD := hD.set (p := 1) (e := .inl (k7, 8, .inl (fun _ => 1))) rfl
    have hP : va_P D vwCl [(h0, .inr (4, [.ref q7, .ref q15, .ref q23, .ref q31, .ref q40, .ref q49, .ref q58, .ref q66, .ref q74, .ref q82])), (q7, .inl (k7, 8, .inl (fun _ => 1))), (q15, .inl (k7, 8, .inl (fun _ => 0))), (q23, .inl (k7, 8, .inl (fun _ => 0))), (q31, .inl (k7, 8, .inl (fun _ => 0))), (q40, .inl (k7, 744, .inl (fun _ => 0))), (q49, .inl (k7, 1024, .inl (fun _ => 0))), (q58, .inl (k7, 1024, .inl (fun _ => 0))), (q66, .inl (k7, 104, .inl (fun _ => 0))), (q74, .inl (k7, 104, .inl (fun _ => 0))), (q82, .inl (k7, 104, .inl (fun _ => 0)))] H := hP
    have hD : va_D A [(h0, .inr (4, [.ref q7, .ref q15, .ref q23, .ref q31, .ref q40, .ref q49, .ref q58, .ref q66, .ref q74, .ref q82])), (q7, .inl (k7, 8, .inl (fun _ => 1))), (q15, .inl (k7, 8, .inl (fun _ => 0))), (q23, .inl (k7, 8, .inl (fun _ => 0))), (q31, .inl (k7, 8, .inl (fun _ => 0))), (q40, .inl (k7, 744, .inl (fun _ => 0))), (q49, .inl (k7, 1024, .inl (fun _ => 0))), (q58, .inl (k7, 1024, .inl (fun _ => 0))), (q66, .inl (k7, 104, .inl (fun _ => 0))), (q74, .inl (k7, 104, .inl (fun _ => 0))), (q82, .inl (k7, 104, .inl (fun _ => 0)))] := hD
    have hP9 := hP.sub (ws' := rm_g (fun k => ([h0, q7, q15, q23, q31, q40, q49, q58, q66, q74, q82] : List Nat).getD k 0) k7 (rm_init 1)) [0, 1, 2, 3, 4, 5, 6, 7, 8, 9, 10] rfl
    have hD9 := hD.sub (ws' := rm_g (fun k => ([h0, q7, q15, q23, q31, q40, q49, q58, q66, q74, q82] : List Nat).getD k 0) k7 (rm_init 1)) [0, 1, 2, 3, 4, 5, 6, 7, 8, 9, 10] (by decide) rfl
    have hK9 := hK.sub (tys' := rm_T k7) [0] rfl
    subst hAe
    exact W.vret hx hb hr (fun t ht hW => ⟨⟨((fun k => ([h0, q7, q15, q23, q31, q40, q49, q58, q66, q74, q82] : List Nat).getD k 0), k7), rfl, trivial, rfl, (by show va_P D vwCl _ t.heap; rw [ht, hv9]; exact hP9), va_K.moved hW.alike hK9, (by rw [hv9]; exact hD9)⟩, hS.F ht⟩) hS.2.2 d_RM_init_128 hlk
