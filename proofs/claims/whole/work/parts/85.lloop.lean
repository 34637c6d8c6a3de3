theorem dq_0 : decode method_2_code 0 = .ok (.iload_n 1, 1) := by decide +kernel
theorem dq_1 : decode method_2_code 1 = .ok (.aload_n 0, 1) := by decide +kernel
theorem dq_2 : decode method_2_code 2 = .ok (.arraylength, 1) := by decide +kernel
theorem dq_3 : decode method_2_code 3 = .ok (.if_icmp .ge 9, 3) := by decide +kernel
theorem dq_6 : decode method_2_code 6 = .ok (.aload_n 0, 1) := by decide +kernel
theorem dq_7 : decode method_2_code 7 = .ok (.iload_n 1, 1) := by decide +kernel
theorem dq_8 : decode method_2_code 8 = .ok (.iaload, 1) := by decide +kernel
theorem dq_9 : decode method_2_code 9 = .ok (.goto 4, 3) := by decide +kernel
theorem dq_12 : decode method_2_code 12 = .ok (.iconst 0, 1) := by decide +kernel
theorem dq_13 : decode method_2_code 13 = .ok (.ireturn, 1) := by decide +kernel
def lw_c0 (L : Nat) (xs : Nat → Int32) : Int32 := if L = 0 then 0 else xs 0
set_option maxHeartbeats 4000000 in
set_option maxRecDepth 100000 in
theorem c_LL_cell (l : Launch) (b L sz : Nat) (xs : Nat → Int32) (hL : L < 2147483648) : Met l ⟨"RoundedNumbersLaw", "cell", "([II)I"⟩ (.code ⟨"RoundedNumbersLaw", "cell", "([II)I"⟩ method_2_code 2 (some .int) :: ct_T) { frames := 0, cells := 0, slots := 0, locals := 0 } (va_Pc [.ref b, .int 0] (fun U => U.heap.size = sz ∧ va_X b L xs U U.heap)) (va_Qi (fun r (_ : Unit) => r = lw_c0 L xs) (fun _ _ => True) (fun q => sz ≤ q)) 0 0 (fun q => sz ≤ q) := by
  refine Met.ofW (cc := method_2_code) (maxL := 2) (ret := some .int) (by decide) rfl ?_
  intro p e s m args below meth c s₁ B hml hv
  obtain ⟨rfl, hsz, hX⟩ := hv
  have hx := B.exec
  have hb := B.bytes
  have hr := B.returns
  have hlk := B.notSynchronized
  subst hsz
  have hbl : b < s.heap.size := by
    obtain ⟨scr, h1, -⟩ := hX
    exact (Array.getElem?_eq_some_iff.mp h1).1
  have hS : va_S (fun q => s.heap.size ≤ q) s.heap s.heap [] := va_S.rf
  have hbA : ¬ s.heap.size ≤ b := by omega
  have hl := lv_entry ([.ref b, .int 0]) (n := 2) (Nat.le_of_ble_eq_true rfl)
  rw [lg_entry_eq]
  generalize (lg_sl ([.ref b, .int 0]) ++ List.replicate (2 - (lg_sl ([.ref b, .int 0])).length) Slot.unset).toArray = ls at hl ⊢
  have hl : lv_has ls 2 [(0, .ref b), (1, .int 0)] := hl
  refine lv_iload_n hx hb dq_0 rfl (lv_at hl 1 rfl) ?_
  refine lv_aload_n hx hb dq_1 rfl (lv_at hl 0 rfl) ?_
  refine va_slen hx hb hX hbl hbA hS dq_2 ?_
  have hc : (Int32.ofNat L ≤ (0 : Int32)) ↔ L = 0 := by
    have h1 := nI_leI (a := L) (b := 0) (by omega) (by omega)
    exact h1.trans (by omega)
  refine lv_icmp_ge hx hb dq_3 (tgt := 12) (by decide) (fun h => ?_) (fun h => ?_)
  · refine lv_iconst (v := 0) hx hb dq_12 (by decide) ?_
    exact W.iret (v := 0) hx hb hr (fun t ht hW => ⟨⟨0, (), rfl, (if_pos (hc.mp h)).symm, trivial⟩, hS.F ht⟩) hS.2.2 dq_13 hlk
  · refine lv_aload_n hx hb dq_6 rfl (lv_at hl 0 rfl) ?_
    refine lv_iload_n hx hb dq_7 rfl (lv_at hl 1 rfl) ?_
    have hL0 : ¬ L = 0 := fun h2 => h (hc.mpr h2)
    refine va_sld hx hb hX hbl hbA hS (i := 0) (vp_in_nI (n := 0) (by omega) (by omega)) dq_8 ?_
    refine lv_goto hx hb dq_9 (tgt := 13) (by decide) ?_
    exact W.iret (v := xs 0) hx hb hr (fun t ht hW => ⟨⟨xs 0, (), rfl, (if_neg hL0).symm, trivial⟩, hS.F ht⟩) hS.2.2 dq_13 hlk
theorem lw_split {A : Nat → Prop} {a b : Nat → Nat} {ci co cm : ClassId} {st : rn_S} {ms : rm_S} (h : va_D A (rn_g a ci co st ++ rm_g b cm ms)) : rn_inj a ∧ rm_inj b ∧ (∀ k, k < 28 → A (a k)) ∧ (∀ k, k < 11 → A (b k)) ∧ ∀ j k, j < 28 → k < 11 → a j ≠ b k := by
  have la : ∀ k, k < 28 → ∃ q : Nat × va_E, (rn_g a ci co st ++ rm_g b cm ms)[k]? = some q ∧ q.1 = a k := by
    intro k hk
    have h1 : k < (rn_g a ci co st).length := hk
    refine ⟨(rn_g a ci co st)[k], ?_, (rn_adr (List.getElem?_eq_getElem h1)).2.symm⟩
    rw [List.getElem?_append_left h1, List.getElem?_eq_getElem h1]
  have lb : ∀ k, k < 11 → ∃ q : Nat × va_E, (rn_g a ci co st ++ rm_g b cm ms)[28 + k]? = some q ∧ q.1 = b k := by
    intro k hk
    have h1 : k < (rm_g b cm ms).length := hk
    refine ⟨(rm_g b cm ms)[k], ?_, (rm_adr (List.getElem?_eq_getElem h1)).2.symm⟩
    rw [List.getElem?_append_right (show (rn_g a ci co st).length ≤ 28 + k from Nat.le_add_right 28 k)]
    rw [show 28 + k - (rn_g a ci co st).length = k from Nat.add_sub_cancel_left 28 k, List.getElem?_eq_getElem h1]
  refine ⟨fun i j hi hj e => ?_, fun i j hi hj e => ?_, fun k hk => ?_, fun k hk => ?_, fun j k hj hk e => ?_⟩
  · obtain ⟨q1, h1, e1⟩ := la i hi
    obtain ⟨q2, h2, e2⟩ := la j hj
    exact h.1 i j q1 q2 h1 h2 (by rw [e1, e2, e])
  · obtain ⟨q1, h1, e1⟩ := lb i hi
    obtain ⟨q2, h2, e2⟩ := lb j hj
    have := h.1 _ _ q1 q2 h1 h2 (by rw [e1, e2, e])
    omega
  · obtain ⟨q1, h1, e1⟩ := la k hk
    exact e1 ▸ h.2 k q1 h1
  · obtain ⟨q1, h1, e1⟩ := lb k hk
    exact e1 ▸ h.2 _ q1 h1
  · obtain ⟨q1, h1, e1⟩ := la j hj
    obtain ⟨q2, h2, e2⟩ := lb k hk
    have := h.1 _ _ q1 q2 h1 h2 (by rw [e1, e2, e])
    omega
theorem lw_left {D : va_G} {cl : List vw_C} {w1 w2 : va_W} {H : Heap} (h : va_P D cl (w1 ++ w2) H) : va_P D cl w1 H := fun k q hq => h k q (by
  rw [List.getElem?_append_left (List.getElem?_eq_some_iff.mp hq).1]
  exact hq)
theorem lw_right {D : va_G} {cl : List vw_C} {w1 w2 : va_W} {H : Heap} (h : va_P D cl (w1 ++ w2) H) : va_P D cl w2 H := fun k q hq => h (w1.length + k) q (by
  rw [List.getElem?_append_right (Nat.le_add_right _ _), Nat.add_sub_cancel_left]
  exact hq)
/-- what the pure layer owes: the relation holds at the start, and each call keeps it and answers alike -/
def lw_ops (Rel : rn_S → rm_S → Prop) : Prop :=
  (∀ b : Int32, Rel (rn_init (rn_clamp b)) (rm_init (rm_clamp b))) ∧
  (∀ st ms x y, Rel st ms → ∃ r t u, RN_setPrec st x y = (r, t) ∧ RM_setPrec ms x y = some (r, u) ∧ Rel t u) ∧
  (∀ st ms x y z, Rel st ms → ∃ r t u, RN_loadInt st x y z = (r, t) ∧ RM_loadInt ms x y z = some (r, u) ∧ Rel t u) ∧
  (∀ st ms x y z w, Rel st ms → ∃ r t u, RN_loadScaled st x y z w = (r, t) ∧ RM_loadScaled ms x y z w = some (r, u) ∧ Rel t u) ∧
  (∀ st ms x y z, Rel st ms → ∃ r t u, RN_copy st x y z = (r, t) ∧ RM_copy ms x y z = some (r, u) ∧ Rel t u) ∧
  (∀ st ms x y z, Rel st ms → ∃ r t u, RN_negate st x y z = (r, t) ∧ RM_negate ms x y z = some (r, u) ∧ Rel t u) ∧
  (∀ st ms x y z w, Rel st ms → ∃ r t u, RN_add st x y z w = (r, t) ∧ RM_add ms x y z w = some (r, u) ∧ Rel t u) ∧
  (∀ st ms x y z w, Rel st ms → ∃ r t u, RN_sub st x y z w = (r, t) ∧ RM_sub ms x y z w = some (r, u) ∧ Rel t u) ∧
  (∀ st ms x y z w, Rel st ms → ∃ r t u, RN_mul st x y z w = (r, t) ∧ RM_mul ms x y z w = some (r, u) ∧ Rel t u) ∧
  (∀ st ms x y z w, Rel st ms → ∃ r t u, RN_div st x y z w = (r, t) ∧ RM_div ms x y z w = some (r, u) ∧ Rel t u) ∧
  (∀ st ms x y z, Rel st ms → ∃ r t u, RN_sqrt st x y z = (r, t) ∧ RM_sqrt ms x y z = some (r, u) ∧ Rel t u) ∧
  (∀ st ms x y z w v, Rel st ms → ∃ r t u, RN_fma st x y z w v = (r, t) ∧ RM_fma ms x y z w v = some (r, u) ∧ Rel t u) ∧
  (∀ st ms x y, Rel st ms → ∃ r t, RN_cmp st x y = (r, t) ∧ RM_cmp ms x y = some r ∧ Rel t ms) ∧
  (∀ st ms x, Rel st ms → ∃ r, RN_kindOf st x = r ∧ RM_kindOf ms x = some r) ∧
  (∀ st ms x, Rel st ms → ∃ r, RN_signOf st x = r ∧ RM_signOf ms x = some r) ∧
  (∀ st ms x, Rel st ms → ∃ r, RN_expOf st x = r ∧ RM_expOf ms x = some r) ∧
  (∀ st ms x y, Rel st ms → ∃ r, RN_mantBit st x y = r ∧ RM_mantBit ms x y = some r) ∧
  (∀ st ms x y, Rel st ms → ∃ r t u, RN_whole st x y = (r, t) ∧ RM_whole ms x y = some (r, u) ∧ Rel t u)
set_option maxHeartbeats 8000000 in
set_option maxRecDepth 100000 in
/-- the law's loop, over the relation -/
theorem lw_loop {Rel : rn_S → rm_S → Prop} (ops : lw_ops Rel) {p : Program} {l : Launch} {e : Env} {s : State} {m : MethodId} {below : List Frame} {meth : Method} {c : Code} {b L : Nat} {xs : Nat → Int32} {D : va_G} {a b2 : Nat → Nat} {ci co cm : ClassId} (C : lw_ctx p s m c b L xs D a b2 ci co cm) (hL : L ≤ 3073) (hr : meth.sig.returnType = ret) (hlk : meth.locks = false) {st : rn_S} {ms : rm_S} {ls : Array Slot} {H : Heap} {locs : List Loc} (hl : lv_has ls 4 [(3, .int (nI 1)), (2, .ref (b2 0)), (1, .ref (a 0)), (0, .ref b)]) (hR : Rel st ms) (hPa : va_P D vwCl (rn_g a ci co st) H) (hPb : va_P D vwCl (rm_g b2 cm ms) H) (hS : va_S (fun q => s.heap.size ≤ q) s.heap H locs) : W p l e room_1 s m #[Value.ref b] below meth c H locs 39 3283 (lw_Z below #[Value.ref b] s) (F0 m 28 ls []) := by
  obtain ⟨-, o0, o1, o2, o3, o4, o5, o6, o7, o8, o9, o10, o11, o12, o13, o14, o15, o16⟩ := ops
  have C1 := C
  obtain ⟨hx, hb, hml, hown, hts, hX, hbl, hK, hK2, hN, hi, hi2, hA1, hB1, hdis⟩ := C
  have hbA : ¬ s.heap.size ≤ b := by omega
  refine ct_loop3 (fun n (k : Nat) (st : rn_S) (ms : rm_S) ls H locs => lv_has ls 4 [(3, .int (nI k)), (2, .ref (b2 0)), (1, .ref (a 0)), (0, .ref b)] ∧ (k ≤ 3080 ∧ 3100 - k < n) ∧ Rel st ms ∧ va_P D vwCl (rn_g a ci co st) H ∧ va_P D vwCl (rm_g b2 cm ms) H ∧ va_S (fun q => s.heap.size ≤ q) s.heap H locs) 28 ?_ ?_ 3101 1 st ms ⟨hl, ⟨by omega, by omega⟩, hR, hPa, hPb, hS⟩
  · intro k st ms ls H locs hq
    exact absurd hq.2.1.2 (Nat.not_lt_zero _)
  · intro n ih k st ms ls H locs hq
    obtain ⟨hl, ⟨hk, hn⟩, hR, hPa, hPb, hS⟩ := hq
    refine lv_iload_n hx hb dl_28 rfl (lv_at hl 0 rfl) ?_
    refine lv_aload_n hx hb dl_29 rfl (lv_at hl 3 rfl) ?_
    refine va_slen hx hb hX hbl hbA hS dl_30 ?_
    refine lv_bipush (v := 6) hx hb dl_31 (by decide) ?_
    refine lv_isub hx hb dl_33 ?_
    have e1 : (Int32.ofNat L - 6).toInt = L - 6 := by
      have h1 : (Int32.ofNat L).toInt = L := nI_toInt (by omega)
      have h2 : (6 : Int32).toInt = 6 := rfl
      rw [ar_sub (by omega) (by omega), h1, h2]
    have e2 : (nI k).toInt = k := nI_toInt (by omega)
    refine lv_icmp_gt hx hb dl_34 (tgt := 862) (by decide) (fun h => ?_) (fun h => ?_)
    · refine lv_iconst (v := 1) hx hb dl_862 (by decide) ?_
      refine va_forget hS.2.2 ?_
      refine W.widen (k := 600000) (n := 7302250) (by omega) (by omega) ?_
      exact lw_ret hx hb hr hlk dl_863
    · rw [Int32.lt_iff_toInt_lt, e1, e2] at h
      have hk6 : k + 6 ≤ L := by omega
      refine lv_aload_n hx hb dl_37 rfl (lv_at hl 3 rfl) ?_
      refine lv_iload_n hx hb dl_38 rfl (lv_at hl 0 rfl) ?_
      refine va_sld hx hb hX hbl hbA hS (vp_in_nI (n := k) (by omega) (by omega)) dl_39 ?_
      refine lv_bipush (v := 31) hx hb dl_40 (by decide) ?_
      refine lv_iand hx hb dl_42 ?_
      rw [nI_clamp (by omega)]
      obtain ⟨j, hj, ej⟩ := pk_andE (xs k) (m := 31) 5 (by decide)
      rw [ej]
      have kb : ∀ (t : rn_S) (u : rm_S) (H1 : Heap) (locs1 : List Loc), Rel t u → va_P D vwCl (rn_g a ci co t) H1 → va_P D vwCl (rm_g b2 cm u) H1 → va_S (fun q => s.heap.size ≤ q) s.heap H1 locs1 → W p l e room_1 s m #[Value.ref b] below meth c H1 locs1 39 3283 (lw_Z below #[Value.ref b] s) (F0 m 856 ls []) := by
        intro t u H1 locs1 hR1 hPa1 hPb1 hS1
        refine lv_iinc (v := nI (k + 6)) (lv' := [(3, .int (nI (k + 6))), (2, .ref (b2 0)), (1, .ref (a 0)), (0, .ref b)]) hx hb dl_856 hl (k := 0) rfl (nI_add k 6) (by decide) rfl (fun ls hl => ?_)
        refine lv_goto hx hb dl_859 (tgt := 28) (by decide) ?_
        exact ih (k + 6) t u _ _ _ ⟨hl, ⟨by omega, by omega⟩, hR1, hPa1, hPb1, hS1⟩
      by_cases h17 : 17 ≤ j
      · have e3 : (nI j).toInt = j := nI_toInt (by omega)
        refine lv_tableOut hx hb dl_43 (Or.inr (by rw [e3]; omega)) (tgt := 856) (by decide) ?_
        exact kb st ms H locs hR hPa hPb hS
      · rcases (show j = 0 ∨ j = 1 ∨ j = 2 ∨ j = 3 ∨ j = 4 ∨ j = 5 ∨ j = 6 ∨ j = 7 ∨ j = 8 ∨ j = 9 ∨ j = 10 ∨ j = 11 ∨ j = 12 ∨ j = 13 ∨ j = 14 ∨ j = 15 ∨ j = 16 by omega) with rfl | rfl | rfl | rfl | rfl | rfl | rfl | rfl | rfl | rfl | rfl | rfl | rfl | rfl | rfl | rfl | rfl
        · obtain ⟨r, t, u, e1, e2, hR1⟩ := o0 st ms (xs (k + 1)) (xs (k + 2)) hR
          refine lv_tableIn hx hb dl_43 (x := nI 0) (by decide) (by decide) (off := 81) (by decide) (tgt := 124) (by decide) ?_
          exact lc_0 C1 hL hk6 hl hPa hPb hS e1 e2 (fun H1 locs1 hPa1 hPb1 hS1 => kb t u H1 locs1 hR1 hPa1 hPb1 hS1)
        · obtain ⟨r, t, u, e1, e2, hR1⟩ := o1 st ms (xs (k + 1)) (xs (k + 2)) (xs (k + 3)) hR
          refine lv_tableIn hx hb dl_43 (x := nI 1) (by decide) (by decide) (off := 114) (by decide) (tgt := 157) (by decide) ?_
          exact lc_1 C1 hL hk6 hl hPa hPb hS e1 e2 (fun H1 locs1 hPa1 hPb1 hS1 => kb t u H1 locs1 hR1 hPa1 hPb1 hS1)
        · obtain ⟨r, t, u, e1, e2, hR1⟩ := o2 st ms (xs (k + 1)) (((xs (k + 2)).toInt64 <<< ((32 : Int32).toInt64 &&& 63)) ||| ((xs (k + 3)).toInt64 &&& 4294967295)) (xs (k + 4)) (xs (k + 5)) hR
          refine lv_tableIn hx hb dl_43 (x := nI 2) (by decide) (by decide) (off := 157) (by decide) (tgt := 200) (by decide) ?_
          exact lc_2 C1 hL hk6 hl hPa hPb hS e1 e2 (fun H1 locs1 hPa1 hPb1 hS1 => kb t u H1 locs1 hR1 hPa1 hPb1 hS1)
        · obtain ⟨r, t, u, e1, e2, hR1⟩ := o3 st ms (xs (k + 1)) (xs (k + 2)) (xs (k + 3)) hR
          refine lv_tableIn hx hb dl_43 (x := nI 3) (by decide) (by decide) (off := 240) (by decide) (tgt := 283) (by decide) ?_
          exact lc_3 C1 hL hk6 hl hPa hPb hS e1 e2 (fun H1 locs1 hPa1 hPb1 hS1 => kb t u H1 locs1 hR1 hPa1 hPb1 hS1)
        · obtain ⟨r, t, u, e1, e2, hR1⟩ := o4 st ms (xs (k + 1)) (xs (k + 2)) (xs (k + 3)) hR
          refine lv_tableIn hx hb dl_43 (x := nI 4) (by decide) (by decide) (off := 283) (by decide) (tgt := 326) (by decide) ?_
          exact lc_4 C1 hL hk6 hl hPa hPb hS e1 e2 (fun H1 locs1 hPa1 hPb1 hS1 => kb t u H1 locs1 hR1 hPa1 hPb1 hS1)
        · obtain ⟨r, t, u, e1, e2, hR1⟩ := o5 st ms (xs (k + 1)) (xs (k + 2)) (xs (k + 3)) (xs (k + 4)) hR
          refine lv_tableIn hx hb dl_43 (x := nI 5) (by decide) (by decide) (off := 326) (by decide) (tgt := 369) (by decide) ?_
          exact lc_5 C1 hL hk6 hl hPa hPb hS e1 e2 (fun H1 locs1 hPa1 hPb1 hS1 => kb t u H1 locs1 hR1 hPa1 hPb1 hS1)
        · obtain ⟨r, t, u, e1, e2, hR1⟩ := o6 st ms (xs (k + 1)) (xs (k + 2)) (xs (k + 3)) (xs (k + 4)) hR
          refine lv_tableIn hx hb dl_43 (x := nI 6) (by decide) (by decide) (off := 379) (by decide) (tgt := 422) (by decide) ?_
          exact lc_6 C1 hL hk6 hl hPa hPb hS e1 e2 (fun H1 locs1 hPa1 hPb1 hS1 => kb t u H1 locs1 hR1 hPa1 hPb1 hS1)
        · obtain ⟨r, t, u, e1, e2, hR1⟩ := o7 st ms (xs (k + 1)) (xs (k + 2)) (xs (k + 3)) (xs (k + 4)) hR
          refine lv_tableIn hx hb dl_43 (x := nI 7) (by decide) (by decide) (off := 432) (by decide) (tgt := 475) (by decide) ?_
          exact lc_7 C1 hL hk6 hl hPa hPb hS e1 e2 (fun H1 locs1 hPa1 hPb1 hS1 => kb t u H1 locs1 hR1 hPa1 hPb1 hS1)
        · obtain ⟨r, t, u, e1, e2, hR1⟩ := o8 st ms (xs (k + 1)) (xs (k + 2)) (xs (k + 3)) (xs (k + 4)) hR
          refine lv_tableIn hx hb dl_43 (x := nI 8) (by decide) (by decide) (off := 485) (by decide) (tgt := 528) (by decide) ?_
          exact lc_8 C1 hL hk6 hl hPa hPb hS e1 e2 (fun H1 locs1 hPa1 hPb1 hS1 => kb t u H1 locs1 hR1 hPa1 hPb1 hS1)
        · obtain ⟨r, t, u, e1, e2, hR1⟩ := o9 st ms (xs (k + 1)) (xs (k + 2)) (xs (k + 3)) hR
          refine lv_tableIn hx hb dl_43 (x := nI 9) (by decide) (by decide) (off := 538) (by decide) (tgt := 581) (by decide) ?_
          exact lc_9 C1 hL hk6 hl hPa hPb hS e1 e2 (fun H1 locs1 hPa1 hPb1 hS1 => kb t u H1 locs1 hR1 hPa1 hPb1 hS1)
        · obtain ⟨r, t, u, e1, e2, hR1⟩ := o10 st ms (xs (k + 1)) (xs (k + 2)) (xs (k + 3)) (xs (k + 4)) (xs (k + 5)) hR
          refine lv_tableIn hx hb dl_43 (x := nI 10) (by decide) (by decide) (off := 581) (by decide) (tgt := 624) (by decide) ?_
          exact lc_10 C1 hL hk6 hl hPa hPb hS e1 e2 (fun H1 locs1 hPa1 hPb1 hS1 => kb t u H1 locs1 hR1 hPa1 hPb1 hS1)
        · obtain ⟨r, t, e1, e2, hR1⟩ := o11 st ms (xs (k + 1)) (xs (k + 2)) hR
          refine lv_tableIn hx hb dl_43 (x := nI 11) (by decide) (by decide) (off := 644) (by decide) (tgt := 687) (by decide) ?_
          exact lc_11 C1 hL hk6 hl hPa hPb hS e1 e2 (fun H1 locs1 hPa1 hPb1 hS1 => kb t ms H1 locs1 hR1 hPa1 hPb1 hS1)
        · obtain ⟨r, e1, e2⟩ := o12 st ms (xs (k + 1)) hR
          refine lv_tableIn hx hb dl_43 (x := nI 12) (by decide) (by decide) (off := 677) (by decide) (tgt := 720) (by decide) ?_
          exact lc_12 C1 hL hk6 hl hPa hPb hS e1 e2 (fun H1 locs1 hPa1 hPb1 hS1 => kb st ms H1 locs1 hR hPa1 hPb1 hS1)
        · obtain ⟨r, e1, e2⟩ := o13 st ms (xs (k + 1)) hR
          refine lv_tableIn hx hb dl_43 (x := nI 13) (by decide) (by decide) (off := 700) (by decide) (tgt := 743) (by decide) ?_
          exact lc_13 C1 hL hk6 hl hPa hPb hS e1 e2 (fun H1 locs1 hPa1 hPb1 hS1 => kb st ms H1 locs1 hR hPa1 hPb1 hS1)
        · obtain ⟨r, e1, e2⟩ := o14 st ms (xs (k + 1)) hR
          refine lv_tableIn hx hb dl_43 (x := nI 14) (by decide) (by decide) (off := 723) (by decide) (tgt := 766) (by decide) ?_
          exact lc_14 C1 hL hk6 hl hPa hPb hS e1 e2 (fun H1 locs1 hPa1 hPb1 hS1 => kb st ms H1 locs1 hR hPa1 hPb1 hS1)
        · obtain ⟨r, e1, e2⟩ := o15 st ms (xs (k + 1)) (xs (k + 2)) hR
          refine lv_tableIn hx hb dl_43 (x := nI 15) (by decide) (by decide) (off := 746) (by decide) (tgt := 789) (by decide) ?_
          exact lc_15 C1 hL hk6 hl hPa hPb hS e1 e2 (fun H1 locs1 hPa1 hPb1 hS1 => kb st ms H1 locs1 hR hPa1 hPb1 hS1)
        · obtain ⟨r, t, u, e1, e2, hR1⟩ := o16 st ms (xs (k + 1)) (xs (k + 2)) hR
          refine lv_tableIn hx hb dl_43 (x := nI 16) (by decide) (by decide) (off := 779) (by decide) (tgt := 822) (by decide) ?_
          exact lc_16 C1 hL hk6 hl hPa hPb hS e1 e2 (fun H1 locs1 hPa1 hPb1 hS1 => kb t u H1 locs1 hR1 hPa1 hPb1 hS1)
