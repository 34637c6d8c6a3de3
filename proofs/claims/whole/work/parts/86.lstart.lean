set_option maxHeartbeats 8000000 in
set_option maxRecDepth 100000 in
/-- the whole walk of the law, over the relation that the pure layer owes -/
theorem whole_open {Rel : rn_S → rm_S → Prop} (ops : lw_ops Rel) {p : Program} {e : Env} {s : State} {m : MethodId} {below : List Frame} {meth : Method} {c : Code} (l : Launch) {b L : Nat} {xs : Nat → Int32} (hL : L ≤ 3073) (C0 : lw_At p s m meth c b L xs) : W p l e room_1 s m #[Value.ref b] below meth c s.heap [] 0 0 (lw_Z below #[Value.ref b] s) (entryFrame m ([Value.ref b] : List Value).toArray 4) := by
  obtain ⟨hx, hb, hr, hml, hown, hts, hX, hbl, hlk, hgv⟩ := C0
  have hown : s.vm.findClass "RoundedNumbersLaw" = some m.cls := hown
  have ht2 := lw_t2 hts
  have htb : ∀ w ∈ ct_T, w.before #[Value.ref b] s = true := fun w h => ht2 w (List.mem_cons_of_mem _ h)
  have hN : ct_nw s := fun w hw hn => va_Nw.of (by cases w <;> simp [ct_nest] at hn <;> rfl) (hts w hw)
  have hO : va_AO "RoundedNumbers$Value" s := va_AO.of (hts _ (List.mem_append_right _ (List.mem_of_getElem? (i := 18) (by decide +kernel))))
  obtain ⟨c0, i0, k0⟩ := u_known (C := cn_RN) (T := ft_RN) (N := 8) (n := 8) htb ly_RN (htb _ mw_527)
  obtain ⟨c1, i1, k1⟩ := u_known (C := cn_RV) (T := ft_RV) (N := 4) (n := 4) htb ly_RV (htb _ mw_236)
  obtain ⟨c2, i2, k2⟩ := u_known (C := cn_RE) (T := ft_RE) (N := 1) (n := 1) htb ly_RE (htb _ mw_241)
  obtain ⟨c3, i3, k3⟩ := u_known (C := cn_RW) (T := ft_RW) (N := 2) (n := 2) htb ly_RW (htb _ mw_246)
  obtain ⟨c4, i4, k4⟩ := u_known (C := cn_RM) (T := ft_RM) (N := 10) (n := 10) htb ly_RM (htb _ mw_528)
  obtain ⟨D, hK⟩ : ∃ D : va_G, va_K D vwCl [] s := by
    refine ⟨(fun c => if c = 0 then c0 else if c = 1 then c1 else if c = 2 then c2 else if c = 3 then c3 else c4, fun c => if c = 0 then i0 else if c = 1 then i1 else if c = 2 then i2 else if c = 3 then i3 else i4), fun c q hq => ?_, fun k q hq => ?_⟩
    · rcases c with _ | _ | _ | _ | _ | c
      · cases hq; exact k0
      · cases hq; exact k1
      · cases hq; exact k2
      · cases hq; exact k3
      · cases hq; exact k4
      · cases hq
    · cases hq
  have hbA : ¬ s.heap.size ≤ b := by omega
  have hS : va_S (fun q => s.heap.size ≤ q) s.heap s.heap [] := va_S.rf
  have hA : ∀ q : Nat, s.heap.size ≤ q → (fun q => s.heap.size ≤ q) q := fun q h => h
  have hP : va_P D vwCl [] s.heap := fun k q hq => by cases hq
  have hD : va_D (fun q => s.heap.size ≤ q) [] := ⟨fun i j p q hp => by (cases hp), fun k q hq => by (cases hq)⟩
  have hl := lv_entry ([.ref b]) (n := 4) (Nat.le_of_ble_eq_true rfl)
  rw [lg_entry_eq]
  generalize (lg_sl ([.ref b]) ++ List.replicate (4 - (lg_sl ([.ref b])).length) Slot.unset).toArray = ls at hl ⊢
  have hl : lv_has ls 4 [(0, .ref b)] := hl
  refine va_new (ci := 0) (fs := [.null, .null, .null, .null, .null, .null, .null, .null]) (C := cn_RN) (T := ft_RN) (N := 8) hx hb htb ly_RN fy_RN fy_RN_ok hown (htb _ mw_529) (htb _ mw_527) (htb _ mw_5) hK hP hD hS hA rfl (fun j hj => by rcases (show j = 0 ∨ j = 1 ∨ j = 2 ∨ j = 3 ∨ j = 4 ∨ j = 5 ∨ j = 6 ∨ j = 7 by omega) with rfl | rfl | rfl | rfl | rfl | rfl | rfl | rfl <;> rfl) (by decide) (by decide) dl_0 (fun q0 H hP hD hS => ?_)
  have hP : va_P D vwCl [(q0, .inr (0, [.null, .null, .null, .null, .null, .null, .null, .null]))] H := hP
  have hD : va_D (fun q => s.heap.size ≤ q) [(q0, .inr (0, [.null, .null, .null, .null, .null, .null, .null, .null]))] := hD
  refine lv_dup hx hb dl_3 rfl ?_
  refine lv_aload_n hx hb dl_4 rfl (lv_at hl 0 rfl) ?_
  refine lv_iconst (v := 0) hx hb dl_5 (by decide) ?_
  refine va_calli (va_runS (As := [.ref b, .int 0]) (rest := [.ref q0, .ref q0]) ⟨hx, hb, hml, hown, ht2⟩ (c_LL_cell l b L H.size xs (by omega)) (va_cwS 2 ht2 (ct_giS mw_524 mw_525 mw_389 mw_526) rfl rfl rfl ⟨by decide, by decide, by decide +kernel⟩ ⟨by decide, by decide⟩) ⟨fun a U g mk q => by obtain ⟨q0, q1, qX⟩ := q; exact ⟨q0, q1, va_X.moved (u := U) (U := U.calling g mk a) (Vm.Alike.refl U.vm) qX⟩, fun U hU hW => ⟨rfl, by rw [hU], by rw [hU]; exact (hX.kept (hS.2.1 b hbl hbA)).moved hW.alike⟩⟩ rfl rfl hl.1 rfl (lv_room (Nat.le_of_ble_eq_true rfl)) dl_6 ⟨by decide, by decide⟩) hS (fun q _ h => Nat.le_trans hS.1 h) (fun q h => Nat.le_trans hS.1 h) (fun r u t H1 locs ht hvm hp _ hz1 hk1 hS => ?_)
  subst hp
  have hP : va_P D vwCl ([(q0, .inr (0, [.null, .null, .null, .null, .null, .null, .null, .null]))]) H1 := hP.kept (fun k q hq => hk1 q.1 (hP k q hq).lt (Nat.not_le_of_lt (hP k q hq).lt))
  clear hk1 hz1
  generalize H1 = H at hP hS ⊢
  refine W.widen (k := 1) (n := 8) (by omega) (by omega) ?_
  have hPc := hP.sub (ws' := [(q0, .inr (0, [.null, .null, .null, .null, .null, .null, .null, .null]))]) [0] rfl
  have hDc := hD.sub (ws' := [(q0, .inr (0, [.null, .null, .null, .null, .null, .null, .null, .null]))]) [0] (by decide) rfl
  have hFc := va_free (wc := [(q0, .inr (0, [.null, .null, .null, .null, .null, .null, .null, .null]))]) hD hS hA [0] rfl
  refine va_callv (va_runI (As := [.int (lw_c0 L xs)]) (rest := [.ref q0]) ⟨hx, hb, hml, hown, ht2⟩ (c_RN_init l (D := D) q0 H.size (lw_c0 L xs)) (cwI 1 ht2 (ct_giN mw_530) rfl rfl rfl (htb _ mw_5) (htb _ mw_531) (htb _ mw_532) rfl (by decide +kernel) ⟨by decide, by decide⟩) ⟨fun a U g mk q => by obtain ⟨q0, q1, qP, qK, qD, qN, qO⟩ := q; exact ⟨q0, q1, qP, va_K.moved (u := U) (U := U.calling g mk a) (Vm.Alike.refl U.vm) qK, qD, qN.calling, va_AO.moved (u := U) (U := U.calling g mk a) (Vm.Alike.refl U.vm) qO⟩, fun U hU hW => ⟨rfl, by rw [hU], by rw [hU]; exact hPc, va_K.moved hW.alike hK, hDc.weaken (fun _ _ _ _ => trivial), hN.warm hW, va_AO.moved hW.alike hO⟩⟩ rfl rfl hl.1 rfl (lv_room (Nat.le_of_ble_eq_true rfl)) dl_9 ⟨by decide, by decide⟩) hS (fun q _ h => hFc q h) hFc (fun u t H1 locs ht hvm _ hB hz1 hk1 hS => ?_)
  obtain ⟨a, ci, co⟩ := u
  obtain ⟨ha0, hP1, hK1, hD1⟩ := hB
  rw [ht] at hP1
  have hKa := va_K.moved hvm.symm hK1
  have ha0 : a 0 = q0 := ha0
  subst ha0
  have hP : va_P D vwCl (rn_g a ci co (rn_init (rn_clamp (lw_c0 L xs)))) H1 := hP1
  have hD : va_D (fun q => s.heap.size ≤ q) (rn_g a ci co (rn_init (rn_clamp (lw_c0 L xs)))) := hD1.weaken (fun _ q _ h => hFc q.1 h)
  clear hP1 hD1 hPc hDc hFc hk1 hz1
  generalize H1 = H at hP hS ⊢
  refine W.widen (k := 28) (n := 137) (by omega) (by omega) ?_
  refine lv_astore_n (lv' := [(1, .ref (a 0)), (0, .ref b)]) hx hb dl_12 rfl hl (by decide) rfl (fun ls hl => ?_)
  refine va_new (ci := 4) (fs := [.null, .null, .null, .null, .null, .null, .null, .null, .null, .null]) (C := cn_RM) (T := ft_RM) (N := 10) hx hb htb ly_RM fy_RM fy_RM_ok hown (htb _ mw_533) (htb _ mw_528) (htb _ mw_258) hK hP hD hS hA rfl (fun j hj => by rcases (show j = 0 ∨ j = 1 ∨ j = 2 ∨ j = 3 ∨ j = 4 ∨ j = 5 ∨ j = 6 ∨ j = 7 ∨ j = 8 ∨ j = 9 by omega) with rfl | rfl | rfl | rfl | rfl | rfl | rfl | rfl | rfl | rfl <;> rfl) (by decide) (by decide) dl_13 (fun q1 H hP hD hS => ?_)
  have hP : va_P D vwCl (rn_g a ci co (rn_init (rn_clamp (lw_c0 L xs))) ++ [(q1, .inr (4, [.null, .null, .null, .null, .null, .null, .null, .null, .null, .null]))]) H := hP
  have hD : va_D (fun q => s.heap.size ≤ q) (rn_g a ci co (rn_init (rn_clamp (lw_c0 L xs))) ++ [(q1, .inr (4, [.null, .null, .null, .null, .null, .null, .null, .null, .null, .null]))]) := hD
  refine lv_dup hx hb dl_16 rfl ?_
  refine lv_aload_n hx hb dl_17 rfl (lv_at hl 1 rfl) ?_
  refine lv_iconst (v := 0) hx hb dl_18 (by decide) ?_
  refine va_calli (va_runS (As := [.ref b, .int 0]) (rest := [.ref q1, .ref q1]) ⟨hx, hb, hml, hown, ht2⟩ (c_LL_cell l b L H.size xs (by omega)) (va_cwS 2 ht2 (ct_giS mw_524 mw_525 mw_389 mw_526) rfl rfl rfl ⟨by decide, by decide, by decide +kernel⟩ ⟨by decide, by decide⟩) ⟨fun a U g mk q => by obtain ⟨q0, q1, qX⟩ := q; exact ⟨q0, q1, va_X.moved (u := U) (U := U.calling g mk a) (Vm.Alike.refl U.vm) qX⟩, fun U hU hW => ⟨rfl, by rw [hU], by rw [hU]; exact (hX.kept (hS.2.1 b hbl hbA)).moved hW.alike⟩⟩ rfl rfl hl.1 rfl (lv_room (Nat.le_of_ble_eq_true rfl)) dl_19 ⟨by decide, by decide⟩) hS (fun q _ h => Nat.le_trans hS.1 h) (fun q h => Nat.le_trans hS.1 h) (fun r u t H1 locs ht hvm hp _ hz1 hk1 hS => ?_)
  subst hp
  have hP : va_P D vwCl (rn_g a ci co (rn_init (rn_clamp (lw_c0 L xs))) ++ [(q1, .inr (4, [.null, .null, .null, .null, .null, .null, .null, .null, .null, .null]))]) H1 := hP.kept (fun k q hq => hk1 q.1 (hP k q hq).lt (Nat.not_le_of_lt (hP k q hq).lt))
  clear hk1 hz1
  generalize H1 = H at hP hS ⊢
  refine W.widen (k := 29) (n := 147) (by omega) (by omega) ?_
  have hPc := hP.sub (ws' := [(q1, .inr (4, [.null, .null, .null, .null, .null, .null, .null, .null, .null, .null]))]) [28] rfl
  have hDc := hD.sub (ws' := [(q1, .inr (4, [.null, .null, .null, .null, .null, .null, .null, .null, .null, .null]))]) [28] (by decide) rfl
  have hFc := va_free (wc := [(q1, .inr (4, [.null, .null, .null, .null, .null, .null, .null, .null, .null, .null]))]) hD hS hA [28] rfl
  refine va_callv (va_runI (As := [.int (lw_c0 L xs)]) (rest := [.ref q1]) ⟨hx, hb, hml, hown, ht2⟩ (c_RM_init l (D := D) q1 H.size (lw_c0 L xs)) (cwI 1 ht2 (ct_giN mw_534) rfl rfl rfl (htb _ mw_258) (htb _ mw_535) (htb _ mw_536) rfl (by decide +kernel) ⟨by decide, by decide⟩) ⟨fun a U g mk q => by obtain ⟨q0, q1, qP, qK, qD⟩ := q; exact ⟨q0, q1, qP, va_K.moved (u := U) (U := U.calling g mk a) (Vm.Alike.refl U.vm) qK, qD⟩, fun U hU hW => ⟨rfl, by rw [hU], by rw [hU]; exact hPc, va_K.moved hW.alike hK, hDc.weaken (fun _ _ _ _ => trivial)⟩⟩ rfl rfl hl.1 rfl (lv_room (Nat.le_of_ble_eq_true rfl)) dl_22 ⟨by decide, by decide⟩) hS (fun q _ h => hFc q h) hFc (fun u t H1 locs ht hvm _ hB hz1 hk1 hS => ?_)
  obtain ⟨b2, cm⟩ := u
  obtain ⟨hb0, hP1, hK1, hD1⟩ := hB
  rw [ht] at hP1
  have hKb := va_K.moved hvm.symm hK1
  have hb0 : b2 0 = q1 := hb0
  subst hb0
  obtain ⟨hP, hD⟩ := va_join (wr := rn_g a ci co (rn_init (rn_clamp (lw_c0 L xs)))) hP hD [28] [0, 1, 2, 3, 4, 5, 6, 7, 8, 9, 10, 11, 12, 13, 14, 15, 16, 17, 18, 19, 20, 21, 22, 23, 24, 25, 26, 27] rfl rfl (by decide) (by decide) hk1 hFc hP1 hD1
  clear hP1 hD1 hPc hDc hFc hk1 hz1
  generalize H1 = H at hP hS ⊢
  refine W.widen (k := 39) (n := 3283) (by omega) (by omega) ?_
  obtain ⟨hi, hi2, hA1, hB1, hdis⟩ := lw_split hD
  refine lv_astore_n (lv' := [(2, .ref (b2 0)), (1, .ref (a 0)), (0, .ref b)]) hx hb dl_25 rfl hl (by decide) rfl (fun ls hl => ?_)
  refine lv_iconst (v := 1) hx hb dl_26 (by decide) ?_
  refine lv_istore_n (lv' := [(3, .int (nI 1)), (2, .ref (b2 0)), (1, .ref (a 0)), (0, .ref b)]) hx hb dl_27 rfl hl (by decide) rfl (fun ls hl => ?_)
  exact lw_loop ops ⟨hx, hb, hml, hown, hts, hX, hbl, hKa, hKb, hN, hi, hi2, hA1, hB1, hdis⟩ hL hr hlk hl (ops.1 _) (lw_left hP) (lw_right hP) hS
