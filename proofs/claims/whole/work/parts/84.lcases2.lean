set_option maxHeartbeats 4000000 in
set_option maxRecDepth 100000 in
theorem lc_9 {p : Program} {l : Launch} {e : Env} {s : State} {m : MethodId} {below : List Frame} {meth : Method} {c : Code} {b L : Nat} {xs : Nat → Int32} {D : va_G} {a b2 : Nat → Nat} {ci co cm : ClassId} (C : lw_ctx p s m c b L xs D a b2 ci co cm) (hL : L ≤ 3073) {Q : State → Prop} {st : rn_S} {ms : rm_S} {k : Nat} (hk : k + 6 ≤ L) {ls : Array Slot} {H : Heap} {locs : List Loc} (hl : lv_has ls 4 [(3, .int (nI k)), (2, .ref (b2 0)), (1, .ref (a 0)), (0, .ref b)]) (hPa : va_P D vwCl (rn_g a ci co st) H) (hPb : va_P D vwCl (rm_g b2 cm ms) H) (hS : va_S (fun q => s.heap.size ≤ q) s.heap H locs) {r : Int32} {t : rn_S} {u : rm_S} (e1 : RN_sqrt st ((xs (k + 1))) ((xs (k + 2))) ((xs (k + 3))) = (r, t)) (e2 : RM_sqrt ms ((xs (k + 1))) ((xs (k + 2))) ((xs (k + 3))) = some (r, u))
    (kk : ∀ (H1 : Heap) (locs1 : List Loc), va_P D vwCl (rn_g a ci co t) H1 → va_P D vwCl (rm_g b2 cm u) H1 → va_S (fun q => s.heap.size ≤ q) s.heap H1 locs1 → W p l e room_1 s m #[Value.ref b] below meth c H1 locs1 39 3283 Q (F0 m 856 ls [])) : W p l e room_1 s m #[Value.ref b] below meth c H locs 39 3283 Q (F0 m 581 ls []) := by
  obtain ⟨hx, hb, hml, hown, hts, hX, hbl, hK, hK2, hN, hi, hi2, hA1, hB1, hdis⟩ := C
  have hown : s.vm.findClass "RoundedNumbersLaw" = some m.cls := hown
  have ht2 := lw_t2 hts
  refine lv_aload_n hx hb dl_581 rfl (lv_at hl 2 rfl) ?_
  refine lv_aload_n hx hb dl_582 rfl (lv_at hl 3 rfl) ?_
  refine lv_iload_n hx hb dl_583 rfl (lv_at hl 0 rfl) ?_
  refine lv_iconst (v := 1) hx hb dl_584 (by decide) ?_
  refine lv_iadd hx hb dl_585 ?_
  refine lw_ld hx hb hX hbl hS (j := 1) rfl (by omega) (by omega) dl_586 ?_
  refine lv_aload_n hx hb dl_587 rfl (lv_at hl 3 rfl) ?_
  refine lv_iload_n hx hb dl_588 rfl (lv_at hl 0 rfl) ?_
  refine lv_iconst (v := 2) hx hb dl_589 (by decide) ?_
  refine lv_iadd hx hb dl_590 ?_
  refine lw_ld hx hb hX hbl hS (j := 2) rfl (by omega) (by omega) dl_591 ?_
  refine lv_aload_n hx hb dl_592 rfl (lv_at hl 3 rfl) ?_
  refine lv_iload_n hx hb dl_593 rfl (lv_at hl 0 rfl) ?_
  refine lv_iconst (v := 3) hx hb dl_594 (by decide) ?_
  refine lv_iadd hx hb dl_595 ?_
  refine lw_ld hx hb hX hbl hS (j := 3) rfl (by omega) (by omega) dl_596 ?_
  refine lw_ci (va_runV (As := [.int (xs (k + 1)), .int (xs (k + 2)), .int (xs (k + 3))]) (rest := []) ⟨hx, hb, hml, hown, ht2⟩ (c_RN_sqrt l (D := D) a ci co hi st ((xs (k + 1))) ((xs (k + 2))) ((xs (k + 3))) r t e1 _) (kc_LL_63 ht2 ⟨by decide, by decide⟩) ⟨ct_blind, rn_rc0 hK hPa, ct_ok hPa hK hN⟩ rfl rfl hl.1 rfl (lv_room (Nat.le_of_ble_eq_true rfl)) dl_597 ⟨by decide, by decide⟩) (lw_xa hA1) hPb (lw_da hdis) hS (fun H locs hPa hPb hS => ?_)
  refine lv_aload_n hx hb dl_600 rfl (lv_at hl 1 rfl) ?_
  refine lv_aload_n hx hb dl_601 rfl (lv_at hl 3 rfl) ?_
  refine lv_iload_n hx hb dl_602 rfl (lv_at hl 0 rfl) ?_
  refine lv_iconst (v := 1) hx hb dl_603 (by decide) ?_
  refine lv_iadd hx hb dl_604 ?_
  refine lw_ld hx hb hX hbl hS (j := 1) rfl (by omega) (by omega) dl_605 ?_
  refine lv_aload_n hx hb dl_606 rfl (lv_at hl 3 rfl) ?_
  refine lv_iload_n hx hb dl_607 rfl (lv_at hl 0 rfl) ?_
  refine lv_iconst (v := 2) hx hb dl_608 (by decide) ?_
  refine lv_iadd hx hb dl_609 ?_
  refine lw_ld hx hb hX hbl hS (j := 2) rfl (by omega) (by omega) dl_610 ?_
  refine lv_aload_n hx hb dl_611 rfl (lv_at hl 3 rfl) ?_
  refine lv_iload_n hx hb dl_612 rfl (lv_at hl 0 rfl) ?_
  refine lv_iconst (v := 3) hx hb dl_613 (by decide) ?_
  refine lv_iadd hx hb dl_614 ?_
  refine lw_ld hx hb hX hbl hS (j := 3) rfl (by omega) (by omega) dl_615 ?_
  refine lw_ci (va_runV (As := [.int (xs (k + 1)), .int (xs (k + 2)), .int (xs (k + 3))]) (rest := [.int r]) ⟨hx, hb, hml, hown, ht2⟩ (c_RM_sqrt l (D := D) b2 cm hi2 ms ((xs (k + 1))) ((xs (k + 2))) ((xs (k + 3))) r u e2 _) (kc_LL_66 ht2 ⟨by decide, by decide⟩) ⟨ct_blind, rm_rc hK2 hPb, ct_ok hPb hK2 hN⟩ rfl rfl hl.1 rfl (lv_room (Nat.le_of_ble_eq_true rfl)) dl_616 ⟨by decide, by decide⟩) (lw_xb hB1) hPa (lw_db hdis) hS (fun H locs hPb hPa hS => ?_)
  exact lv_icmp_eq hx hb dl_619 (tgt := 856) (by decide) (fun _ => kk H locs hPa hPb hS) (fun h => absurd rfl h)
set_option maxHeartbeats 4000000 in
set_option maxRecDepth 100000 in
theorem lc_10 {p : Program} {l : Launch} {e : Env} {s : State} {m : MethodId} {below : List Frame} {meth : Method} {c : Code} {b L : Nat} {xs : Nat → Int32} {D : va_G} {a b2 : Nat → Nat} {ci co cm : ClassId} (C : lw_ctx p s m c b L xs D a b2 ci co cm) (hL : L ≤ 3073) {Q : State → Prop} {st : rn_S} {ms : rm_S} {k : Nat} (hk : k + 6 ≤ L) {ls : Array Slot} {H : Heap} {locs : List Loc} (hl : lv_has ls 4 [(3, .int (nI k)), (2, .ref (b2 0)), (1, .ref (a 0)), (0, .ref b)]) (hPa : va_P D vwCl (rn_g a ci co st) H) (hPb : va_P D vwCl (rm_g b2 cm ms) H) (hS : va_S (fun q => s.heap.size ≤ q) s.heap H locs) {r : Int32} {t : rn_S} {u : rm_S} (e1 : RN_fma st ((xs (k + 1))) ((xs (k + 2))) ((xs (k + 3))) ((xs (k + 4))) ((xs (k + 5))) = (r, t)) (e2 : RM_fma ms ((xs (k + 1))) ((xs (k + 2))) ((xs (k + 3))) ((xs (k + 4))) ((xs (k + 5))) = some (r, u))
    (kk : ∀ (H1 : Heap) (locs1 : List Loc), va_P D vwCl (rn_g a ci co t) H1 → va_P D vwCl (rm_g b2 cm u) H1 → va_S (fun q => s.heap.size ≤ q) s.heap H1 locs1 → W p l e room_1 s m #[Value.ref b] below meth c H1 locs1 39 3283 Q (F0 m 856 ls [])) : W p l e room_1 s m #[Value.ref b] below meth c H locs 39 3283 Q (F0 m 624 ls []) := by
  obtain ⟨hx, hb, hml, hown, hts, hX, hbl, hK, hK2, hN, hi, hi2, hA1, hB1, hdis⟩ := C
  have hown : s.vm.findClass "RoundedNumbersLaw" = some m.cls := hown
  have ht2 := lw_t2 hts
  refine lv_aload_n hx hb dl_624 rfl (lv_at hl 2 rfl) ?_
  refine lv_aload_n hx hb dl_625 rfl (lv_at hl 3 rfl) ?_
  refine lv_iload_n hx hb dl_626 rfl (lv_at hl 0 rfl) ?_
  refine lv_iconst (v := 1) hx hb dl_627 (by decide) ?_
  refine lv_iadd hx hb dl_628 ?_
  refine lw_ld hx hb hX hbl hS (j := 1) rfl (by omega) (by omega) dl_629 ?_
  refine lv_aload_n hx hb dl_630 rfl (lv_at hl 3 rfl) ?_
  refine lv_iload_n hx hb dl_631 rfl (lv_at hl 0 rfl) ?_
  refine lv_iconst (v := 2) hx hb dl_632 (by decide) ?_
  refine lv_iadd hx hb dl_633 ?_
  refine lw_ld hx hb hX hbl hS (j := 2) rfl (by omega) (by omega) dl_634 ?_
  refine lv_aload_n hx hb dl_635 rfl (lv_at hl 3 rfl) ?_
  refine lv_iload_n hx hb dl_636 rfl (lv_at hl 0 rfl) ?_
  refine lv_iconst (v := 3) hx hb dl_637 (by decide) ?_
  refine lv_iadd hx hb dl_638 ?_
  refine lw_ld hx hb hX hbl hS (j := 3) rfl (by omega) (by omega) dl_639 ?_
  refine lv_aload_n hx hb dl_640 rfl (lv_at hl 3 rfl) ?_
  refine lv_iload_n hx hb dl_641 rfl (lv_at hl 0 rfl) ?_
  refine lv_iconst (v := 4) hx hb dl_642 (by decide) ?_
  refine lv_iadd hx hb dl_643 ?_
  refine lw_ld hx hb hX hbl hS (j := 4) rfl (by omega) (by omega) dl_644 ?_
  refine lv_aload_n hx hb dl_645 rfl (lv_at hl 3 rfl) ?_
  refine lv_iload_n hx hb dl_646 rfl (lv_at hl 0 rfl) ?_
  refine lv_iconst (v := 5) hx hb dl_647 (by decide) ?_
  refine lv_iadd hx hb dl_648 ?_
  refine lw_ld hx hb hX hbl hS (j := 5) rfl (by omega) (by omega) dl_649 ?_
  refine lw_ci (va_runV (As := [.int (xs (k + 1)), .int (xs (k + 2)), .int (xs (k + 3)), .int (xs (k + 4)), .int (xs (k + 5))]) (rest := []) ⟨hx, hb, hml, hown, ht2⟩ (c_RN_fma l (D := D) a ci co hi st ((xs (k + 1))) ((xs (k + 2))) ((xs (k + 3))) ((xs (k + 4))) ((xs (k + 5))) r t e1 _) (kc_LL_67 ht2 ⟨by decide, by decide⟩) ⟨ct_blind, rn_rc0 hK hPa, ct_ok hPa hK hN⟩ rfl rfl hl.1 rfl (lv_room (Nat.le_of_ble_eq_true rfl)) dl_650 ⟨by decide, by decide⟩) (lw_xa hA1) hPb (lw_da hdis) hS (fun H locs hPa hPb hS => ?_)
  refine lv_aload_n hx hb dl_653 rfl (lv_at hl 1 rfl) ?_
  refine lv_aload_n hx hb dl_654 rfl (lv_at hl 3 rfl) ?_
  refine lv_iload_n hx hb dl_655 rfl (lv_at hl 0 rfl) ?_
  refine lv_iconst (v := 1) hx hb dl_656 (by decide) ?_
  refine lv_iadd hx hb dl_657 ?_
  refine lw_ld hx hb hX hbl hS (j := 1) rfl (by omega) (by omega) dl_658 ?_
  refine lv_aload_n hx hb dl_659 rfl (lv_at hl 3 rfl) ?_
  refine lv_iload_n hx hb dl_660 rfl (lv_at hl 0 rfl) ?_
  refine lv_iconst (v := 2) hx hb dl_661 (by decide) ?_
  refine lv_iadd hx hb dl_662 ?_
  refine lw_ld hx hb hX hbl hS (j := 2) rfl (by omega) (by omega) dl_663 ?_
  refine lv_aload_n hx hb dl_664 rfl (lv_at hl 3 rfl) ?_
  refine lv_iload_n hx hb dl_665 rfl (lv_at hl 0 rfl) ?_
  refine lv_iconst (v := 3) hx hb dl_666 (by decide) ?_
  refine lv_iadd hx hb dl_667 ?_
  refine lw_ld hx hb hX hbl hS (j := 3) rfl (by omega) (by omega) dl_668 ?_
  refine lv_aload_n hx hb dl_669 rfl (lv_at hl 3 rfl) ?_
  refine lv_iload_n hx hb dl_670 rfl (lv_at hl 0 rfl) ?_
  refine lv_iconst (v := 4) hx hb dl_671 (by decide) ?_
  refine lv_iadd hx hb dl_672 ?_
  refine lw_ld hx hb hX hbl hS (j := 4) rfl (by omega) (by omega) dl_673 ?_
  refine lv_aload_n hx hb dl_674 rfl (lv_at hl 3 rfl) ?_
  refine lv_iload_n hx hb dl_675 rfl (lv_at hl 0 rfl) ?_
  refine lv_iconst (v := 5) hx hb dl_676 (by decide) ?_
  refine lv_iadd hx hb dl_677 ?_
  refine lw_ld hx hb hX hbl hS (j := 5) rfl (by omega) (by omega) dl_678 ?_
  refine lw_ci (va_runV (As := [.int (xs (k + 1)), .int (xs (k + 2)), .int (xs (k + 3)), .int (xs (k + 4)), .int (xs (k + 5))]) (rest := [.int r]) ⟨hx, hb, hml, hown, ht2⟩ (c_RM_fma l (D := D) b2 cm hi2 ms ((xs (k + 1))) ((xs (k + 2))) ((xs (k + 3))) ((xs (k + 4))) ((xs (k + 5))) r u e2 _) (kc_LL_71 ht2 ⟨by decide, by decide⟩) ⟨ct_blind, rm_rc hK2 hPb, ct_ok hPb hK2 hN⟩ rfl rfl hl.1 rfl (lv_room (Nat.le_of_ble_eq_true rfl)) dl_679 ⟨by decide, by decide⟩) (lw_xb hB1) hPa (lw_db hdis) hS (fun H locs hPb hPa hS => ?_)
  exact lv_icmp_eq hx hb dl_682 (tgt := 856) (by decide) (fun _ => kk H locs hPa hPb hS) (fun h => absurd rfl h)
set_option maxHeartbeats 4000000 in
set_option maxRecDepth 100000 in
theorem lc_11 {p : Program} {l : Launch} {e : Env} {s : State} {m : MethodId} {below : List Frame} {meth : Method} {c : Code} {b L : Nat} {xs : Nat → Int32} {D : va_G} {a b2 : Nat → Nat} {ci co cm : ClassId} (C : lw_ctx p s m c b L xs D a b2 ci co cm) (hL : L ≤ 3073) {Q : State → Prop} {st : rn_S} {ms : rm_S} {k : Nat} (hk : k + 6 ≤ L) {ls : Array Slot} {H : Heap} {locs : List Loc} (hl : lv_has ls 4 [(3, .int (nI k)), (2, .ref (b2 0)), (1, .ref (a 0)), (0, .ref b)]) (hPa : va_P D vwCl (rn_g a ci co st) H) (hPb : va_P D vwCl (rm_g b2 cm ms) H) (hS : va_S (fun q => s.heap.size ≤ q) s.heap H locs) {r : Int32} {t : rn_S} (e1 : RN_cmp st ((xs (k + 1))) ((xs (k + 2))) = (r, t)) (e2 : RM_cmp ms ((xs (k + 1))) ((xs (k + 2))) = some r)
    (kk : ∀ (H1 : Heap) (locs1 : List Loc), va_P D vwCl (rn_g a ci co t) H1 → va_P D vwCl (rm_g b2 cm ms) H1 → va_S (fun q => s.heap.size ≤ q) s.heap H1 locs1 → W p l e room_1 s m #[Value.ref b] below meth c H1 locs1 39 3283 Q (F0 m 856 ls [])) : W p l e room_1 s m #[Value.ref b] below meth c H locs 39 3283 Q (F0 m 687 ls []) := by
  obtain ⟨hx, hb, hml, hown, hts, hX, hbl, hK, hK2, hN, hi, hi2, hA1, hB1, hdis⟩ := C
  have hown : s.vm.findClass "RoundedNumbersLaw" = some m.cls := hown
  have ht2 := lw_t2 hts
  refine lv_aload_n hx hb dl_687 rfl (lv_at hl 2 rfl) ?_
  refine lv_aload_n hx hb dl_688 rfl (lv_at hl 3 rfl) ?_
  refine lv_iload_n hx hb dl_689 rfl (lv_at hl 0 rfl) ?_
  refine lv_iconst (v := 1) hx hb dl_690 (by decide) ?_
  refine lv_iadd hx hb dl_691 ?_
  refine lw_ld hx hb hX hbl hS (j := 1) rfl (by omega) (by omega) dl_692 ?_
  refine lv_aload_n hx hb dl_693 rfl (lv_at hl 3 rfl) ?_
  refine lv_iload_n hx hb dl_694 rfl (lv_at hl 0 rfl) ?_
  refine lv_iconst (v := 2) hx hb dl_695 (by decide) ?_
  refine lv_iadd hx hb dl_696 ?_
  refine lw_ld hx hb hX hbl hS (j := 2) rfl (by omega) (by omega) dl_697 ?_
  refine lw_ci (va_runV (As := [.int (xs (k + 1)), .int (xs (k + 2))]) (rest := []) ⟨hx, hb, hml, hown, ht2⟩ (c_RN_cmp l (D := D) a ci co hi st ((xs (k + 1))) ((xs (k + 2))) r t e1 _) (kc_LL_72 ht2 ⟨by decide, by decide⟩) ⟨ct_blind, rn_rc0 hK hPa, ct_ok hPa hK hN⟩ rfl rfl hl.1 rfl (lv_room (Nat.le_of_ble_eq_true rfl)) dl_698 ⟨by decide, by decide⟩) (lw_xa hA1) hPb (lw_da hdis) hS (fun H locs hPa hPb hS => ?_)
  refine lv_aload_n hx hb dl_701 rfl (lv_at hl 1 rfl) ?_
  refine lv_aload_n hx hb dl_702 rfl (lv_at hl 3 rfl) ?_
  refine lv_iload_n hx hb dl_703 rfl (lv_at hl 0 rfl) ?_
  refine lv_iconst (v := 1) hx hb dl_704 (by decide) ?_
  refine lv_iadd hx hb dl_705 ?_
  refine lw_ld hx hb hX hbl hS (j := 1) rfl (by omega) (by omega) dl_706 ?_
  refine lv_aload_n hx hb dl_707 rfl (lv_at hl 3 rfl) ?_
  refine lv_iload_n hx hb dl_708 rfl (lv_at hl 0 rfl) ?_
  refine lv_iconst (v := 2) hx hb dl_709 (by decide) ?_
  refine lv_iadd hx hb dl_710 ?_
  refine lw_ld hx hb hX hbl hS (j := 2) rfl (by omega) (by omega) dl_711 ?_
  refine lw_ci (va_runV (As := [.int (xs (k + 1)), .int (xs (k + 2))]) (rest := [.int r]) ⟨hx, hb, hml, hown, ht2⟩ (c_RM_cmp l (D := D) b2 cm hi2 ms ((xs (k + 1))) ((xs (k + 2))) r e2 _) (kc_LL_76 ht2 ⟨by decide, by decide⟩) ⟨ct_blind, rm_rc hK2 hPb, ct_ok hPb hK2 hN⟩ rfl rfl hl.1 rfl (lv_room (Nat.le_of_ble_eq_true rfl)) dl_712 ⟨by decide, by decide⟩) (lw_xb hB1) hPa (lw_db hdis) hS (fun H locs hPb hPa hS => ?_)
  exact lv_icmp_eq hx hb dl_715 (tgt := 856) (by decide) (fun _ => kk H locs hPa hPb hS) (fun h => absurd rfl h)
set_option maxHeartbeats 4000000 in
set_option maxRecDepth 100000 in
theorem lc_12 {p : Program} {l : Launch} {e : Env} {s : State} {m : MethodId} {below : List Frame} {meth : Method} {c : Code} {b L : Nat} {xs : Nat → Int32} {D : va_G} {a b2 : Nat → Nat} {ci co cm : ClassId} (C : lw_ctx p s m c b L xs D a b2 ci co cm) (hL : L ≤ 3073) {Q : State → Prop} {st : rn_S} {ms : rm_S} {k : Nat} (hk : k + 6 ≤ L) {ls : Array Slot} {H : Heap} {locs : List Loc} (hl : lv_has ls 4 [(3, .int (nI k)), (2, .ref (b2 0)), (1, .ref (a 0)), (0, .ref b)]) (hPa : va_P D vwCl (rn_g a ci co st) H) (hPb : va_P D vwCl (rm_g b2 cm ms) H) (hS : va_S (fun q => s.heap.size ≤ q) s.heap H locs) {r : Int32} (e1 : RN_kindOf st ((xs (k + 1))) = r) (e2 : RM_kindOf ms ((xs (k + 1))) = some r)
    (kk : ∀ (H1 : Heap) (locs1 : List Loc), va_P D vwCl (rn_g a ci co st) H1 → va_P D vwCl (rm_g b2 cm ms) H1 → va_S (fun q => s.heap.size ≤ q) s.heap H1 locs1 → W p l e room_1 s m #[Value.ref b] below meth c H1 locs1 39 3283 Q (F0 m 856 ls [])) : W p l e room_1 s m #[Value.ref b] below meth c H locs 39 3283 Q (F0 m 720 ls []) := by
  obtain ⟨hx, hb, hml, hown, hts, hX, hbl, hK, hK2, hN, hi, hi2, hA1, hB1, hdis⟩ := C
  have hown : s.vm.findClass "RoundedNumbersLaw" = some m.cls := hown
  have ht2 := lw_t2 hts
  refine lv_aload_n hx hb dl_720 rfl (lv_at hl 2 rfl) ?_
  refine lv_aload_n hx hb dl_721 rfl (lv_at hl 3 rfl) ?_
  refine lv_iload_n hx hb dl_722 rfl (lv_at hl 0 rfl) ?_
  refine lv_iconst (v := 1) hx hb dl_723 (by decide) ?_
  refine lv_iadd hx hb dl_724 ?_
  refine lw_ld hx hb hX hbl hS (j := 1) rfl (by omega) (by omega) dl_725 ?_
  refine lw_ci (va_runV (As := [.int (xs (k + 1))]) (rest := []) ⟨hx, hb, hml, hown, ht2⟩ (c_RN_kindOf l (D := D) a ci co hi st ((xs (k + 1))) r e1 _) (kc_LL_77 ht2 ⟨by decide, by decide⟩) ⟨ct_blind, rn_rc0 hK hPa, ct_ok hPa hK hN⟩ rfl rfl hl.1 rfl (lv_room (Nat.le_of_ble_eq_true rfl)) dl_726 ⟨by decide, by decide⟩) (lw_xa hA1) hPb (lw_da hdis) hS (fun H locs hPa hPb hS => ?_)
  refine lv_aload_n hx hb dl_729 rfl (lv_at hl 1 rfl) ?_
  refine lv_aload_n hx hb dl_730 rfl (lv_at hl 3 rfl) ?_
  refine lv_iload_n hx hb dl_731 rfl (lv_at hl 0 rfl) ?_
  refine lv_iconst (v := 1) hx hb dl_732 (by decide) ?_
  refine lv_iadd hx hb dl_733 ?_
  refine lw_ld hx hb hX hbl hS (j := 1) rfl (by omega) (by omega) dl_734 ?_
  refine lw_ci (va_runV (As := [.int (xs (k + 1))]) (rest := [.int r]) ⟨hx, hb, hml, hown, ht2⟩ (c_RM_kindOf l (D := D) b2 cm hi2 ms ((xs (k + 1))) r e2 _) (kc_LL_81 ht2 ⟨by decide, by decide⟩) ⟨ct_blind, rm_rc hK2 hPb, ct_ok hPb hK2 hN⟩ rfl rfl hl.1 rfl (lv_room (Nat.le_of_ble_eq_true rfl)) dl_735 ⟨by decide, by decide⟩) (lw_xb hB1) hPa (lw_db hdis) hS (fun H locs hPb hPa hS => ?_)
  exact lv_icmp_eq hx hb dl_738 (tgt := 856) (by decide) (fun _ => kk H locs hPa hPb hS) (fun h => absurd rfl h)
set_option maxHeartbeats 4000000 in
set_option maxRecDepth 100000 in
theorem lc_13 {p : Program} {l : Launch} {e : Env} {s : State} {m : MethodId} {below : List Frame} {meth : Method} {c : Code} {b L : Nat} {xs : Nat → Int32} {D : va_G} {a b2 : Nat → Nat} {ci co cm : ClassId} (C : lw_ctx p s m c b L xs D a b2 ci co cm) (hL : L ≤ 3073) {Q : State → Prop} {st : rn_S} {ms : rm_S} {k : Nat} (hk : k + 6 ≤ L) {ls : Array Slot} {H : Heap} {locs : List Loc} (hl : lv_has ls 4 [(3, .int (nI k)), (2, .ref (b2 0)), (1, .ref (a 0)), (0, .ref b)]) (hPa : va_P D vwCl (rn_g a ci co st) H) (hPb : va_P D vwCl (rm_g b2 cm ms) H) (hS : va_S (fun q => s.heap.size ≤ q) s.heap H locs) {r : Int32} (e1 : RN_signOf st ((xs (k + 1))) = r) (e2 : RM_signOf ms ((xs (k + 1))) = some r)
    (kk : ∀ (H1 : Heap) (locs1 : List Loc), va_P D vwCl (rn_g a ci co st) H1 → va_P D vwCl (rm_g b2 cm ms) H1 → va_S (fun q => s.heap.size ≤ q) s.heap H1 locs1 → W p l e room_1 s m #[Value.ref b] below meth c H1 locs1 39 3283 Q (F0 m 856 ls [])) : W p l e room_1 s m #[Value.ref b] below meth c H locs 39 3283 Q (F0 m 743 ls []) := by
  obtain ⟨hx, hb, hml, hown, hts, hX, hbl, hK, hK2, hN, hi, hi2, hA1, hB1, hdis⟩ := C
  have hown : s.vm.findClass "RoundedNumbersLaw" = some m.cls := hown
  have ht2 := lw_t2 hts
  refine lv_aload_n hx hb dl_743 rfl (lv_at hl 2 rfl) ?_
  refine lv_aload_n hx hb dl_744 rfl (lv_at hl 3 rfl) ?_
  refine lv_iload_n hx hb dl_745 rfl (lv_at hl 0 rfl) ?_
  refine lv_iconst (v := 1) hx hb dl_746 (by decide) ?_
  refine lv_iadd hx hb dl_747 ?_
  refine lw_ld hx hb hX hbl hS (j := 1) rfl (by omega) (by omega) dl_748 ?_
  refine lw_ci (va_runV (As := [.int (xs (k + 1))]) (rest := []) ⟨hx, hb, hml, hown, ht2⟩ (c_RN_signOf l (D := D) a ci co hi st ((xs (k + 1))) r e1 _) (kc_LL_82 ht2 ⟨by decide, by decide⟩) ⟨ct_blind, rn_rc0 hK hPa, ct_ok hPa hK hN⟩ rfl rfl hl.1 rfl (lv_room (Nat.le_of_ble_eq_true rfl)) dl_749 ⟨by decide, by decide⟩) (lw_xa hA1) hPb (lw_da hdis) hS (fun H locs hPa hPb hS => ?_)
  refine lv_aload_n hx hb dl_752 rfl (lv_at hl 1 rfl) ?_
  refine lv_aload_n hx hb dl_753 rfl (lv_at hl 3 rfl) ?_
  refine lv_iload_n hx hb dl_754 rfl (lv_at hl 0 rfl) ?_
  refine lv_iconst (v := 1) hx hb dl_755 (by decide) ?_
  refine lv_iadd hx hb dl_756 ?_
  refine lw_ld hx hb hX hbl hS (j := 1) rfl (by omega) (by omega) dl_757 ?_
  refine lw_ci (va_runV (As := [.int (xs (k + 1))]) (rest := [.int r]) ⟨hx, hb, hml, hown, ht2⟩ (c_RM_signOf l (D := D) b2 cm hi2 ms ((xs (k + 1))) r e2 _) (kc_LL_85 ht2 ⟨by decide, by decide⟩) ⟨ct_blind, rm_rc hK2 hPb, ct_ok hPb hK2 hN⟩ rfl rfl hl.1 rfl (lv_room (Nat.le_of_ble_eq_true rfl)) dl_758 ⟨by decide, by decide⟩) (lw_xb hB1) hPa (lw_db hdis) hS (fun H locs hPb hPa hS => ?_)
  exact lv_icmp_eq hx hb dl_761 (tgt := 856) (by decide) (fun _ => kk H locs hPa hPb hS) (fun h => absurd rfl h)
set_option maxHeartbeats 4000000 in
set_option maxRecDepth 100000 in
theorem lc_14 {p : Program} {l : Launch} {e : Env} {s : State} {m : MethodId} {below : List Frame} {meth : Method} {c : Code} {b L : Nat} {xs : Nat → Int32} {D : va_G} {a b2 : Nat → Nat} {ci co cm : ClassId} (C : lw_ctx p s m c b L xs D a b2 ci co cm) (hL : L ≤ 3073) {Q : State → Prop} {st : rn_S} {ms : rm_S} {k : Nat} (hk : k + 6 ≤ L) {ls : Array Slot} {H : Heap} {locs : List Loc} (hl : lv_has ls 4 [(3, .int (nI k)), (2, .ref (b2 0)), (1, .ref (a 0)), (0, .ref b)]) (hPa : va_P D vwCl (rn_g a ci co st) H) (hPb : va_P D vwCl (rm_g b2 cm ms) H) (hS : va_S (fun q => s.heap.size ≤ q) s.heap H locs) {r : Int32} (e1 : RN_expOf st ((xs (k + 1))) = r) (e2 : RM_expOf ms ((xs (k + 1))) = some r)
    (kk : ∀ (H1 : Heap) (locs1 : List Loc), va_P D vwCl (rn_g a ci co st) H1 → va_P D vwCl (rm_g b2 cm ms) H1 → va_S (fun q => s.heap.size ≤ q) s.heap H1 locs1 → W p l e room_1 s m #[Value.ref b] below meth c H1 locs1 39 3283 Q (F0 m 856 ls [])) : W p l e room_1 s m #[Value.ref b] below meth c H locs 39 3283 Q (F0 m 766 ls []) := by
  obtain ⟨hx, hb, hml, hown, hts, hX, hbl, hK, hK2, hN, hi, hi2, hA1, hB1, hdis⟩ := C
  have hown : s.vm.findClass "RoundedNumbersLaw" = some m.cls := hown
  have ht2 := lw_t2 hts
  refine lv_aload_n hx hb dl_766 rfl (lv_at hl 2 rfl) ?_
  refine lv_aload_n hx hb dl_767 rfl (lv_at hl 3 rfl) ?_
  refine lv_iload_n hx hb dl_768 rfl (lv_at hl 0 rfl) ?_
  refine lv_iconst (v := 1) hx hb dl_769 (by decide) ?_
  refine lv_iadd hx hb dl_770 ?_
  refine lw_ld hx hb hX hbl hS (j := 1) rfl (by omega) (by omega) dl_771 ?_
  refine lw_ci (va_runV (As := [.int (xs (k + 1))]) (rest := []) ⟨hx, hb, hml, hown, ht2⟩ (c_RN_expOf l (D := D) a ci co hi st ((xs (k + 1))) r e1 _) (kc_LL_86 ht2 ⟨by decide, by decide⟩) ⟨ct_blind, rn_rc0 hK hPa, ct_ok hPa hK hN⟩ rfl rfl hl.1 rfl (lv_room (Nat.le_of_ble_eq_true rfl)) dl_772 ⟨by decide, by decide⟩) (lw_xa hA1) hPb (lw_da hdis) hS (fun H locs hPa hPb hS => ?_)
  refine lv_aload_n hx hb dl_775 rfl (lv_at hl 1 rfl) ?_
  refine lv_aload_n hx hb dl_776 rfl (lv_at hl 3 rfl) ?_
  refine lv_iload_n hx hb dl_777 rfl (lv_at hl 0 rfl) ?_
  refine lv_iconst (v := 1) hx hb dl_778 (by decide) ?_
  refine lv_iadd hx hb dl_779 ?_
  refine lw_ld hx hb hX hbl hS (j := 1) rfl (by omega) (by omega) dl_780 ?_
  refine lw_ci (va_runV (As := [.int (xs (k + 1))]) (rest := [.int r]) ⟨hx, hb, hml, hown, ht2⟩ (c_RM_expOf l (D := D) b2 cm hi2 ms ((xs (k + 1))) r e2 _) (kc_LL_89 ht2 ⟨by decide, by decide⟩) ⟨ct_blind, rm_rc hK2 hPb, ct_ok hPb hK2 hN⟩ rfl rfl hl.1 rfl (lv_room (Nat.le_of_ble_eq_true rfl)) dl_781 ⟨by decide, by decide⟩) (lw_xb hB1) hPa (lw_db hdis) hS (fun H locs hPb hPa hS => ?_)
  exact lv_icmp_eq hx hb dl_784 (tgt := 856) (by decide) (fun _ => kk H locs hPa hPb hS) (fun h => absurd rfl h)
set_option maxHeartbeats 4000000 in
set_option maxRecDepth 100000 in
theorem lc_15 {p : Program} {l : Launch} {e : Env} {s : State} {m : MethodId} {below : List Frame} {meth : Method} {c : Code} {b L : Nat} {xs : Nat → Int32} {D : va_G} {a b2 : Nat → Nat} {ci co cm : ClassId} (C : lw_ctx p s m c b L xs D a b2 ci co cm) (hL : L ≤ 3073) {Q : State → Prop} {st : rn_S} {ms : rm_S} {k : Nat} (hk : k + 6 ≤ L) {ls : Array Slot} {H : Heap} {locs : List Loc} (hl : lv_has ls 4 [(3, .int (nI k)), (2, .ref (b2 0)), (1, .ref (a 0)), (0, .ref b)]) (hPa : va_P D vwCl (rn_g a ci co st) H) (hPb : va_P D vwCl (rm_g b2 cm ms) H) (hS : va_S (fun q => s.heap.size ≤ q) s.heap H locs) {r : Int32} (e1 : RN_mantBit st ((xs (k + 1))) ((xs (k + 2))) = r) (e2 : RM_mantBit ms ((xs (k + 1))) ((xs (k + 2))) = some r)
    (kk : ∀ (H1 : Heap) (locs1 : List Loc), va_P D vwCl (rn_g a ci co st) H1 → va_P D vwCl (rm_g b2 cm ms) H1 → va_S (fun q => s.heap.size ≤ q) s.heap H1 locs1 → W p l e room_1 s m #[Value.ref b] below meth c H1 locs1 39 3283 Q (F0 m 856 ls [])) : W p l e room_1 s m #[Value.ref b] below meth c H locs 39 3283 Q (F0 m 789 ls []) := by
  obtain ⟨hx, hb, hml, hown, hts, hX, hbl, hK, hK2, hN, hi, hi2, hA1, hB1, hdis⟩ := C
  have hown : s.vm.findClass "RoundedNumbersLaw" = some m.cls := hown
  have ht2 := lw_t2 hts
  refine lv_aload_n hx hb dl_789 rfl (lv_at hl 2 rfl) ?_
  refine lv_aload_n hx hb dl_790 rfl (lv_at hl 3 rfl) ?_
  refine lv_iload_n hx hb dl_791 rfl (lv_at hl 0 rfl) ?_
  refine lv_iconst (v := 1) hx hb dl_792 (by decide) ?_
  refine lv_iadd hx hb dl_793 ?_
  refine lw_ld hx hb hX hbl hS (j := 1) rfl (by omega) (by omega) dl_794 ?_
  refine lv_aload_n hx hb dl_795 rfl (lv_at hl 3 rfl) ?_
  refine lv_iload_n hx hb dl_796 rfl (lv_at hl 0 rfl) ?_
  refine lv_iconst (v := 2) hx hb dl_797 (by decide) ?_
  refine lv_iadd hx hb dl_798 ?_
  refine lw_ld hx hb hX hbl hS (j := 2) rfl (by omega) (by omega) dl_799 ?_
  refine lw_ci (va_runV (As := [.int (xs (k + 1)), .int (xs (k + 2))]) (rest := []) ⟨hx, hb, hml, hown, ht2⟩ (c_RN_mantBit l (D := D) a ci co hi st ((xs (k + 1))) ((xs (k + 2))) r e1 _) (kc_LL_90 ht2 ⟨by decide, by decide⟩) ⟨ct_blind, rn_rc0 hK hPa, ct_ok hPa hK hN⟩ rfl rfl hl.1 rfl (lv_room (Nat.le_of_ble_eq_true rfl)) dl_800 ⟨by decide, by decide⟩) (lw_xa hA1) hPb (lw_da hdis) hS (fun H locs hPa hPb hS => ?_)
  refine lv_aload_n hx hb dl_803 rfl (lv_at hl 1 rfl) ?_
  refine lv_aload_n hx hb dl_804 rfl (lv_at hl 3 rfl) ?_
  refine lv_iload_n hx hb dl_805 rfl (lv_at hl 0 rfl) ?_
  refine lv_iconst (v := 1) hx hb dl_806 (by decide) ?_
  refine lv_iadd hx hb dl_807 ?_
  refine lw_ld hx hb hX hbl hS (j := 1) rfl (by omega) (by omega) dl_808 ?_
  refine lv_aload_n hx hb dl_809 rfl (lv_at hl 3 rfl) ?_
  refine lv_iload_n hx hb dl_810 rfl (lv_at hl 0 rfl) ?_
  refine lv_iconst (v := 2) hx hb dl_811 (by decide) ?_
  refine lv_iadd hx hb dl_812 ?_
  refine lw_ld hx hb hX hbl hS (j := 2) rfl (by omega) (by omega) dl_813 ?_
  refine lw_ci (va_runV (As := [.int (xs (k + 1)), .int (xs (k + 2))]) (rest := [.int r]) ⟨hx, hb, hml, hown, ht2⟩ (c_RM_mantBit l (D := D) b2 cm hi2 ms ((xs (k + 1))) ((xs (k + 2))) r e2 _) (kc_LL_93 ht2 ⟨by decide, by decide⟩) ⟨ct_blind, rm_rc hK2 hPb, ct_ok hPb hK2 hN⟩ rfl rfl hl.1 rfl (lv_room (Nat.le_of_ble_eq_true rfl)) dl_814 ⟨by decide, by decide⟩) (lw_xb hB1) hPa (lw_db hdis) hS (fun H locs hPb hPa hS => ?_)
  exact lv_icmp_eq hx hb dl_817 (tgt := 856) (by decide) (fun _ => kk H locs hPa hPb hS) (fun h => absurd rfl h)
set_option maxHeartbeats 4000000 in
set_option maxRecDepth 100000 in
theorem lc_16 {p : Program} {l : Launch} {e : Env} {s : State} {m : MethodId} {below : List Frame} {meth : Method} {c : Code} {b L : Nat} {xs : Nat → Int32} {D : va_G} {a b2 : Nat → Nat} {ci co cm : ClassId} (C : lw_ctx p s m c b L xs D a b2 ci co cm) (hL : L ≤ 3073) {Q : State → Prop} {st : rn_S} {ms : rm_S} {k : Nat} (hk : k + 6 ≤ L) {ls : Array Slot} {H : Heap} {locs : List Loc} (hl : lv_has ls 4 [(3, .int (nI k)), (2, .ref (b2 0)), (1, .ref (a 0)), (0, .ref b)]) (hPa : va_P D vwCl (rn_g a ci co st) H) (hPb : va_P D vwCl (rm_g b2 cm ms) H) (hS : va_S (fun q => s.heap.size ≤ q) s.heap H locs) {r : Int64} {t : rn_S} {u : rm_S} (e1 : RN_whole st ((xs (k + 1))) ((xs (k + 2))) = (r, t)) (e2 : RM_whole ms ((xs (k + 1))) ((xs (k + 2))) = some (r, u))
    (kk : ∀ (H1 : Heap) (locs1 : List Loc), va_P D vwCl (rn_g a ci co t) H1 → va_P D vwCl (rm_g b2 cm u) H1 → va_S (fun q => s.heap.size ≤ q) s.heap H1 locs1 → W p l e room_1 s m #[Value.ref b] below meth c H1 locs1 39 3283 Q (F0 m 856 ls [])) : W p l e room_1 s m #[Value.ref b] below meth c H locs 39 3283 Q (F0 m 822 ls []) := by
  obtain ⟨hx, hb, hml, hown, hts, hX, hbl, hK, hK2, hN, hi, hi2, hA1, hB1, hdis⟩ := C
  have hown : s.vm.findClass "RoundedNumbersLaw" = some m.cls := hown
  have ht2 := lw_t2 hts
  refine lv_aload_n hx hb dl_822 rfl (lv_at hl 2 rfl) ?_
  refine lv_aload_n hx hb dl_823 rfl (lv_at hl 3 rfl) ?_
  refine lv_iload_n hx hb dl_824 rfl (lv_at hl 0 rfl) ?_
  refine lv_iconst (v := 1) hx hb dl_825 (by decide) ?_
  refine lv_iadd hx hb dl_826 ?_
  refine lw_ld hx hb hX hbl hS (j := 1) rfl (by omega) (by omega) dl_827 ?_
  refine lv_aload_n hx hb dl_828 rfl (lv_at hl 3 rfl) ?_
  refine lv_iload_n hx hb dl_829 rfl (lv_at hl 0 rfl) ?_
  refine lv_iconst (v := 2) hx hb dl_830 (by decide) ?_
  refine lv_iadd hx hb dl_831 ?_
  refine lw_ld hx hb hX hbl hS (j := 2) rfl (by omega) (by omega) dl_832 ?_
  refine lw_cl (va_runV (As := [.int (xs (k + 1)), .int (xs (k + 2))]) (rest := []) ⟨hx, hb, hml, hown, ht2⟩ (c_RN_whole l (D := D) a ci co hi st ((xs (k + 1))) ((xs (k + 2))) r t e1 _) (kc_LL_94 ht2 ⟨by decide, by decide⟩) ⟨ct_blind, rn_rc0 hK hPa, ct_ok hPa hK hN⟩ rfl rfl hl.1 rfl (lv_room (Nat.le_of_ble_eq_true rfl)) dl_833 ⟨by decide, by decide⟩) (lw_xa hA1) hPb (lw_da hdis) hS (fun H locs hPa hPb hS => ?_)
  refine lv_aload_n hx hb dl_836 rfl (lv_at hl 1 rfl) ?_
  refine lv_aload_n hx hb dl_837 rfl (lv_at hl 3 rfl) ?_
  refine lv_iload_n hx hb dl_838 rfl (lv_at hl 0 rfl) ?_
  refine lv_iconst (v := 1) hx hb dl_839 (by decide) ?_
  refine lv_iadd hx hb dl_840 ?_
  refine lw_ld hx hb hX hbl hS (j := 1) rfl (by omega) (by omega) dl_841 ?_
  refine lv_aload_n hx hb dl_842 rfl (lv_at hl 3 rfl) ?_
  refine lv_iload_n hx hb dl_843 rfl (lv_at hl 0 rfl) ?_
  refine lv_iconst (v := 2) hx hb dl_844 (by decide) ?_
  refine lv_iadd hx hb dl_845 ?_
  refine lw_ld hx hb hX hbl hS (j := 2) rfl (by omega) (by omega) dl_846 ?_
  refine lw_cl (va_runV (As := [.int (xs (k + 1)), .int (xs (k + 2))]) (rest := [.long r]) ⟨hx, hb, hml, hown, ht2⟩ (c_RM_whole l (D := D) b2 cm hi2 ms ((xs (k + 1))) ((xs (k + 2))) r u e2 _) (kc_LL_98 ht2 ⟨by decide, by decide⟩) ⟨ct_blind, rm_rc hK2 hPb, ct_ok hPb hK2 hN⟩ rfl rfl hl.1 rfl (lv_room (Nat.le_of_ble_eq_true rfl)) dl_847 ⟨by decide, by decide⟩) (lw_xb hB1) hPa (lw_db hdis) hS (fun H locs hPb hPa hS => ?_)
  refine W.lcmp hx hb dl_850 ?_
  exact lv_if_eq hx hb dl_851 (tgt := 856) (by decide) (fun _ => kk H locs hPa hPb hS) (fun h => absurd ((lg_cmp_eq r r).mpr rfl) h)
