theorem ll_ci {D : va_G} {cl : List vw_C} {tys : List (ClassId × FieldType)} {s : State} {i j : Nat} {c1 c2 : ClassId} (hK : va_K D cl tys s) (h1 : tys[i]? = some (c1, .int)) (h2 : tys[j]? = some (c2, .int)) : c1 = c2 := by
  have a1 : s.vm.findClass ("[" ++ FieldType.int.toString) = some c1 := (hK.2 i _ h1).2
  have a2 : s.vm.findClass ("[" ++ FieldType.int.toString) = some c2 := (hK.2 j _ h2).2
  exact Option.some.inj (a1.symm.trans a2)
theorem ll_arr {cA : ClassId} {n : Nat} {f g : Nat → Value} (h : ∀ i, i < n → f i = g i) : arrV cA n f = arrV cA n g := by
  unfold arrV
  congr 1
  apply Array.ext
  · simp
  · intro i h1 h2
    simp only [Array.getElem_ofFn]
    exact h i (by simpa using h1)
theorem ll_at {D : va_G} {cl : List vw_C} {ws : va_W} {H : Heap} {k a : Nat} {e e' : va_E} (hP : va_P D cl ws H) (hk : ws[k]? = some (a, e)) (he : va_at D cl (a, e) H → va_at D cl (a, e') H) : va_P D cl (ws.set k (a, e')) H := by
  intro j q hj
  by_cases h : j = k
  · subst h
    have hlt : j < ws.length := (List.getElem?_eq_some_iff.mp hk).1
    rw [List.getElem?_set_self hlt] at hj
    cases hj
    exact he (hP j _ hk)
  · rw [List.getElem?_set_ne (fun e => h e.symm)] at hj
    exact hP j q hj
theorem ll_q {D : va_G} {cl : List vw_C} {ws : va_W} {H : Heap} {k a n : Nat} {co : ClassId} {f : Nat → Option Nat} (g : Nat → Option Nat) (hP : va_P D cl ws H) (hk : ws[k]? = some (a, .inl (co, n, .inr (.inr (.inr (.inr f)))))) (h : ∀ i, i < n → f i = g i) : va_P D cl (ws.set k (a, .inl (co, n, .inr (.inr (.inr (.inr g)))))) H :=
  ll_at hP hk (fun h1 => by
    show H[a]? = some (vp_cell co (n, .inr (.inr (.inr (.inr g)))))
    have h2 : H[a]? = some (vp_cell co (n, .inr (.inr (.inr (.inr f))))) := h1
    rw [h2, vp_cell_q, vp_cell_q, ll_arr (fun i hi => by rw [h i hi])])
theorem ll_i {D : va_G} {cl : List vw_C} {ws : va_W} {H : Heap} {k a n : Nat} {co : ClassId} {f : Nat → Int32} (g : Nat → Int32) (hP : va_P D cl ws H) (hk : ws[k]? = some (a, .inl (co, n, .inl f))) (h : ∀ i, i < n → f i = g i) : va_P D cl (ws.set k (a, .inl (co, n, .inl g))) H :=
  ll_at hP hk (fun h1 => by
    show H[a]? = some (vp_cell co (n, .inl g))
    have h2 : H[a]? = some (vp_cell co (n, .inl f)) := h1
    rw [h2, vp_cell_i, vp_cell_i, ll_arr (fun i hi => by rw [h i hi])])
theorem ll_8 {α : Type} {f g : Nat → α} (h0 : f 0 = g 0) (h1 : f 1 = g 1) (h2 : f 2 = g 2) (h3 : f 3 = g 3) (h4 : f 4 = g 4) (h5 : f 5 = g 5) (h6 : f 6 = g 6) (h7 : f 7 = g 7) : ∀ i, i < 8 → f i = g i := by
  intro i hi
  rcases (show i = 0 ∨ i = 1 ∨ i = 2 ∨ i = 3 ∨ i = 4 ∨ i = 5 ∨ i = 6 ∨ i = 7 by omega) with h | h | h | h | h | h | h | h <;> subst h <;> assumption
def f8_g (q : Nat) (ci : ClassId) (f : Nat → Int32) : va_W := [(q, .inl (ci, 8, .inl f))]
theorem f8_D1 {q : Nat} {e : va_E} {A : Nat → Prop} (h : A q) : va_D A [(q, e)] := by
  refine ⟨fun i j p r hp hr _ => ?_, fun k r hr => ?_⟩
  · have h1 : i < 1 := (List.getElem?_eq_some_iff.mp hp).1
    have h2 : j < 1 := (List.getElem?_eq_some_iff.mp hr).1
    omega
  · have h1 : k < 1 := (List.getElem?_eq_some_iff.mp hr).1
    have h2 : k = 0 := by omega
    subst h2
    cases hr
    exact h
theorem f8_A {q x sz : Nat} {e : va_E} (h : ct_F (fun y => y = q) sz x) : va_A [(q, e)] sz x := by
  rcases h with h | h
  · have h1 : x = q := h
    subst h1
    exact Or.inl ⟨0, e, rfl⟩
  · exact Or.inr h
theorem f8_D {q sz : Nat} {e e' : va_E} : va_D (va_A [(q, e)] sz) [(q, e')] := f8_D1 (Or.inl ⟨0, e, rfl⟩)
set_option maxHeartbeats 4000000 in
set_option maxRecDepth 100000 in
theorem c_JA_fill8 (l : Launch) {D : va_G} (q : Nat) (ci : ClassId) (f : Nat → Int32) (v : Int32) : ct_v l ⟨"java/util/Arrays", "fill", "([II)V"⟩ (.code ⟨"java/util/Arrays", "fill", "([II)V"⟩ prog_9_method_103_code 4 none :: ct_T) { frames := 0, cells := 0, slots := 0, locals := 0 } D vwCl [(ci, .int)] (f8_g q ci) (fun y => y = q) [.ref q, .int v] f (fun _ => v) := by
  refine ct_v.mk (cc := prog_9_method_103_code) (maxL := 4) (by decide) rfl (Nat.le_of_ble_eq_true rfl) ?_
  intro p e s m below meth c hx hb hr hml hown hts hlk hK hN hP hS ls hl
  have hl : lv_has ls 4 [(0, .ref q), (1, .int v)] := hl
  refine lv_iconst (v := 0) hx hb d_JA_fill_exl_0 (by decide) ?_
  refine lv_istore_n (lv' := [(2, .int (0 : Int32)), (0, .ref q), (1, .int v)]) hx hb d_JA_fill_exl_1 rfl hl (by decide) rfl (fun ls hl => ?_)
  refine lv_aload_n hx hb d_JA_fill_exl_2 rfl (lv_at hl 1 rfl) ?_
  refine va_alen hx hb hK hP 0 0 rfl rfl (v := 8) rfl d_JA_fill_exl_3 ?_
  refine lv_istore_n (lv' := [(3, .int (8 : Int32)), (2, .int (0 : Int32)), (0, .ref q), (1, .int v)]) hx hb d_JA_fill_exl_4 rfl hl (by decide) rfl (fun ls hl => ?_)
  refine ct_loop2 (fun n (x : Int32) (f1 : Nat → Int32) ls H locs => lv_has ls 4 [(3, .int (8 : Int32)), (2, .int x), (0, .ref q), (1, .int v)] ∧ (∃ k, x = nI k ∧ k < 2147483648 ∧ 8 - k < n ∧ ∀ j, j < k → j < 8 → f1 j = v) ∧ va_P D vwCl (f8_g q ci f1) H ∧ va_S (ct_F (fun y => y = q) s.heap.size) s.heap H locs) 5 ?_ ?_ 9 (0 : Int32) f ⟨lv_sub hl [0, 1, 2, 3] rfl, ⟨0, rfl, by omega, by omega, fun j hj => absurd hj (Nat.not_lt_zero _)⟩, hP, hS⟩
  · intro x f1 ls H locs hq
    obtain ⟨hl, ⟨k, e9, hk, hn, hf⟩, hP, hS⟩ := hq
    exact absurd hn (Nat.not_lt_zero _)
  · intro n5 ih5 x f1 ls H locs hq
    obtain ⟨hl, ⟨k5, e9, hk5, hn5, hf⟩, hP, hS⟩ := hq
    subst e9
    refine lv_iload_n hx hb d_JA_fill_exl_5 rfl (lv_at hl 1 rfl) ?_
    refine lv_iload_n hx hb d_JA_fill_exl_6 rfl (lv_at hl 0 rfl) ?_
    refine lv_icmp_ge hx hb d_JA_fill_exl_7 (tgt := 20) (by decide) (fun c7 => ?_) (fun c7 => ?_)
    · have hk8 : 8 ≤ k5 := by
        rw [show (8 : Int32) = nI 8 from rfl, nI_leI (by omega) (by omega)] at c7
        exact c7
      have hP2 : va_P D vwCl (f8_g q ci (fun _ => v)) H := ll_i (k := 0) (fun _ => v) hP rfl (fun i hi => hf i (by omega) hi)
      exact ct_vret hx hb hr hlk hP2 hS d_JA_fill_exl_20
    · have hk9 : k5 < 8 := nk_lt hk5 rfl (by decide) c7
      refine lv_aload_n hx hb d_JA_fill_exl_10 rfl (lv_at hl 2 rfl) ?_
      refine lv_iload_n hx hb d_JA_fill_exl_11 rfl (lv_at hl 1 rfl) ?_
      refine lv_iload_n hx hb d_JA_fill_exl_12 rfl (lv_at hl 3 rfl) ?_
      refine va_iast (A := ct_F (fun y => y = q) s.heap.size) hx hb hK hP (f8_D1 (Or.inl rfl)) hS 0 0 rfl rfl (nk_in (N := 8) hk5 rfl (by decide) c7) d_JA_fill_exl_13 (fun H locs hP _ hS => ?_)
      refine lv_iinc (v := nI (k5 + 1)) (lv' := [(2, .int (nI (k5 + 1))), (3, .int (8 : Int32)), (0, .ref q), (1, .int v)]) hx hb d_JA_fill_exl_14 hl (k := 1) rfl (nI_1 k5) (by decide) rfl (fun ls hl => ?_)
      refine lv_goto hx hb d_JA_fill_exl_17 (tgt := 5) (by decide) ?_
      refine ih5 (nI (k5 + 1)) (upd f1 (nI k5).toNatClampNeg v) _ _ _ ⟨lv_sub hl [1, 0, 2, 3] rfl, ⟨k5 + 1, rfl, by omega, by omega, fun j hj h8 => ?_⟩, hP, hS⟩
      rw [nI_clamp (by omega)]
      unfold upd
      by_cases h : j = k5
      · rw [if_pos h]
      · rw [if_neg h]
        exact hf j (by omega) h8
theorem d_RV_init_0 : decode prog_3_method_1_code 0 = .ok (.aload_n 0, 1) := by decide +kernel
theorem d_RV_init_1 : decode prog_3_method_1_code 1 = .ok (.invokespecial 3, 3) := by decide +kernel
theorem d_RV_init_4 : decode prog_3_method_1_code 4 = .ok (.aload_n 0, 1) := by decide +kernel
theorem d_RV_init_5 : decode prog_3_method_1_code 5 = .ok (.iload_n 1, 1) := by decide +kernel
theorem d_RV_init_6 : decode prog_3_method_1_code 6 = .ok (.newarray .int, 2) := by decide +kernel
theorem d_RV_init_8 : decode prog_3_method_1_code 8 = .ok (.putfield 9, 3) := by decide +kernel
theorem d_RV_init_11 : decode prog_3_method_1_code 11 = .ok (.aload_n 0, 1) := by decide +kernel
theorem d_RV_init_12 : decode prog_3_method_1_code 12 = .ok (.iconst 0, 1) := by decide +kernel
theorem d_RV_init_13 : decode prog_3_method_1_code 13 = .ok (.putfield 15, 3) := by decide +kernel
theorem d_RV_init_16 : decode prog_3_method_1_code 16 = .ok (.return_, 1) := by decide +kernel
set_option maxHeartbeats 8000000 in
set_option maxRecDepth 100000 in
theorem c_RV_init (l : Launch) {D : va_G} (h0 sz : Nat) (N : Nat) (hN9 : N < 100) : Met l ⟨"RoundedNumbers$Value", "<init>", "(I)V"⟩ (.code ⟨"RoundedNumbers$Value", "<init>", "(I)V"⟩ prog_3_method_1_code 2 none :: ct_T) { frames := 1, cells := 1, slots := N, locals := 12 } (va_Pc [.ref h0, .int (nI N)] (fun U => U.heap.size = sz ∧ va_P D vwCl [(h0, .inr (1, [.null, .int 0, .int 0, .int 0]))] U.heap ∧ va_K D vwCl [] U ∧ va_D (fun _ => True) [(h0, .inr (1, [.null, .int 0, .int 0, .int 0]))])) (va_Qv (fun _ : Nat × ClassId => True) (fun u t => va_P D vwCl [(h0, .inr (1, [.ref u.1, .int 0, .int 0, .int 0])), (u.1, .inl (u.2, N, .inl (fun _ => 0)))] t.heap ∧ va_K D vwCl [(u.2, .int)] t ∧ va_D (va_A [(h0, .inr (1, [.null, .int 0, .int 0, .int 0]))] sz) [(h0, .inr (1, [.ref u.1, .int 0, .int 0, .int 0])), (u.1, .inl (u.2, N, .inl (fun _ => 0)))]) (va_A [(h0, .inr (1, [.null, .int 0, .int 0, .int 0]))] sz)) 1 N (va_A [(h0, .inr (1, [.null, .int 0, .int 0, .int 0]))] sz) := by
  refine Met.ofW (cc := prog_3_method_1_code) (maxL := 2) (ret := none) (by decide) rfl ?_
  intro p e s m args below meth c s₁ B hml hv
  obtain ⟨rfl, hsz, hP, hK, hD0⟩ := hv
  have hx := B.exec
  have hb := B.bytes
  have hr := B.returns
  have hts := atoms_spec (ws := .code ⟨"RoundedNumbers$Value", "<init>", "(I)V"⟩ prog_3_method_1_code 2 none :: ct_T) B.pre
  have htb := fun w h => hts w (List.mem_cons_of_mem _ h)
  have hown : s.vm.findClass "RoundedNumbers$Value" = some m.cls := findClass_of_methodNamed B.named
  have hlk := B.notSynchronized
  have hin : meth.name = "<init>" := (name_of_methodNamed B.named B.method).1
  subst hsz
  have hD := hD0.self (sz := s.heap.size)
  generalize hAe : va_A [(h0, .inr (1, [.null, .int 0, .int 0, .int 0]))] s.heap.size = A at hD ⊢
  have hA : ∀ q : Nat, s.heap.size ≤ q → A q := fun q h => by rw [← hAe]; exact Or.inr h
  have hS : va_S A s.heap s.heap [] := va_S.rf
  have hP : va_P D vwCl [(h0, .inr (1, [.null, .int 0, .int 0, .int 0]))] s.heap := hP
  have hl := lv_entry ([.ref h0, .int (nI N)]) (n := 2) (Nat.le_of_ble_eq_true rfl)
  rw [lg_entry_eq]
  generalize (lg_sl ([.ref h0, .int (nI N)]) ++ List.replicate (2 - (lg_sl ([.ref h0, .int (nI N)])).length) Slot.unset).toArray = ls at hl ⊢
  have hl : lv_has ls 2 [(0, .ref h0), (1, .int (nI N))] := hl
  refine lv_aload_n hx hb d_RV_init_0 rfl (lv_at hl 0 rfl) ?_
  refine W.objInit hx hb hown (htb _ mw_228) (htb _ mw_229) (htb _ mw_230) rfl (by rw [hml]; exact hl.1) rfl d_RV_init_1 (Nat.le_of_ble_eq_true rfl) (Nat.le_of_ble_eq_true rfl) ?_
  refine W.eq (g2 := F0 m 4 ls []) rfl ?_
  refine lv_aload_n hx hb d_RV_init_4 rfl (lv_at hl 0 rfl) ?_
  refine lv_iload_n hx hb d_RV_init_5 rfl (lv_at hl 1 rfl) ?_
  refine va_newa (atype := .int) (ty := .int) (N' := N) (a0 := (N, .inl (fun _ => 0))) hx hb (htb _ mw_231) rfl hK hP hD hS hA (fun _ => rfl) (nI_pos (by omega)) (nI_clamp (by omega)) (show N * 4 ≤ 536870912 by omega) (Nat.le_of_ble_eq_true rfl) (by show 0 + N ≤ N; omega) d_RV_init_6 (fun q6 k6 H hK hP hD hS => ?_)
  have hP : va_P D vwCl [(h0, .inr (1, [.null, .int 0, .int 0, .int 0])), (q6, .inl (k6, N, .inl (fun _ => 0)))] H := hP
  have hD : va_D A [(h0, .inr (1, [.null, .int 0, .int 0, .int 0])), (q6, .inl (k6, N, .inl (fun _ => 0)))] := hD
  have hK : va_K D vwCl [(k6, .int)] s := hK
  refine W.widen (k := 1) (n := N) (by omega) (by omega) ?_
  refine va_putF (D := D) (ci := 1) (v := .ref q6) (ty := .array .int) (C := cn_RV) (T := ft_RV) (N := 4) hx hb htb ly_RV fy_RV fy_RV_ok ft_RV_n hown hK hP hD hS 0 rfl rfl 0 (by decide) (htb _ mw_15) (fun _ h9 => h9) rfl hin rfl (by decide +kernel) rfl rfl (Nat.le_of_ble_eq_true rfl) d_RV_init_8 (fun H locs hP hD hS => ?_)
  have hP : va_P D vwCl [(h0, .inr (1, [.ref q6, .int 0, .int 0, .int 0])), (q6, .inl (k6, N, .inl (fun _ => 0)))] H := hP
  have hD : va_D A [(h0, .inr (1, [.ref q6, .int 0, .int 0, .int 0])), (q6, .inl (k6, N, .inl (fun _ => 0)))] := hD
  refine lv_aload_n hx hb d_RV_init_11 rfl (lv_at hl 0 rfl) ?_
  refine lv_iconst (v := 0) hx hb d_RV_init_12 (by decide) ?_
  refine va_put (D := D) (ci := 1) (v := .int 0) (ty := .int) (C := cn_RV) (T := ft_RV) (N := 4) hx hb htb ly_RV fy_RV fy_RV_ok ft_RV_n hown hK hP hD hS 0 rfl rfl 1 (by decide) (htb _ mw_0) (fun _ h9 => h9) rfl (by decide +kernel) rfl rfl (Nat.le_of_ble_eq_true rfl) d_RV_init_13 (fun H locs hP hD hS => ?_)
  have hP : va_P D vwCl [(h0, .inr (1, [.ref q6, .int 0, .int 0, .int 0])), (q6, .inl (k6, N, .inl (fun _ => 0)))] H := hP
  have hD : va_D A [(h0, .inr (1, [.ref q6, .int 0, .int 0, .int 0])), (q6, .inl (k6, N, .inl (fun _ => 0)))] := hD
  exact W.vret hx hb hr (fun t ht hW => ⟨⟨(q6, k6), rfl, trivial, (by show va_P D vwCl _ t.heap; rw [ht]; exact hP), va_K.moved hW.alike hK, hD⟩, hS.F ht⟩) hS.2.2 d_RV_init_16 hlk
theorem d_RE_init_0 : decode prog_2_method_1_code 0 = .ok (.aload_n 0, 1) := by decide +kernel
theorem d_RE_init_1 : decode prog_2_method_1_code 1 = .ok (.invokespecial 3, 3) := by decide +kernel
theorem d_RE_init_4 : decode prog_2_method_1_code 4 = .ok (.aload_n 0, 1) := by decide +kernel
theorem d_RE_init_5 : decode prog_2_method_1_code 5 = .ok (.bipush 33, 2) := by decide +kernel
theorem d_RE_init_7 : decode prog_2_method_1_code 7 = .ok (.newarray .int, 2) := by decide +kernel
theorem d_RE_init_9 : decode prog_2_method_1_code 9 = .ok (.putfield 9, 3) := by decide +kernel
theorem d_RE_init_12 : decode prog_2_method_1_code 12 = .ok (.return_, 1) := by decide +kernel
set_option maxHeartbeats 8000000 in
set_option maxRecDepth 100000 in
theorem c_RE_init (l : Launch) {D : va_G} (h0 sz : Nat) : Met l ⟨"RoundedNumbers$Exact", "<init>", "()V"⟩ (.code ⟨"RoundedNumbers$Exact", "<init>", "()V"⟩ prog_2_method_1_code 1 none :: ct_T) { frames := 1, cells := 1, slots := 33, locals := 12 } (va_Pc [.ref h0] (fun U => U.heap.size = sz ∧ va_P D vwCl [(h0, .inr (2, [.null]))] U.heap ∧ va_K D vwCl [] U ∧ va_D (fun _ => True) [(h0, .inr (2, [.null]))])) (va_Qv (fun _ : Nat × ClassId => True) (fun u t => va_P D vwCl [(h0, .inr (2, [.ref u.1])), (u.1, .inl (u.2, 33, .inl (fun _ => 0)))] t.heap ∧ va_K D vwCl [(u.2, .int)] t ∧ va_D (va_A [(h0, .inr (2, [.null]))] sz) [(h0, .inr (2, [.ref u.1])), (u.1, .inl (u.2, 33, .inl (fun _ => 0)))]) (va_A [(h0, .inr (2, [.null]))] sz)) 1 33 (va_A [(h0, .inr (2, [.null]))] sz) := by
  refine Met.ofW (cc := prog_2_method_1_code) (maxL := 1) (ret := none) (by decide) rfl ?_
  intro p e s m args below meth c s₁ B hml hv
  obtain ⟨rfl, hsz, hP, hK, hD0⟩ := hv
  have hx := B.exec
  have hb := B.bytes
  have hr := B.returns
  have hts := atoms_spec (ws := .code ⟨"RoundedNumbers$Exact", "<init>", "()V"⟩ prog_2_method_1_code 1 none :: ct_T) B.pre
  have htb := fun w h => hts w (List.mem_cons_of_mem _ h)
  have hown : s.vm.findClass "RoundedNumbers$Exact" = some m.cls := findClass_of_methodNamed B.named
  have hlk := B.notSynchronized
  have hin : meth.name = "<init>" := (name_of_methodNamed B.named B.method).1
  subst hsz
  have hD := hD0.self (sz := s.heap.size)
  generalize hAe : va_A [(h0, .inr (2, [.null]))] s.heap.size = A at hD ⊢
  have hA : ∀ q : Nat, s.heap.size ≤ q → A q := fun q h => by rw [← hAe]; exact Or.inr h
  have hS : va_S A s.heap s.heap [] := va_S.rf
  have hP : va_P D vwCl [(h0, .inr (2, [.null]))] s.heap := hP
  have hl := lv_entry ([.ref h0]) (n := 1) (Nat.le_of_ble_eq_true rfl)
  rw [lg_entry_eq]
  generalize (lg_sl ([.ref h0]) ++ List.replicate (1 - (lg_sl ([.ref h0])).length) Slot.unset).toArray = ls at hl ⊢
  have hl : lv_has ls 1 [(0, .ref h0)] := hl
  refine lv_aload_n hx hb d_RE_init_0 rfl (lv_at hl 0 rfl) ?_
  refine W.objInit hx hb hown (htb _ mw_232) (htb _ mw_229) (htb _ mw_230) rfl (by rw [hml]; exact hl.1) rfl d_RE_init_1 (Nat.le_of_ble_eq_true rfl) (Nat.le_of_ble_eq_true rfl) ?_
  refine W.eq (g2 := F0 m 4 ls []) rfl ?_
  refine lv_aload_n hx hb d_RE_init_4 rfl (lv_at hl 0 rfl) ?_
  refine lv_bipush (v := 33) hx hb d_RE_init_5 (by decide) ?_
  refine va_newa (atype := .int) (ty := .int) (N' := 33) (a0 := (33, .inl (fun _ => 0))) hx hb (htb _ mw_231) rfl hK hP hD hS hA (fun _ => rfl) (by decide) rfl (by decide) (Nat.le_of_ble_eq_true rfl) (by decide) d_RE_init_7 (fun q7 k7 H hK hP hD hS => ?_)
  have hP : va_P D vwCl [(h0, .inr (2, [.null])), (q7, .inl (k7, 33, .inl (fun _ => 0)))] H := hP
  have hD : va_D A [(h0, .inr (2, [.null])), (q7, .inl (k7, 33, .inl (fun _ => 0)))] := hD
  have hK : va_K D vwCl [(k7, .int)] s := hK
  refine W.widen (k := 1) (n := 33) (by omega) (by omega) ?_
  refine va_putF (D := D) (ci := 2) (v := .ref q7) (ty := .array .int) (C := cn_RE) (T := ft_RE) (N := 1) hx hb htb ly_RE fy_RE fy_RE_ok ft_RE_n hown hK hP hD hS 0 rfl rfl 0 (by decide) (htb _ mw_17) (fun _ h9 => h9) rfl hin rfl (by decide +kernel) rfl rfl (Nat.le_of_ble_eq_true rfl) d_RE_init_9 (fun H locs hP hD hS => ?_)
  have hP : va_P D vwCl [(h0, .inr (2, [.ref q7])), (q7, .inl (k7, 33, .inl (fun _ => 0)))] H := hP
  have hD : va_D A [(h0, .inr (2, [.ref q7])), (q7, .inl (k7, 33, .inl (fun _ => 0)))] := hD
  refine W.widen (k := 1) (n := 33) (by omega) (by omega) ?_
  exact W.vret hx hb hr (fun t ht hW => ⟨⟨(q7, k7), rfl, trivial, (by show va_P D vwCl _ t.heap; rw [ht]; exact hP), va_K.moved hW.alike hK, hD⟩, hS.F ht⟩) hS.2.2 d_RE_init_12 hlk
theorem d_RW_init_0 : decode prog_4_method_1_code 0 = .ok (.aload_n 0, 1) := by decide +kernel
theorem d_RW_init_1 : decode prog_4_method_1_code 1 = .ok (.invokespecial 5, 3) := by decide +kernel
theorem d_RW_init_4 : decode prog_4_method_1_code 4 = .ok (.return_, 1) := by decide +kernel
set_option maxHeartbeats 8000000 in
set_option maxRecDepth 100000 in
theorem c_RW_init (l : Launch) {D : va_G} (h0 sz : Nat) : Met l ⟨"RoundedNumbers$Wide", "<init>", "()V"⟩ (.code ⟨"RoundedNumbers$Wide", "<init>", "()V"⟩ prog_4_method_1_code 1 none :: ct_T) { frames := 1, cells := 0, slots := 0, locals := 12 } (va_Pc [.ref h0] (fun U => U.heap.size = sz ∧ va_P D vwCl [(h0, .inr (3, [.long 0, .long 0]))] U.heap ∧ va_K D vwCl [] U ∧ va_D (fun _ => True) [(h0, .inr (3, [.long 0, .long 0]))])) (va_Qv (fun _ : Unit => True) (fun u t => va_P D vwCl [(h0, .inr (3, [.long 0, .long 0]))] t.heap ∧ va_K D vwCl [] t ∧ va_D (va_A [(h0, .inr (3, [.long 0, .long 0]))] sz) [(h0, .inr (3, [.long 0, .long 0]))]) (va_A [(h0, .inr (3, [.long 0, .long 0]))] sz)) 0 0 (va_A [(h0, .inr (3, [.long 0, .long 0]))] sz) := by
  refine Met.ofW (cc := prog_4_method_1_code) (maxL := 1) (ret := none) (by decide) rfl ?_
  intro p e s m args below meth c s₁ B hml hv
  obtain ⟨rfl, hsz, hP, hK, hD0⟩ := hv
  have hx := B.exec
  have hb := B.bytes
  have hr := B.returns
  have hts := atoms_spec (ws := .code ⟨"RoundedNumbers$Wide", "<init>", "()V"⟩ prog_4_method_1_code 1 none :: ct_T) B.pre
  have htb := fun w h => hts w (List.mem_cons_of_mem _ h)
  have hown : s.vm.findClass "RoundedNumbers$Wide" = some m.cls := findClass_of_methodNamed B.named
  have hlk := B.notSynchronized
  have hin : meth.name = "<init>" := (name_of_methodNamed B.named B.method).1
  subst hsz
  have hD := hD0.self (sz := s.heap.size)
  generalize hAe : va_A [(h0, .inr (3, [.long 0, .long 0]))] s.heap.size = A at hD ⊢
  have hA : ∀ q : Nat, s.heap.size ≤ q → A q := fun q h => by rw [← hAe]; exact Or.inr h
  have hS : va_S A s.heap s.heap [] := va_S.rf
  have hP : va_P D vwCl [(h0, .inr (3, [.long 0, .long 0]))] s.heap := hP
  have hl := lv_entry ([.ref h0]) (n := 1) (Nat.le_of_ble_eq_true rfl)
  rw [lg_entry_eq]
  generalize (lg_sl ([.ref h0]) ++ List.replicate (1 - (lg_sl ([.ref h0])).length) Slot.unset).toArray = ls at hl ⊢
  have hl : lv_has ls 1 [(0, .ref h0)] := hl
  refine lv_aload_n hx hb d_RW_init_0 rfl (lv_at hl 0 rfl) ?_
  refine W.objInit hx hb hown (htb _ mw_233) (htb _ mw_229) (htb _ mw_230) rfl (by rw [hml]; exact hl.1) rfl d_RW_init_1 (Nat.le_of_ble_eq_true rfl) (Nat.le_of_ble_eq_true rfl) ?_
  refine W.eq (g2 := F0 m 4 ls []) rfl ?_
  refine W.widen (k := 0) (n := 0) (by omega) (by omega) ?_
  exact W.vret hx hb hr (fun t ht hW => ⟨⟨(), rfl, trivial, (by show va_P D vwCl _ t.heap; rw [ht]; exact hP), va_K.moved hW.alike hK, hD⟩, hS.F ht⟩) hS.2.2 d_RW_init_4 hlk
def rn_clamp (b : Int32) : Int32 := if (1 : Int32) < (if b < 93 then b else 93) then (if b < 93 then b else 93) else 1
def rn_init (v : Int32) : rn_S := (fun _ => v, fun _ => 0, fun _ => 0, fun _ => 0, fun _ _ => 0, fun _ => 0, fun _ => 0, fun _ => 0)
