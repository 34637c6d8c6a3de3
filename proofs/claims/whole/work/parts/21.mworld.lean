/-! The reference's cells: its object and ten rows of ints. A state: row's number (1 .. 10), place. -/
abbrev rm_S : Type := Nat → Nat → Int32
def rm_up (st : rm_S) (k j : Nat) (x : Int32) : rm_S := fun q => if q = k then upd (st k) j x else st q
def rm_len (k : Nat) : Nat := if k ≤ 4 then 8 else if k = 5 then 744 else if k ≤ 7 then 1024 else 104
def rm_inj (a : Nat → Nat) : Prop := ∀ i j, i < 11 → j < 11 → a i = a j → i = j
def rm_X (a : Nat → Nat) : Nat → Prop := fun q => ∃ k, k < 11 ∧ a k = q
def rm_a (a : Nat → Nat) (ci : ClassId) (st : rm_S) (k : Nat) : Nat × va_E := (a k, .inl (ci, rm_len k, .inl (st k)))
def rm_g (a : Nat → Nat) (ci : ClassId) (st : rm_S) : va_W := [(a 0, .inr (4, [.ref (a 1), .ref (a 2), .ref (a 3), .ref (a 4), .ref (a 5), .ref (a 6), .ref (a 7), .ref (a 8), .ref (a 9), .ref (a 10)])), rm_a a ci st 1, rm_a a ci st 2, rm_a a ci st 3, rm_a a ci st 4, rm_a a ci st 5, rm_a a ci st 6, rm_a a ci st 7, rm_a a ci st 8, rm_a a ci st 9, rm_a a ci st 10]
abbrev rm_T (ci : ClassId) : List (ClassId × FieldType) := [(ci, .int)]
def ob_in (x : Int32) (n : Nat) : Bool := decide (0 ≤ x.toInt) && decide (x.toInt < n)
theorem ob_vi {x : Int32} {n : Nat} (h : ob_in x n = true) : vp_in x n := by
  unfold ob_in at h
  rw [Bool.and_eq_true, decide_eq_true_eq, decide_eq_true_eq] at h
  exact vp_in_iff.mpr h
def ob_z (x : Int32) : Bool := decide (x = 0) || decide (x = 1)
theorem ob_zn {x : Int32} (h : ob_z x = true) : narrow .boolean (.int x) = .int x := by
  unfold ob_z at h
  rw [Bool.or_eq_true, decide_eq_true_eq, decide_eq_true_eq] at h
  rcases h with rfl | rfl <;> decide
theorem ob_if {α : Type} {c : Prop} [Decidable c] {x : Option α} {r : α} (h : (if c then x else none) = some r) : c ∧ x = some r := by
  by_cases hc : c
  · rw [if_pos hc] at h
    exact ⟨hc, h⟩
  · rw [if_neg hc] at h
    cases h
def ob1 {α β : Type} (x : Option α) (f : α → Option β) : Option β := x.bind f
def ob2 {α β γ : Type} (x : Option (α × β)) (f : α → β → Option γ) : Option γ := x.bind (fun q => f q.1 q.2)
theorem ob_one {α β : Type} {x : Option α} {f : α → Option β} {r : β} (h : ob1 x f = some r) : ∃ z, x = some z ∧ f z = some r := Option.bind_eq_some_iff.mp h
theorem ob_two {α β γ : Type} {x : Option (α × β)} {f : α → β → Option γ} {r : γ} (h : ob2 x f = some r) : ∃ y z, x = some (y, z) ∧ f y z = some r := by
  obtain ⟨q, h1, h2⟩ := Option.bind_eq_some_iff.mp h
  exact ⟨q.1, q.2, h1, h2⟩
theorem rm_fst (a : Nat → Nat) (ci : ClassId) (st : rm_S) : (rm_g a ci st).map Prod.fst = (List.range 11).map a := rfl
theorem rm_adr {a : Nat → Nat} {ci : ClassId} {st : rm_S} {k : Nat} {q : Nat × va_E} (h : (rm_g a ci st)[k]? = some q) : k < 11 ∧ a k = q.1 := by
  have h1 : ((rm_g a ci st).map Prod.fst)[k]? = some q.1 := by rw [List.getElem?_map, h]; rfl
  rw [rm_fst, List.getElem?_map] at h1
  by_cases hk : k < 11
  · rw [List.getElem?_range hk] at h1
    exact ⟨hk, Option.some.inj h1⟩
  · rw [List.getElem?_eq_none (by simp; omega)] at h1
    cases h1
theorem rm_D {a : Nat → Nat} {ci : ClassId} {st : rm_S} {sz : Nat} (hi : rm_inj a) : va_D (ct_F (rm_X a) sz) (rm_g a ci st) := by
  refine ⟨fun i j p q hp hq e => ?_, fun k q hq => ?_⟩
  · obtain ⟨h1, h2⟩ := rm_adr hp
    obtain ⟨h3, h4⟩ := rm_adr hq
    exact hi i j h1 h3 (by rw [h2, h4, e])
  · obtain ⟨h1, h2⟩ := rm_adr hq
    exact Or.inl ⟨k, h1, h2⟩
theorem rm_c {P : Nat → Prop} (h1 : P 1) (h2 : P 2) (h3 : P 3) (h4 : P 4) (h5 : P 5) (h6 : P 6) (h7 : P 7) (h8 : P 8) (h9 : P 9) (h10 : P 10) {v : Nat} (h0 : 0 < v) (hv : v < 11) : P v := by
  rcases (show v = 1 ∨ v = 2 ∨ v = 3 ∨ v = 4 ∨ v = 5 ∨ v = 6 ∨ v = 7 ∨ v = 8 ∨ v = 9 ∨ v = 10 by omega) with h | h | h | h | h | h | h | h | h | h <;> subst h <;> assumption
theorem rm_at {a : Nat → Nat} {ci : ClassId} {st : rm_S} {k : Nat} (h0 : 0 < k) (hk : k < 11) : (rm_g a ci st)[k]? = some (rm_a a ci st k) := rm_c (P := fun k => (rm_g a ci st)[k]? = some (rm_a a ci st k)) rfl rfl rfl rfl rfl rfl rfl rfl rfl rfl h0 hk
theorem rm_upg {a : Nat → Nat} {ci : ClassId} {st : rm_S} {k j : Nat} {x : Int32} (h0 : 0 < k) (hk : k < 11) : (rm_g a ci st).set k (a k, .inl (ci, rm_len k, .inl (upd (st k) j x))) = rm_g a ci (rm_up st k j x) := rm_c (P := fun k => (rm_g a ci st).set k (a k, .inl (ci, rm_len k, .inl (upd (st k) j x))) = rm_g a ci (rm_up st k j x)) rfl rfl rfl rfl rfl rfl rfl rfl rfl rfl h0 hk
section RMR
variable {p : Program} {l : Launch} {e : Env} {R : Room} {s : State} {m : MethodId} {args : Array Value} {below : List Frame} {meth : Method} {c : Code} {H : Heap} {locs : List Loc} {cells slots : Nat} {Q : State → Prop} {pc : Nat} {ls : Array Slot} {rest : List Value} {cc : ByteArray} {D : va_G} {a : Nat → Nat} {ci : ClassId} {st : rm_S}
theorem rm_ald (hx : p.tables.exec = Jvm.exec) (hb : c.code = cc) (hK : va_K D vwCl (rm_T ci) s) (hP : va_P D vwCl (rm_g a ci st) H) {k : Nat} (h0 : 0 < k) (hk : k < 11) {x : Int32} (hin : vp_in x (rm_len k)) (hdg : decode cc pc = .ok (.iaload, 1)) (kk : W p l e R s m args below meth c H locs cells slots Q (F0 m (pc + 1) ls (.int (st k x.toNatClampNeg) :: rest))) : W p l e R s m args below meth c H locs cells slots Q (F0 m pc ls (.int x :: .ref (a k) :: rest)) := va_iald hx hb hK hP k 0 (rm_at h0 hk) rfl hin hdg kk
theorem rm_ast (hx : p.tables.exec = Jvm.exec) (hb : c.code = cc) (hK : va_K D vwCl (rm_T ci) s) (hP : va_P D vwCl (rm_g a ci st) H) (hS : va_S (ct_F (rm_X a) s.heap.size) s.heap H locs) (hi : rm_inj a) {k : Nat} (h0 : 0 < k) (hk : k < 11) {x y : Int32} (hin : vp_in x (rm_len k)) (hdg : decode cc pc = .ok (.iastore, 1)) (kk : ∀ (H1 : Heap) (locs1 : List Loc), va_P D vwCl (rm_g a ci (rm_up st k x.toNatClampNeg y)) H1 → va_S (ct_F (rm_X a) s.heap.size) s.heap H1 locs1 → W p l e R s m args below meth c H1 locs1 cells slots Q (F0 m (pc + 1) ls rest)) : W p l e R s m args below meth c H locs cells slots Q (F0 m pc ls (.int y :: .int x :: .ref (a k) :: rest)) := va_iast hx hb hK hP (rm_D hi) hS k 0 (rm_at h0 hk) rfl hin hdg (fun H1 locs1 hP1 _ hS1 => kk H1 locs1 (by rw [← rm_upg h0 hk]; exact hP1) hS1)
theorem rm_rc (hK : va_K D vwCl (rm_T ci) s) (hP : va_P D vwCl (rm_g a ci st) H) : ∃ cell : Cell, H[a 0]? = some cell ∧ cell.vm.isStatics = false ∧ s.vm.findClass "RoundedNumbersModel" = some cell.cls := va_recv (ci := 4) (q0 := 0) hK hP rfl rfl
theorem gf_RM_7 (hx : p.tables.exec = Jvm.exec) (hb : c.code = cc) (htb : ∀ w ∈ ct_T, w.before args s = true) (hown : s.vm.findClass "RoundedNumbersModel" = some m.cls) (hK : va_K D vwCl (rm_T ci) s) (hP : va_P D vwCl (rm_g a ci st) H) (hdg : decode cc pc = .ok (.getfield 7, 3)) (kk : W p l e R s m args below meth c H locs cells slots Q (F0 m (pc + 3) ls (.ref (a 1) :: rest))) : W p l e R s m args below meth c H locs cells slots Q (F0 m pc ls (.ref (a 0) :: rest)) := va_get (ci := 4) (C := cn_RM) (T := ft_RM) (N := 10) hx hb htb ly_RM hown hK hP 0 rfl rfl 0 (by decide) (htb _ mw_259) (fun _ h => h) rfl hdg kk
theorem gf_RM_13 (hx : p.tables.exec = Jvm.exec) (hb : c.code = cc) (htb : ∀ w ∈ ct_T, w.before args s = true) (hown : s.vm.findClass "RoundedNumbersModel" = some m.cls) (hK : va_K D vwCl (rm_T ci) s) (hP : va_P D vwCl (rm_g a ci st) H) (hdg : decode cc pc = .ok (.getfield 13, 3)) (kk : W p l e R s m args below meth c H locs cells slots Q (F0 m (pc + 3) ls (.ref (a 2) :: rest))) : W p l e R s m args below meth c H locs cells slots Q (F0 m pc ls (.ref (a 0) :: rest)) := va_get (ci := 4) (C := cn_RM) (T := ft_RM) (N := 10) hx hb htb ly_RM hown hK hP 0 rfl rfl 1 (by decide) (htb _ mw_260) (fun _ h => h) rfl hdg kk
theorem gf_RM_16 (hx : p.tables.exec = Jvm.exec) (hb : c.code = cc) (htb : ∀ w ∈ ct_T, w.before args s = true) (hown : s.vm.findClass "RoundedNumbersModel" = some m.cls) (hK : va_K D vwCl (rm_T ci) s) (hP : va_P D vwCl (rm_g a ci st) H) (hdg : decode cc pc = .ok (.getfield 16, 3)) (kk : W p l e R s m args below meth c H locs cells slots Q (F0 m (pc + 3) ls (.ref (a 3) :: rest))) : W p l e R s m args below meth c H locs cells slots Q (F0 m pc ls (.ref (a 0) :: rest)) := va_get (ci := 4) (C := cn_RM) (T := ft_RM) (N := 10) hx hb htb ly_RM hown hK hP 0 rfl rfl 2 (by decide) (htb _ mw_261) (fun _ h => h) rfl hdg kk
theorem gf_RM_19 (hx : p.tables.exec = Jvm.exec) (hb : c.code = cc) (htb : ∀ w ∈ ct_T, w.before args s = true) (hown : s.vm.findClass "RoundedNumbersModel" = some m.cls) (hK : va_K D vwCl (rm_T ci) s) (hP : va_P D vwCl (rm_g a ci st) H) (hdg : decode cc pc = .ok (.getfield 19, 3)) (kk : W p l e R s m args below meth c H locs cells slots Q (F0 m (pc + 3) ls (.ref (a 4) :: rest))) : W p l e R s m args below meth c H locs cells slots Q (F0 m pc ls (.ref (a 0) :: rest)) := va_get (ci := 4) (C := cn_RM) (T := ft_RM) (N := 10) hx hb htb ly_RM hown hK hP 0 rfl rfl 3 (by decide) (htb _ mw_262) (fun _ h => h) rfl hdg kk
theorem gf_RM_22 (hx : p.tables.exec = Jvm.exec) (hb : c.code = cc) (htb : ∀ w ∈ ct_T, w.before args s = true) (hown : s.vm.findClass "RoundedNumbersModel" = some m.cls) (hK : va_K D vwCl (rm_T ci) s) (hP : va_P D vwCl (rm_g a ci st) H) (hdg : decode cc pc = .ok (.getfield 22, 3)) (kk : W p l e R s m args below meth c H locs cells slots Q (F0 m (pc + 3) ls (.ref (a 5) :: rest))) : W p l e R s m args below meth c H locs cells slots Q (F0 m pc ls (.ref (a 0) :: rest)) := va_get (ci := 4) (C := cn_RM) (T := ft_RM) (N := 10) hx hb htb ly_RM hown hK hP 0 rfl rfl 4 (by decide) (htb _ mw_263) (fun _ h => h) rfl hdg kk
theorem gf_RM_25 (hx : p.tables.exec = Jvm.exec) (hb : c.code = cc) (htb : ∀ w ∈ ct_T, w.before args s = true) (hown : s.vm.findClass "RoundedNumbersModel" = some m.cls) (hK : va_K D vwCl (rm_T ci) s) (hP : va_P D vwCl (rm_g a ci st) H) (hdg : decode cc pc = .ok (.getfield 25, 3)) (kk : W p l e R s m args below meth c H locs cells slots Q (F0 m (pc + 3) ls (.ref (a 6) :: rest))) : W p l e R s m args below meth c H locs cells slots Q (F0 m pc ls (.ref (a 0) :: rest)) := va_get (ci := 4) (C := cn_RM) (T := ft_RM) (N := 10) hx hb htb ly_RM hown hK hP 0 rfl rfl 5 (by decide) (htb _ mw_264) (fun _ h => h) rfl hdg kk
theorem gf_RM_28 (hx : p.tables.exec = Jvm.exec) (hb : c.code = cc) (htb : ∀ w ∈ ct_T, w.before args s = true) (hown : s.vm.findClass "RoundedNumbersModel" = some m.cls) (hK : va_K D vwCl (rm_T ci) s) (hP : va_P D vwCl (rm_g a ci st) H) (hdg : decode cc pc = .ok (.getfield 28, 3)) (kk : W p l e R s m args below meth c H locs cells slots Q (F0 m (pc + 3) ls (.ref (a 7) :: rest))) : W p l e R s m args below meth c H locs cells slots Q (F0 m pc ls (.ref (a 0) :: rest)) := va_get (ci := 4) (C := cn_RM) (T := ft_RM) (N := 10) hx hb htb ly_RM hown hK hP 0 rfl rfl 6 (by decide) (htb _ mw_280) (fun _ h => h) rfl hdg kk
theorem gf_RM_31 (hx : p.tables.exec = Jvm.exec) (hb : c.code = cc) (htb : ∀ w ∈ ct_T, w.before args s = true) (hown : s.vm.findClass "RoundedNumbersModel" = some m.cls) (hK : va_K D vwCl (rm_T ci) s) (hP : va_P D vwCl (rm_g a ci st) H) (hdg : decode cc pc = .ok (.getfield 31, 3)) (kk : W p l e R s m args below meth c H locs cells slots Q (F0 m (pc + 3) ls (.ref (a 8) :: rest))) : W p l e R s m args below meth c H locs cells slots Q (F0 m pc ls (.ref (a 0) :: rest)) := va_get (ci := 4) (C := cn_RM) (T := ft_RM) (N := 10) hx hb htb ly_RM hown hK hP 0 rfl rfl 7 (by decide) (htb _ mw_340) (fun _ h => h) rfl hdg kk
theorem gf_RM_34 (hx : p.tables.exec = Jvm.exec) (hb : c.code = cc) (htb : ∀ w ∈ ct_T, w.before args s = true) (hown : s.vm.findClass "RoundedNumbersModel" = some m.cls) (hK : va_K D vwCl (rm_T ci) s) (hP : va_P D vwCl (rm_g a ci st) H) (hdg : decode cc pc = .ok (.getfield 34, 3)) (kk : W p l e R s m args below meth c H locs cells slots Q (F0 m (pc + 3) ls (.ref (a 9) :: rest))) : W p l e R s m args below meth c H locs cells slots Q (F0 m pc ls (.ref (a 0) :: rest)) := va_get (ci := 4) (C := cn_RM) (T := ft_RM) (N := 10) hx hb htb ly_RM hown hK hP 0 rfl rfl 8 (by decide) (htb _ mw_341) (fun _ h => h) rfl hdg kk
theorem gf_RM_37 (hx : p.tables.exec = Jvm.exec) (hb : c.code = cc) (htb : ∀ w ∈ ct_T, w.before args s = true) (hown : s.vm.findClass "RoundedNumbersModel" = some m.cls) (hK : va_K D vwCl (rm_T ci) s) (hP : va_P D vwCl (rm_g a ci st) H) (hdg : decode cc pc = .ok (.getfield 37, 3)) (kk : W p l e R s m args below meth c H locs cells slots Q (F0 m (pc + 3) ls (.ref (a 10) :: rest))) : W p l e R s m args below meth c H locs cells slots Q (F0 m pc ls (.ref (a 0) :: rest)) := va_get (ci := 4) (C := cn_RM) (T := ft_RM) (N := 10) hx hb htb ly_RM hown hK hP 0 rfl rfl 9 (by decide) (htb _ mw_366) (fun _ h => h) rfl hdg kk
end RMR
