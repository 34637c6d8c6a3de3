/-! Generic rows of mine over the kit: contracts of methods that make no cell, in a world 'g st' of cells at fixed places; cuts and loops of W; names in pure terms. -/
-- names inside pure terms
def nm {α β : Type} (x : α) (f : α → β) : β := f x
def bd {α β γ : Type} (x : α × β) (f : α → β → γ) : γ := f x.1 x.2
theorem nm_eq {α β : Type} {x z : α} {f : α → β} (h : x = z) : nm x f = f z := by subst h; rfl
theorem bd_eq {α β γ : Type} {x : α × β} {r : α} {t : β} {f : α → β → γ} (h : x = (r, t)) : bd x f = f r t := by subst h; rfl
theorem nm_ex {α : Type} (x : α) : ∃ z, x = z := ⟨x, rfl⟩
theorem bd_ex {α β : Type} (x : α × β) : ∃ r t, x = (r, t) := ⟨x.1, x.2, rfl⟩
section CTW
variable {p : Program} {l : Launch} {e : Env} {R : Room} {s : State} {m : MethodId} {args : Array Value} {below : List Frame} {meth : Method} {c : Code} {H : Heap} {locs : List Loc} {cells slots : Nat} {Q : State → Prop} {pc : Nat} {ls : Array Slot} {st0 : List Value}
theorem ct_cut0 (P : Array Slot → Heap → List Loc → Prop) (K : Nat) (stk : List Value) (kK : ∀ ls H locs, P ls H locs → W p l e R s m args below meth c H locs cells slots Q (F0 m K ls stk)) (k : (∀ ls H locs, P ls H locs → W p l e R s m args below meth c H locs cells slots Q (F0 m K ls stk)) → W p l e R s m args below meth c H locs cells slots Q (F0 m pc ls st0)) : W p l e R s m args below meth c H locs cells slots Q (F0 m pc ls st0) := k kK
theorem ct_cut1 {α : Type} (P : α → Array Slot → Heap → List Loc → Prop) (K : Nat) (stk : α → List Value) (kK : ∀ x ls H locs, P x ls H locs → W p l e R s m args below meth c H locs cells slots Q (F0 m K ls (stk x))) (k : (∀ x ls H locs, P x ls H locs → W p l e R s m args below meth c H locs cells slots Q (F0 m K ls (stk x))) → W p l e R s m args below meth c H locs cells slots Q (F0 m pc ls st0)) : W p l e R s m args below meth c H locs cells slots Q (F0 m pc ls st0) := k kK
theorem ct_cut2 {α β : Type} (P : α → β → Array Slot → Heap → List Loc → Prop) (K : Nat) (stk : α → β → List Value) (kK : ∀ x y ls H locs, P x y ls H locs → W p l e R s m args below meth c H locs cells slots Q (F0 m K ls (stk x y))) (k : (∀ x y ls H locs, P x y ls H locs → W p l e R s m args below meth c H locs cells slots Q (F0 m K ls (stk x y))) → W p l e R s m args below meth c H locs cells slots Q (F0 m pc ls st0)) : W p l e R s m args below meth c H locs cells slots Q (F0 m pc ls st0) := k kK
theorem ct_cut3 {α β γ : Type} (P : α → β → γ → Array Slot → Heap → List Loc → Prop) (K : Nat) (stk : α → β → γ → List Value) (kK : ∀ x y z ls H locs, P x y z ls H locs → W p l e R s m args below meth c H locs cells slots Q (F0 m K ls (stk x y z))) (k : (∀ x y z ls H locs, P x y z ls H locs → W p l e R s m args below meth c H locs cells slots Q (F0 m K ls (stk x y z))) → W p l e R s m args below meth c H locs cells slots Q (F0 m pc ls st0)) : W p l e R s m args below meth c H locs cells slots Q (F0 m pc ls st0) := k kK
theorem ct_loop1 {α : Type} (P : Nat → α → Array Slot → Heap → List Loc → Prop) (K : Nat) (zero : ∀ x ls H locs, P 0 x ls H locs → W p l e R s m args below meth c H locs cells slots Q (F0 m K ls []))
    (step : ∀ n, (∀ x ls H locs, P n x ls H locs → W p l e R s m args below meth c H locs cells slots Q (F0 m K ls [])) → ∀ x ls H locs, P (n + 1) x ls H locs → W p l e R s m args below meth c H locs cells slots Q (F0 m K ls [])) (n : Nat) (x : α) (h : P n x ls H locs) : W p l e R s m args below meth c H locs cells slots Q (F0 m K ls []) := by
  have key : ∀ n x ls H locs, P n x ls H locs → W p l e R s m args below meth c H locs cells slots Q (F0 m K ls []) := by
    intro n
    induction n with
    | zero => exact zero
    | succ n ih => exact step n ih
  exact key n x ls H locs h
theorem ct_loop2 {α β : Type} (P : Nat → α → β → Array Slot → Heap → List Loc → Prop) (K : Nat) (zero : ∀ x y ls H locs, P 0 x y ls H locs → W p l e R s m args below meth c H locs cells slots Q (F0 m K ls []))
    (step : ∀ n, (∀ x y ls H locs, P n x y ls H locs → W p l e R s m args below meth c H locs cells slots Q (F0 m K ls [])) → ∀ x y ls H locs, P (n + 1) x y ls H locs → W p l e R s m args below meth c H locs cells slots Q (F0 m K ls [])) (n : Nat) (x : α) (y : β) (h : P n x y ls H locs) : W p l e R s m args below meth c H locs cells slots Q (F0 m K ls []) := by
  have key : ∀ n x y ls H locs, P n x y ls H locs → W p l e R s m args below meth c H locs cells slots Q (F0 m K ls []) := by
    intro n
    induction n with
    | zero => exact zero
    | succ n ih => exact step n ih
  exact key n x y ls H locs h
theorem ct_loop3 {α β γ : Type} (P : Nat → α → β → γ → Array Slot → Heap → List Loc → Prop) (K : Nat) (zero : ∀ x y z ls H locs, P 0 x y z ls H locs → W p l e R s m args below meth c H locs cells slots Q (F0 m K ls []))
    (step : ∀ n, (∀ x y z ls H locs, P n x y z ls H locs → W p l e R s m args below meth c H locs cells slots Q (F0 m K ls [])) → ∀ x y z ls H locs, P (n + 1) x y z ls H locs → W p l e R s m args below meth c H locs cells slots Q (F0 m K ls [])) (n : Nat) (x : α) (y : β) (z : γ) (h : P n x y z ls H locs) : W p l e R s m args below meth c H locs cells slots Q (F0 m K ls []) := by
  have key : ∀ n x y z ls H locs, P n x y z ls H locs → W p l e R s m args below meth c H locs cells slots Q (F0 m K ls []) := by
    intro n
    induction n with
    | zero => exact zero
    | succ n ih => exact step n ih
  exact key n x y z ls H locs h
end CTW
-- nest mates' words: they stay as the tables warm
def ct_nest : Cond → Bool
  | .fieldLinkNest .. => true
  | .methodLinkNest .. => true
  | _ => false
def ct_nw (U : State) : Prop := ∀ w ∈ lw_tbl, ct_nest w = true → va_Nw w U
theorem ct_nw.warm {s U : State} (hW : s.WarmedH U.vm) (h : ct_nw s) : ct_nw U := by
  intro w hw hn
  have h1 := h w hw hn
  cases w <;> simp [ct_nest] at hn
  · exact va_Nw.warmM hW h1
  · exact va_Nw.warmF hW h1
theorem ct_nw.calling {U : State} {g : JFrame} {mk : MethodId} {a : Array Value} (h : ct_nw U) : ct_nw (U.calling g mk a) := by
  intro w hw hn
  have h1 := h w hw hn
  have ho : w.onTables = true := by cases w <;> simp [ct_nest] at hn <;> rfl
  exact va_Nw.same (u := U) (U := U.calling g mk a) ho rfl h1
-- the contracts
def ct_F (X : Nat → Prop) (sz : Nat) : Nat → Prop := fun q => X q ∨ sz ≤ q
def ct_pre {S : Type} (D : va_G) (cl : List vw_C) (tys : List (ClassId × FieldType)) (g : S → va_W) (av : List Value) (sz : Nat) (st : S) : Array Value → State → Prop :=
  va_Pc av (fun U => U.heap.size = sz ∧ va_P D cl (g st) U.heap ∧ va_K D cl tys U ∧ ct_nw U)
def ct_i {S : Type} (l : Launch) (y : MethodName) (ws : List Cond) (rm : Room) (D : va_G) (cl : List vw_C) (tys : List (ClassId × FieldType)) (g : S → va_W) (X : Nat → Prop) (av : List Value) (st : S) (r : Int32) (t : S) : Prop :=
  ∀ sz : Nat, Met l y ws rm (ct_pre D cl tys g av sz st) (va_Qi (fun x (_ : Unit) => x = r) (fun _ T => va_P D cl (g t) T.heap) (ct_F X sz)) 0 0 (ct_F X sz)
def ct_l {S : Type} (l : Launch) (y : MethodName) (ws : List Cond) (rm : Room) (D : va_G) (cl : List vw_C) (tys : List (ClassId × FieldType)) (g : S → va_W) (X : Nat → Prop) (av : List Value) (st : S) (r : Int64) (t : S) : Prop :=
  ∀ sz : Nat, Met l y ws rm (ct_pre D cl tys g av sz st) (va_Ql (fun x (_ : Unit) => x = r) (fun _ T => va_P D cl (g t) T.heap) (ct_F X sz)) 0 0 (ct_F X sz)
def ct_v {S : Type} (l : Launch) (y : MethodName) (ws : List Cond) (rm : Room) (D : va_G) (cl : List vw_C) (tys : List (ClassId × FieldType)) (g : S → va_W) (X : Nat → Prop) (av : List Value) (st : S) (t : S) : Prop :=
  ∀ sz : Nat, Met l y ws rm (ct_pre D cl tys g av sz st) (va_Qv (fun _ : Unit => True) (fun _ T => va_P D cl (g t) T.heap) (ct_F X sz)) 0 0 (ct_F X sz)
theorem ct_sub {X : Nat → Prop} {A0 B0 : Nat} (h : A0 ≤ B0) : ∀ q, ct_F X B0 q → ct_F X A0 q := fun _ hq => hq.elim Or.inl (fun h2 => Or.inr (Nat.le_trans h h2))
section CTE
variable {S : Type} {l : Launch} {y : MethodName} {ws ws' : List Cond} {rm : Room} {D : va_G} {cl : List vw_C} {tys : List (ClassId × FieldType)} {g : S → va_W} {X : Nat → Prop} {av : List Value} {st t : S} {cc : ByteArray} {maxL : Nat}
theorem ct_i.mk {r : Int32} {rt : FieldType} (hy : plainName y.cls = true) (hw : ws = Cond.code y cc maxL (some rt) :: ws') (hav : (lg_sl av).length ≤ maxL)
    (body : ∀ p e s m below meth c, p.tables.exec = Jvm.exec → c.code = cc → meth.sig.returnType = some rt → c.maxLocals = maxL → s.vm.findClass y.cls = some m.cls → (∀ w ∈ ws, w.before av.toArray s = true) → meth.locks = false → va_K D cl tys s → ct_nw s → va_P D cl (g st) s.heap → va_S (ct_F X s.heap.size) s.heap s.heap [] → ∀ ls, lv_has ls maxL (lv_args 0 av) →
      W p l e rm s m av.toArray below meth c s.heap [] 0 0 (MQ below (va_Qi (fun x (_ : Unit) => x = r) (fun _ T => va_P D cl (g t) T.heap) (ct_F X s.heap.size)) av.toArray s 0 0 (ct_F X s.heap.size)) (F0 m 0 ls [])) : ct_i l y ws rm D cl tys g X av st r t := by
  intro sz
  refine Met.ofW (cc := cc) (maxL := maxL) (ret := some rt) hy hw ?_
  intro p e s m args below meth c s₁ B hml hv
  obtain ⟨rfl, hsz, hP, hK, hN⟩ := hv
  subst hsz
  rw [lg_entry_eq]
  exact body p e s m below meth c B.exec B.bytes B.returns hml (findClass_of_methodNamed B.named) (atoms_spec B.pre) B.notSynchronized hK hN hP va_S.rf _ (lv_entry av hav)
theorem ct_l.mk {r : Int64} (hy : plainName y.cls = true) (hw : ws = Cond.code y cc maxL (some .long) :: ws') (hav : (lg_sl av).length ≤ maxL)
    (body : ∀ p e s m below meth c, p.tables.exec = Jvm.exec → c.code = cc → meth.sig.returnType = some .long → c.maxLocals = maxL → s.vm.findClass y.cls = some m.cls → (∀ w ∈ ws, w.before av.toArray s = true) → meth.locks = false → va_K D cl tys s → ct_nw s → va_P D cl (g st) s.heap → va_S (ct_F X s.heap.size) s.heap s.heap [] → ∀ ls, lv_has ls maxL (lv_args 0 av) →
      W p l e rm s m av.toArray below meth c s.heap [] 0 0 (MQ below (va_Ql (fun x (_ : Unit) => x = r) (fun _ T => va_P D cl (g t) T.heap) (ct_F X s.heap.size)) av.toArray s 0 0 (ct_F X s.heap.size)) (F0 m 0 ls [])) : ct_l l y ws rm D cl tys g X av st r t := by
  intro sz
  refine Met.ofW (cc := cc) (maxL := maxL) (ret := some .long) hy hw ?_
  intro p e s m args below meth c s₁ B hml hv
  obtain ⟨rfl, hsz, hP, hK, hN⟩ := hv
  subst hsz
  rw [lg_entry_eq]
  exact body p e s m below meth c B.exec B.bytes B.returns hml (findClass_of_methodNamed B.named) (atoms_spec B.pre) B.notSynchronized hK hN hP va_S.rf _ (lv_entry av hav)
theorem ct_v.mk (hy : plainName y.cls = true) (hw : ws = Cond.code y cc maxL none :: ws') (hav : (lg_sl av).length ≤ maxL)
    (body : ∀ p e s m below meth c, p.tables.exec = Jvm.exec → c.code = cc → meth.sig.returnType = none → c.maxLocals = maxL → s.vm.findClass y.cls = some m.cls → (∀ w ∈ ws, w.before av.toArray s = true) → meth.locks = false → va_K D cl tys s → ct_nw s → va_P D cl (g st) s.heap → va_S (ct_F X s.heap.size) s.heap s.heap [] → ∀ ls, lv_has ls maxL (lv_args 0 av) →
      W p l e rm s m av.toArray below meth c s.heap [] 0 0 (MQ below (va_Qv (fun _ : Unit => True) (fun _ T => va_P D cl (g t) T.heap) (ct_F X s.heap.size)) av.toArray s 0 0 (ct_F X s.heap.size)) (F0 m 0 ls [])) : ct_v l y ws rm D cl tys g X av st t := by
  intro sz
  refine Met.ofW (cc := cc) (maxL := maxL) (ret := none) hy hw ?_
  intro p e s m args below meth c s₁ B hml hv
  obtain ⟨rfl, hsz, hP, hK, hN⟩ := hv
  subst hsz
  rw [lg_entry_eq]
  exact body p e s m below meth c B.exec B.bytes B.returns hml (findClass_of_methodNamed B.named) (atoms_spec B.pre) B.notSynchronized hK hN hP va_S.rf _ (lv_entry av hav)
end CTE
section CTR
variable {S : Type} {D : va_G} {cl : List vw_C} {g : S → va_W} {X : Nat → Prop} {t : S} {cc : ByteArray}
variable {p : Program} {l : Launch} {e : Env} {R : Room} {s : State} {m : MethodId} {args : Array Value} {below : List Frame} {meth : Method} {c : Code} {H : Heap} {locs : List Loc} {cells slots : Nat} {pc : Nat} {ls : Array Slot}
theorem ct_iret {r : Int32} (hx : p.tables.exec = Jvm.exec) (hb : c.code = cc) (hr : meth.sig.returnType = some .int) (hlk : meth.locks = false) (hP : va_P D cl (g t) H) (hS : va_S (ct_F X s.heap.size) s.heap H locs) (hdg : decode cc pc = .ok (.ireturn, 1)) :
    W p l e R s m args below meth c H locs cells slots (MQ below (va_Qi (fun x (_ : Unit) => x = r) (fun _ T => va_P D cl (g t) T.heap) (ct_F X s.heap.size)) args s cells slots (ct_F X s.heap.size)) (F0 m pc ls [.int r]) :=
  W.iret (v := r) hx hb hr (fun t' ht hW => ⟨⟨r, (), rfl, rfl, (by show va_P D cl (g t) t'.heap; rw [ht]; exact hP)⟩, hS.F ht⟩) hS.2.2 hdg hlk
theorem ct_zret {r : Int32} {rt : FieldType} (hx : p.tables.exec = Jvm.exec) (hb : c.code = cc) (hr : meth.sig.returnType = some rt) (hlk : meth.locks = false) (hn : narrow rt (.int r) = .int r) (hP : va_P D cl (g t) H) (hS : va_S (ct_F X s.heap.size) s.heap H locs) (hdg : decode cc pc = .ok (.ireturn, 1)) :
    W p l e R s m args below meth c H locs cells slots (MQ below (va_Qi (fun x (_ : Unit) => x = r) (fun _ T => va_P D cl (g t) T.heap) (ct_F X s.heap.size)) args s cells slots (ct_F X s.heap.size)) (F0 m pc ls [.int r]) :=
  W.zret (v := r) hx hb hr hn (fun t' ht hW => ⟨⟨r, (), rfl, rfl, (by show va_P D cl (g t) t'.heap; rw [ht]; exact hP)⟩, hS.F ht⟩) hS.2.2 hdg hlk
theorem ct_lret {r : Int64} (hx : p.tables.exec = Jvm.exec) (hb : c.code = cc) (hr : meth.sig.returnType = some .long) (hlk : meth.locks = false) (hP : va_P D cl (g t) H) (hS : va_S (ct_F X s.heap.size) s.heap H locs) (hdg : decode cc pc = .ok (.lreturn, 1)) :
    W p l e R s m args below meth c H locs cells slots (MQ below (va_Ql (fun x (_ : Unit) => x = r) (fun _ T => va_P D cl (g t) T.heap) (ct_F X s.heap.size)) args s cells slots (ct_F X s.heap.size)) (F0 m pc ls [.long r]) :=
  W.lret (v := r) hx hb hr (fun t' ht hW => ⟨⟨r, (), rfl, rfl, (by show va_P D cl (g t) t'.heap; rw [ht]; exact hP)⟩, hS.F ht⟩) hS.2.2 hdg hlk
theorem ct_vret (hx : p.tables.exec = Jvm.exec) (hb : c.code = cc) (hr : meth.sig.returnType = none) (hlk : meth.locks = false) (hP : va_P D cl (g t) H) (hS : va_S (ct_F X s.heap.size) s.heap H locs) (hdg : decode cc pc = .ok (.return_, 1)) :
    W p l e R s m args below meth c H locs cells slots (MQ below (va_Qv (fun _ : Unit => True) (fun _ T => va_P D cl (g t) T.heap) (ct_F X s.heap.size)) args s cells slots (ct_F X s.heap.size)) (F0 m pc ls []) :=
  W.vret hx hb hr (fun t' ht hW => ⟨⟨(), rfl, trivial, (by show va_P D cl (g t) t'.heap; rw [ht]; exact hP)⟩, hS.F ht⟩) hS.2.2 hdg hlk
end CTR
-- the words: one list for all methods
def ct_T : List Cond := lw_tbl.filter goodWord
theorem ct_in {w : Cond} (h : w ∈ tables_1) (hg : goodWord w = true) : w ∈ ct_T := List.mem_filter.mpr ⟨List.mem_append_right _ h, hg⟩
theorem ct_ins {w : Cond} (h : w ∈ k2_sels lw_privs) (hg : goodWord w = true) : w ∈ ct_T := List.mem_filter.mpr ⟨List.mem_append_left _ h, hg⟩
theorem ct_good {w : Cond} (h : w ∈ ct_T) : (w.onTables && w.keeps) = true ∨ ∃ ty, w = .arrayClass ty := good_of_word (List.mem_filter.mp h).2
theorem ct_gi {c0 : Cond} {xs : List Cond} (h : ∀ w ∈ xs, w ∈ ct_T) : GoodIn (c0 :: ct_T) xs := fun w hw => ⟨List.mem_cons_of_mem _ (h w hw), ct_good (h w hw)⟩
theorem ct_giV {c0 w1 w2 w3 w4 w5 : Cond} (h1 : w1 ∈ ct_T) (h2 : w2 ∈ ct_T) (h3 : w3 ∈ ct_T) (h4 : w4 ∈ ct_T) (h5 : w5 ∈ ct_T) : GoodIn (c0 :: ct_T) (([w1, w2, w3, w4] : List Cond) ++ w5 :: ct_T) := ct_gi (fun w hw => by
  rcases List.mem_append.mp hw with h | h
  · simp only [List.mem_cons, List.not_mem_nil, or_false] at h
    rcases h with rfl | rfl | rfl | rfl <;> assumption
  · rcases List.mem_cons.mp h with rfl | h
    · exact h5
    · exact h)
theorem ct_giS {c0 w1 w2 w3 w5 : Cond} (h1 : w1 ∈ ct_T) (h2 : w2 ∈ ct_T) (h3 : w3 ∈ ct_T) (h5 : w5 ∈ ct_T) : GoodIn (c0 :: ct_T) (([w1, w2, w3] : List Cond) ++ w5 :: ct_T) := ct_gi (fun w hw => by
  rcases List.mem_append.mp hw with h | h
  · simp only [List.mem_cons, List.not_mem_nil, or_false] at h
    rcases h with rfl | rfl | rfl <;> assumption
  · rcases List.mem_cons.mp h with rfl | h
    · exact h5
    · exact h)
theorem ct_giN {c0 w5 : Cond} (h5 : w5 ∈ ct_T) : GoodIn (c0 :: ct_T) (w5 :: ct_T) := ct_gi (fun w hw => by
  rcases List.mem_cons.mp hw with rfl | h
  · exact h5
  · exact h)
section CTC
variable {S : Type} {D : va_G} {cl : List vw_C} {tys : List (ClassId × FieldType)} {g : S → va_W} {X : Nat → Prop} {st t : S} {cc : ByteArray} {av : List Value}
theorem ct_blind {sz : Nat} : FrameBlind (ct_pre D cl tys g av sz st) := fun a U g' mk q => by
  obtain ⟨q0, q1, qP, qK, qN⟩ := q
  exact ⟨q0, q1, qP, va_K.moved (u := U) (U := U.calling g' mk a) (Vm.Alike.refl U.vm) qK, qN.calling⟩
theorem ct_ok {s : State} {H : Heap} (hP : va_P D cl (g st) H) (hK : va_K D cl tys s) (hN : ct_nw s) : ∀ U : State, U.heap = H → s.WarmedH U.vm → ct_pre D cl tys g av H.size st av.toArray U := fun U hU hW => ⟨rfl, by rw [hU], by rw [hU]; exact hP, va_K.moved hW.alike hK, hN.warm hW⟩
variable {p : Program} {l : Launch} {e : Env} {R : Room} {s : State} {m : MethodId} {args : Array Value} {below : List Frame} {meth : Method} {c : Code} {H : Heap} {locs : List Loc} {cells slots : Nat} {Q : State → Prop} {pc : Nat} {ls : Array Slot} {st0 rest : List Value} {a : Array Value}
theorem ct_calli {r : Int32} (hr : va_Run p l e R s m args below meth c H locs cells slots 0 0 (F0 m pc ls st0) rest (va_Qi (fun x (_ : Unit) => x = r) (fun _ T => va_P D cl (g t) T.heap) (ct_F X H.size) a) (ct_F X H.size)) (hS : va_S (ct_F X s.heap.size) s.heap H locs)
    (kk : ∀ (H1 : Heap) (locs1 : List Loc), va_P D cl (g t) H1 → va_S (ct_F X s.heap.size) s.heap H1 locs1 → W p l e R s m args below meth c H1 locs1 cells slots Q (F0 m (pc + 3) ls (.int r :: rest))) : W p l e R s m args below meth c H locs cells slots Q (F0 m pc ls st0) :=
  va_calli hr hS (fun q _ h => ct_sub hS.1 q h) (ct_sub hS.1) (fun r' u t' H1 locs1 ht hvm hp hB hz hk hS1 => by
    subst hp
    rw [ht] at hB
    exact kk H1 locs1 hB hS1)
theorem ct_calll {r : Int64} (hr : va_Run p l e R s m args below meth c H locs cells slots 0 0 (F0 m pc ls st0) rest (va_Ql (fun x (_ : Unit) => x = r) (fun _ T => va_P D cl (g t) T.heap) (ct_F X H.size) a) (ct_F X H.size)) (hS : va_S (ct_F X s.heap.size) s.heap H locs)
    (kk : ∀ (H1 : Heap) (locs1 : List Loc), va_P D cl (g t) H1 → va_S (ct_F X s.heap.size) s.heap H1 locs1 → W p l e R s m args below meth c H1 locs1 cells slots Q (F0 m (pc + 3) ls (.long r :: rest))) : W p l e R s m args below meth c H locs cells slots Q (F0 m pc ls st0) :=
  va_calll hr hS (fun q _ h => ct_sub hS.1 q h) (ct_sub hS.1) (fun r' u t' H1 locs1 ht hvm hp hB hz hk hS1 => by
    subst hp
    rw [ht] at hB
    exact kk H1 locs1 hB hS1)
theorem ct_callv (hr : va_Run p l e R s m args below meth c H locs cells slots 0 0 (F0 m pc ls st0) rest (va_Qv (fun _ : Unit => True) (fun _ T => va_P D cl (g t) T.heap) (ct_F X H.size) a) (ct_F X H.size)) (hS : va_S (ct_F X s.heap.size) s.heap H locs)
    (kk : ∀ (H1 : Heap) (locs1 : List Loc), va_P D cl (g t) H1 → va_S (ct_F X s.heap.size) s.heap H1 locs1 → W p l e R s m args below meth c H1 locs1 cells slots Q (F0 m (pc + 3) ls rest)) : W p l e R s m args below meth c H locs cells slots Q (F0 m pc ls st0) :=
  va_callv hr hS (fun q _ h => ct_sub hS.1 q h) (ct_sub hS.1) (fun u t' H1 locs1 ht hvm hp hB hz hk hS1 => by
    rw [ht] at hB
    exact kk H1 locs1 hB hS1)
end CTC
theorem nm_st {S : Type} {D : va_G} {cl : List vw_C} {g : S → va_W} {x : S} {H : Heap} (h : va_P D cl (g x) H) : ∃ z, x = z ∧ va_P D cl (g z) H := ⟨x, rfl, h⟩
