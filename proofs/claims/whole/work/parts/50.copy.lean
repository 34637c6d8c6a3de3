/-! copy and negate -/
theorem bd_id {α β : Type} (x : α × β) : bd x (fun r t => (r, t)) = x := bd_eq rfl
theorem ob2_id {α β : Type} (x : Option (α × β)) : ob2 x (fun r t => some (r, t)) = x := by
  cases x with
  | none => rfl
  | some q => exact ob2_some q.1 q.2 _
theorem k012 {k : Int32} (h : iskind k) (h3 : ¬ k = 3) : k = 0 ∨ k = 1 ∨ k = 2 := by
  rcases h with h | h | h | h
  · exact Or.inl h
  · exact Or.inr (Or.inl h)
  · exact Or.inr (Or.inr h)
  · exact absurd h h3
theorem both_value {st : rn_S} {ms : rm_S} (hR : Rel st ms) {v x : Nat} (hv : v < 8) (hx : x < 8) {s mode : Int32} (hs : rn_kd st x ≠ 0 → issign s) (hm : ismode mode) :
    ∃ o t u, RN_storeValue st (nI v) x s mode = (o, t) ∧ RM_move ms (nI v) (nI x) s mode = some (o, u) ∧ Rel t u := by
  obtain ⟨p, a1, a2, a3, a4, a5, a6, a7, a8, a9, a10⟩ := hR x hx
  have ho : ob_in (nI x) 8 = true := ob_nI hx (by decide)
  have hc : (nI x).toNatClampNeg = x := nI_clamp (by omega)
  by_cases h3 : rn_kd st x = 3
  · obtain ⟨o, t, u, m1, m2, r1, r2, r3, r4, r5⟩ := both_move hR hv hx h3 (hs (by rw [h3]; decide)) hm
    refine ⟨o, t, u, ?_, ?_, r5⟩
    · unfold RN_storeValue
      rw [if_pos h3, nm_e0, nm_e0, bd_id]
      exact r1
    · unfold RM_move
      rw [if_pos ho, hc, if_pos (a5 ▸ h3), r2, ob1_some, r3, ob1_some, ob2_id]
      exact r4
  · obtain ⟨t, u, r1, r2, r3⟩ := both_plain hR hv (k := rn_kd st x) (s := s) (k012 a7 h3) hs
    refine ⟨0, t, u, ?_, ?_, r3⟩
    · unfold RN_storeValue
      rw [if_neg h3, bd_id]
      exact r1
    · unfold RM_move
      rw [if_pos ho, hc, ← a5, if_neg h3, if_pos ho, ob2_id]
      exact r2
theorem sg_neg {s : Int32} (h : issign s) : issign (-s) := by
  rcases h with h | h <;> rw [h]
  · exact Or.inr rfl
  · exact Or.inl (by decide)
theorem op_copy (st : rn_S) (ms : rm_S) (d x m : Int32) (hR : Rel st ms) : ∃ r t u, RN_copy st d x m = (r, t) ∧ RM_copy ms d x m = some (r, u) ∧ Rel t u := by
  rcases tgt_cases d m with ⟨v, hv, e, hm, t1, t2, t3⟩ | ⟨t1, t2⟩
  · rcases reg_cases x with ⟨w, hw, e2, r1, r2⟩ | ⟨r1, r2⟩
    · subst e
      subst e2
      obtain ⟨p, a1, a2, a3, a4, a5, a6, a7, a8, a9, a10⟩ := hR w hw
      have ho : ob_in (nI w) 8 = true := ob_nI hw (by decide)
      have hc : (nI w).toNatClampNeg = w := nI_clamp (by omega)
      obtain ⟨o, t, u, q1, q2, q3⟩ := both_value hR hv hw (s := rn_sg st w) a9 hm
      refine ⟨o, t, u, ?_, ?_, q3⟩
      · simp only [RN_copy, nm_e0, t1, r1, i10, if_false, hc, bd_id, q1]
      · rw [a6] at q2
        simp only [RM_copy, nm_e0, t2, t3, r2, i10, if_false, ho, if_true, hc, ob2_id, q2]
    · exact ⟨9, st, ms, by simp only [RN_copy, nm_e0, t1, r1, i10, if_false, if_true], by simp only [RM_copy, nm_e0, t2, r2, i10, if_false, if_true], hR⟩
  · refine ⟨9, st, ms, by simp only [RN_copy, nm_e0, t1, if_true], ?_, hR⟩
    rcases t2 with t2 | ⟨t2, t3⟩
    · simp only [RM_copy, nm_e0, t2, if_true]
    · rcases reg_cases x with ⟨w, hw, e2, r1, r2⟩ | ⟨r1, r2⟩
      · simp only [RM_copy, nm_e0, t2, t3, r2, i10, if_false, if_true]
      · simp only [RM_copy, nm_e0, t2, r2, i10, if_false, if_true]
theorem op_negate (st : rn_S) (ms : rm_S) (d x m : Int32) (hR : Rel st ms) : ∃ r t u, RN_negate st d x m = (r, t) ∧ RM_negate ms d x m = some (r, u) ∧ Rel t u := by
  rcases tgt_cases d m with ⟨v, hv, e, hm, t1, t2, t3⟩ | ⟨t1, t2⟩
  · rcases reg_cases x with ⟨w, hw, e2, r1, r2⟩ | ⟨r1, r2⟩
    · subst e
      subst e2
      obtain ⟨p, a1, a2, a3, a4, a5, a6, a7, a8, a9, a10⟩ := hR w hw
      have ho : ob_in (nI w) 8 = true := ob_nI hw (by decide)
      have hc : (nI w).toNatClampNeg = w := nI_clamp (by omega)
      obtain ⟨o, t, u, q1, q2, q3⟩ := both_value hR hv hw (s := -(rn_sg st w)) (fun h => sg_neg (a9 h)) hm
      refine ⟨o, t, u, ?_, ?_, q3⟩
      · simp only [RN_negate, nm_e0, t1, r1, i10, if_false, hc, bd_id, q1]
      · rw [a6] at q2
        simp only [RM_negate, nm_e0, t2, t3, r2, i10, if_false, ho, if_true, hc, ob2_id, q2]
    · exact ⟨9, st, ms, by simp only [RN_negate, nm_e0, t1, r1, i10, if_false, if_true], by simp only [RM_negate, nm_e0, t2, r2, i10, if_false, if_true], hR⟩
  · refine ⟨9, st, ms, by simp only [RN_negate, nm_e0, t1, if_true], ?_, hR⟩
    rcases t2 with t2 | ⟨t2, t3⟩
    · simp only [RM_negate, nm_e0, t2, if_true]
    · rcases reg_cases x with ⟨w, hw, e2, r1, r2⟩ | ⟨r1, r2⟩
      · simp only [RM_negate, nm_e0, t2, t3, r2, i10, if_false, if_true]
      · simp only [RM_negate, nm_e0, t2, r2, i10, if_false, if_true]
