/-! fma: alike, all registers -/
theorem op_fma (st : rn_S) (ms : rm_S) (d x y z m : Int32) (hR : Rel st ms) : ∃ r t u, RN_fma st d x y z m = (r, t) ∧ RM_fma ms d x y z m = some (r, u) ∧ Rel t u := by
  rcases tgt_cases d m with ⟨v, hv, e, hm, t1, t2, t3⟩ | ⟨t1, t2⟩
  · rcases reg_cases x with ⟨w, hw, e2, r1, r2⟩ | ⟨r1, r2⟩
    · rcases reg_cases y with ⟨k, hk, e3, r3, r4⟩ | ⟨r3, r4⟩
      · rcases reg_cases z with ⟨q, hq, e4, r5, r6⟩ | ⟨r5, r6⟩
        · subst e
          subst e2
          subst e3
          subst e4
          have ho1 : ob_in (nI w) 8 = true := ob_nI hw (by decide)
          have ho2 : ob_in (nI k) 8 = true := ob_nI hk (by decide)
          have ho3 : ob_in (nI q) 8 = true := ob_nI hq (by decide)
          have hc1 : (nI w).toNatClampNeg = w := nI_clamp (by omega)
          have hc2 : (nI k).toNatClampNeg = k := nI_clamp (by omega)
          have hc3 : (nI q).toNatClampNeg = q := nI_clamp (by omega)
          obtain ⟨-, -, -, -, -, l5, l6, l7, -⟩ := hR w hw
          obtain ⟨-, -, -, -, -, n5, n6, n7, -⟩ := hR k hk
          have hpk := pk_alike (st := st) (ms := ms) hw hk (l5 ▸ l7) (n5 ▸ n7)
          obtain ⟨o, t, u, q1, q2, q3⟩ := both_fma hR hv hw hk hq hm
          rw [l5, n5, l6, n6] at q2
          refine ⟨o, t, u, ?_, ?_, q3⟩
          · simp only [RN_fma, nm_e0, t1, r1, r3, r5, i10, if_false, hc1, hc2, hc3, bd_id, q1]
          · simp only [RM_fma, nm_e0, t2, t3, r2, r4, r6, i10, if_false, ho1, ho2, ho3, if_true, hc1, hc2, hc3, hpk, ob1_some]
            exact q2
        · exact ⟨9, st, ms, by simp only [RN_fma, nm_e0, t1, r1, r3, r5, i10, if_false, if_true], by simp only [RM_fma, nm_e0, t2, r2, r4, r6, i10, if_false, if_true], hR⟩
      · exact ⟨9, st, ms, by simp only [RN_fma, nm_e0, t1, r1, r3, i10, if_false, if_true], by simp only [RM_fma, nm_e0, t2, r2, r4, i10, if_false, if_true], hR⟩
    · exact ⟨9, st, ms, by simp only [RN_fma, nm_e0, t1, r1, i10, if_false, if_true], by simp only [RM_fma, nm_e0, t2, r2, i10, if_false, if_true], hR⟩
  · refine ⟨9, st, ms, by simp only [RN_fma, nm_e0, t1, if_true], ?_, hR⟩
    rcases t2 with t2 | ⟨t2, t3⟩
    · simp only [RM_fma, nm_e0, t2, if_true]
    · rcases reg_cases x with ⟨w, hw, e2, r1, r2⟩ | ⟨r1, r2⟩
      · rcases reg_cases y with ⟨k, hk, e3, r3, r4⟩ | ⟨r3, r4⟩
        · rcases reg_cases z with ⟨q, hq, e4, r5, r6⟩ | ⟨r5, r6⟩
          · simp only [RM_fma, nm_e0, t2, t3, r2, r4, r6, i10, if_false, if_true]
          · simp only [RM_fma, nm_e0, t2, r2, r4, r6, i10, if_false, if_true]
        · simp only [RM_fma, nm_e0, t2, r2, r4, i10, if_false, if_true]
      · simp only [RM_fma, nm_e0, t2, r2, i10, if_false, if_true]
