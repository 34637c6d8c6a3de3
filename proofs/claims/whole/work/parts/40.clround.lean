/-! storeHuge, storeTiny, storeExact of the class: the rounding of part 39 -/
theorem clr {st : rn_S} {f : Nat → Int32} : ∃ g, RE_clear (rn_setx st f) = rn_setx st g ∧ ok33 g ∧ xv g = 0 := by
  obtain ⟨g, a1, a2, a3⟩ := ex_clear (rn_setx st f)
  exact ⟨g, by rw [a1, sx_sx], a2, a3⟩
theorem hug_n {p : Nat} (hp1 : 1 ≤ p) (hp2 : p ≤ 93) : hb_at (2 ^ 789 - 2 ^ (789 - p)) 788 ∧ (2 ^ 789 - 2 ^ (789 - p)) / 2 ^ 696 = (2 ^ p - 1) * 2 ^ (93 - p) := by
  have h1 : 2 ^ (789 - p) ≤ 2 ^ 788 := p2_le (by omega)
  have h2 : (2 : Nat) ^ 789 = 2 ^ 788 + 2 ^ 788 := by rw [Nat.pow_succ]; omega
  have h3 := p2_pos (789 - p)
  refine ⟨⟨?_, ?_⟩, ?_⟩
  · rw [h2]
    generalize (2 : Nat) ^ 788 = A at *
    omega
  · rw [show 788 + 1 = 789 from rfl]
    generalize (2 : Nat) ^ 789 = A at *
    generalize (2 : Nat) ^ (789 - p) = C at *
    generalize (2 : Nat) ^ 788 = D at *
    omega
  · have e1 : (2 : Nat) ^ 789 = 2 ^ p * 2 ^ (789 - p) := by rw [← Nat.pow_add, show p + (789 - p) = 789 by omega]
    have e2 : (2 : Nat) ^ (789 - p) = 2 ^ (93 - p) * 2 ^ 696 := by rw [← Nat.pow_add, show 93 - p + 696 = 789 - p by omega]
    have e3 : 2 ^ 789 - 2 ^ (789 - p) = (2 ^ p - 1) * 2 ^ (93 - p) * 2 ^ 696 := by
      rw [e1, Nat.mul_assoc, ← e2, Nat.sub_mul, Nat.one_mul]
    rw [e3, Nat.mul_div_cancel _ (p2_pos 696)]
theorem cl_huge {st : rn_S} {f : Nat → Int32} {d s sm : Int32} {v p : Nat} (hd : d.toNatClampNeg = v) (hpr : rn_pr st v = nI p) (hp1 : 1 ≤ p) (hp2 : p ≤ 93) :
    (sm = 1 → ∃ t, RN_storeHuge (rn_setx st f) d s sm = (-s, t) ∧ put_c st t v 3 s 200 ((2 ^ p - 1) * 2 ^ (93 - p))) ∧ (sm ≠ 1 → ∃ t, RN_storeHuge (rn_setx st f) d s sm = (s, t) ∧ put_c st t v 1 s 0 0) := by
  unfold RN_storeHuge
  rw [hd]
  refine ⟨fun h => ?_, fun h => ?_⟩
  · rw [if_pos h, nm_e0, nm_e0, nm_e0, nm_e0]
    obtain ⟨g, a1, a2, a3⟩ := clr (st := st) (f := f)
    rw [a1]
    have e200 : (200 : Int32).toInt + 589 = (789 : Nat) := rfl
    have hb789 : (0 : Nat) + 2 ^ 789 < 2 ^ 1023 := by rw [Nat.zero_add]; exact p2_lt (by decide)
    obtain ⟨g2, b1, b2, b3⟩ := ex_addPos (st := rn_setx st g) (w := 200) (pl := 789) a2 e200 (by decide) (by rw [sx_ex, a3]; exact hb789)
    rw [b1, sx_sx]
    rw [sx_ex, a3, Nat.zero_add] at b3
    have hprx : rn_pr (rn_setx st g2) v = nI p := hpr
    rw [hprx]
    have e2 : ((200 : Int32) - nI p).toInt + 589 = (789 - p : Nat) := by
      have e3 : (nI p).toInt = p := nI_toInt (by omega)
      have e4 : (200 : Int32).toInt = 200 := rfl
      rw [ar_sub (by omega) (by omega), e3, e4]
      omega
    obtain ⟨g3, c1, c2, c3⟩ := ex_addNeg (st := rn_setx st g2) (w := (200 : Int32) - nI p) (pl := 789 - p) b2 e2 (by omega) (by rw [sx_ex, b3]; exact p2_le (by omega))
    rw [c1, sx_sx]
    rw [sx_ex, b3] at c3
    have hh := hug_n hp1 hp2
    rw [← c3] at hh
    have hq := put_into (st := st) (f := g3) c2 (v := v) (s := s) hh.1 (by decide) (by decide)
    refine ⟨_, rfl, ?_⟩
    rw [← hh.2]
    exact hq
  · rw [if_neg h, nm_e0]
    exact ⟨_, rfl, put_be rfl (by decide)⟩
theorem cl_tiny {st : rn_S} {f : Nat → Int32} {d s z : Int32} {v : Nat} (hd : d.toNatClampNeg = v) :
    (z = 0 → ∃ t, RN_storeTiny (rn_setx st f) d s z = (s, t) ∧ put_c st t v 3 s (-200) (2 ^ 92)) ∧ (z ≠ 0 → ∃ t, RN_storeTiny (rn_setx st f) d s z = (-s, t) ∧ put_c st t v 2 s 0 0) := by
  unfold RN_storeTiny
  rw [hd]
  refine ⟨fun h => ?_, fun h => ?_⟩
  · rw [if_pos h, nm_e0, nm_e0, nm_e0]
    obtain ⟨g, a1, a2, a3⟩ := clr (st := st) (f := f)
    rw [a1]
    have e201 : (-201 : Int32).toInt + 589 = (388 : Nat) := rfl
    have hb388 : (0 : Nat) + 2 ^ 388 < 2 ^ 1023 := by rw [Nat.zero_add]; exact p2_lt (by decide)
    obtain ⟨g2, b1, b2, b3⟩ := ex_addPos (st := rn_setx st g) (w := -201) (pl := 388) a2 e201 (by decide) (by rw [sx_ex, a3]; exact hb388)
    rw [b1, sx_sx]
    rw [sx_ex, a3, Nat.zero_add] at b3
    have hh : hb_at (xv g2) 388 := by
      rw [b3]
      exact ⟨Nat.le_refl _, p2_lt (by decide)⟩
    have hq := put_into (st := st) (f := g2) b2 (v := v) (s := s) hh (by decide) (by decide)
    refine ⟨_, rfl, ?_⟩
    have e : xv g2 / 2 ^ (388 - 92) = 2 ^ 92 := by
      rw [b3, show (388 : Nat) = 92 + (388 - 92) from rfl, Nat.pow_add]
      exact Nat.mul_div_cancel _ (p2_pos _)
    rw [e] at hq
    exact hq
  · rw [if_neg h, nm_e0]
    exact ⟨_, rfl, put_be rfl (by decide)⟩
-- numbers: the highest bits and the rest
theorem q_half (E T p : Nat) (hp : p ≤ T) : E / 2 ^ (T - p + 1) = E / 2 ^ (T - p) / 2 := by rw [Nat.pow_succ, Nat.div_div_eq_div_mul]
theorem q_mod (E k : Nat) : E % 2 ^ (k + 1) = E % 2 ^ k + 2 ^ k * (E / 2 ^ k % 2) := by rw [Nat.pow_succ, Nat.mod_mul]
theorem q_mod0 (E k : Nat) : E % 2 ^ (k + 1) = 0 ↔ (E / 2 ^ k % 2 = 0 ∧ E % 2 ^ k = 0) := by
  rw [q_mod]
  have h1 := p2_pos k
  have h2 : E / 2 ^ k % 2 < 2 := Nat.mod_lt _ (by decide)
  rcases (show E / 2 ^ k % 2 = 0 ∨ E / 2 ^ k % 2 = 1 by omega) with h | h <;> rw [h]
  · omega
  · rw [Nat.mul_one]
    omega
theorem q_bnd {E T p : Nat} (hT : hb_at E T) (hp : p ≤ T) : 2 ^ p ≤ E / 2 ^ (T - p) ∧ E / 2 ^ (T - p) < 2 ^ (p + 1) := by
  have h := hb_div hT (show T - p ≤ T by omega)
  rw [show T - (T - p) = p by omega] at h
  exact h
theorem q_pow {E T p : Nat} (hT : hb_at E T) (hp : p ≤ T) : (E = 2 ^ T) ↔ (E / 2 ^ (T - p) = 2 ^ p ∧ E % 2 ^ (T - p) = 0) := by
  have e : (2 : Nat) ^ T = 2 ^ p * 2 ^ (T - p) := by rw [← Nat.pow_add, show p + (T - p) = T by omega]
  refine ⟨fun h => ?_, fun ⟨h1, h2⟩ => ?_⟩
  · rw [h, e]
    exact ⟨Nat.mul_div_cancel _ (p2_pos _), Nat.mul_mod_left _ _⟩
  · have h3 := Nat.div_add_mod E (2 ^ (T - p))
    rw [h1, h2, Nat.add_zero] at h3
    rw [e, ← h3, Nat.mul_comm]
/-- the row behind roundAt -/
theorem cl_round {st : rn_S} (hok : ok33 (rn_ex st)) {w s mode tie : Int32} {p T : Nat} (hp1 : 1 ≤ p) (hp2 : p ≤ 93) (hs : issign s) (hm : ismode mode) (hT : hb_at (xv (rn_ex st)) T) (h1 : 95 ≤ T) (h2 : T ≤ 1000) (hw : w.toInt + 589 = (T - p + 1 : Nat))
    (htie : tie ≠ 0 ↔ sp_odd p ((T : Int) - 589) (xv (rn_ex st) / 2 ^ (T - p)) = true) :
    ∃ f, RE_roundAt st w (RN_modeOnSize mode s) tie = ((if sp_ix (xv (rn_ex st) / 2 ^ (T - p)) (decide (xv (rn_ex st) % 2 ^ (T - p) ≠ 0)) = true then (if sp_up p mode s ((T : Int) - 589) (xv (rn_ex st) / 2 ^ (T - p)) (decide (xv (rn_ex st) % 2 ^ (T - p) ≠ 0)) = true then 1 else -1) else 0), rn_setx st f) ∧ ok33 f ∧
      xv f = sp_N p mode s ((T : Int) - 589) (xv (rn_ex st) / 2 ^ (T - p)) (decide (xv (rn_ex st) % 2 ^ (T - p) ≠ 0)) * 2 ^ (T - p + 1) := by
  have hE : xv (rn_ex st) < 2 ^ 1022 := Nat.lt_of_lt_of_le hT.2 (p2_le (by omega))
  have hr := ex_round (mode := RN_modeOnSize mode s) (tie := tie) hok hw (by omega) (by omega) hE
  generalize hEe : xv (rn_ex st) = E at *
  have hq2 : E / 2 ^ (T - p + 1) = E / 2 ^ (T - p) / 2 := q_half E T p (by omega)
  have hdm := Nat.div_add_mod E (2 ^ (T - p + 1))
  have hcut : E - E % 2 ^ (T - p + 1) = E / 2 ^ (T - p) / 2 * 2 ^ (T - p + 1) := by
    rw [hq2, Nat.mul_comm] at hdm
    omega
  have hz := q_mod0 E (T - p)
  generalize hqe : E / 2 ^ (T - p) = q at *
  have hix : sp_ix q (decide (E % 2 ^ (T - p) ≠ 0)) = true ↔ E % 2 ^ (T - p + 1) ≠ 0 := by
    unfold sp_ix
    simp only [Bool.or_eq_true, beq_iff_eq, decide_eq_true_eq]
    omega
  have hg : E % 2 ^ (T - p + 1) ≠ 0 → (rd_g E (T - p + 1) (RN_modeOnSize mode s) tie ↔ sp_up p mode s ((T : Int) - 589) q (decide (E % 2 ^ (T - p) ≠ 0)) = true) := by
    intro h9
    have hix2 := hix.mpr h9
    unfold rd_g sp_up
    rw [hix2, Bool.true_and, mo_4 hm hs, mo_0 hm hs, show T - p + 1 - 1 = T - p by omega, hqe]
    by_cases h0 : mode = 0
    · rw [if_pos h0]
      have hg0 : sp_gr mode s = false := by rw [h0]; rcases hs with h | h <;> rw [h] <;> decide
      simp only [hg0, Bool.and_eq_true, Bool.or_eq_true, beq_iff_eq, decide_eq_true_eq, Bool.false_eq_true, false_or]
      rw [htie]
      refine ⟨fun ⟨_, a, b⟩ => ⟨a, b.elim Or.inr Or.inl⟩, fun ⟨a, b⟩ => ⟨h0, a, b.elim Or.inr Or.inl⟩⟩
    · rw [if_neg h0]
      refine ⟨fun h => h.elim (fun h => h) (fun h => absurd h.1 h0), fun h => Or.inl h⟩
  by_cases h9 : E % 2 ^ (T - p + 1) = 0
  · have hni : ¬ sp_ix q (decide (E % 2 ^ (T - p) ≠ 0)) = true := fun h => (hix.mp h) h9
    have hnu : sp_up p mode s ((T : Int) - 589) q (decide (E % 2 ^ (T - p) ≠ 0)) = false := by
      unfold sp_up
      rw [Bool.eq_false_iff.mpr hni, Bool.false_and]
    refine ⟨rn_ex st, ?_, hok, ?_⟩
    · rw [if_neg hni, sx_id]
      exact hr.1 h9
    · rw [hEe]
      unfold sp_N
      rw [hnu, show (false).toNat = 0 from rfl, Nat.add_zero, ← hcut, h9, Nat.sub_zero]
  · have hi := hix.mpr h9
    by_cases hu : sp_up p mode s ((T : Int) - 589) q (decide (E % 2 ^ (T - p) ≠ 0)) = true
    · obtain ⟨f, a1, a2, a3⟩ := hr.2.2 h9 ((hg h9).mpr hu)
      refine ⟨f, by rw [if_pos hi, if_pos hu]; exact a1, a2, ?_⟩
      unfold sp_N
      rw [a3, hcut, hu, show (true).toNat = 1 from rfl, Nat.add_mul, Nat.one_mul]
    · obtain ⟨f, a1, a2, a3⟩ := hr.2.1 h9 (fun h => hu ((hg h9).mp h))
      refine ⟨f, by rw [if_pos hi, if_neg hu]; exact a1, a2, ?_⟩
      unfold sp_N
      rw [a3, hcut, Bool.eq_false_iff.mpr hu, show (false).toNat = 0 from rfl, Nat.add_zero (q / 2)]
