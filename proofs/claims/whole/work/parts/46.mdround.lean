/-! The reference's round: the rounding of part 39 -/
theorem md_round {ms : rm_S} {r p h : Nat} {s mode : Int32} (hr : r < 8) (hpr : ms 1 r = nI p) (hp1 : 1 ≤ p) (hp2 : p ≤ 93) (hs : issign s) (hm : ismode mode) (hb : isb (ms 6)) (hh : hb_at (rv (ms 6)) h) (h1 : 94 ≤ h) (h2 : h < 1024)
    {q : Nat} {m : Bool} (hq : rv (ms 6) / 2 ^ (h - p) = q) (hmm : decide (rv (ms 6) % 2 ^ (h - p) ≠ 0) = m) :
    ∃ t, RM_round ms (nI r) s mode = some ((sp p mode s ((h : Int) - 600) q m).2.2.2, t) ∧ put_m ms t r p (sp p mode s ((h : Int) - 600) q m).1 s (sp p mode s ((h : Int) - 600) q m).2.2.1 (sp p mode s ((h : Int) - 600) q m).2.1 := by
  have hgo := rm_goes hb hp1 (show p ≤ h by omega) h2 hm hs hq hmm
  have hqb := q_bnd hh (show p ≤ h by omega)
  have hqp := q_pow hh (show p ≤ h by omega)
  have hz := q_mod0 (rv (ms 6)) (h - p)
  have hbase : rv (ms 6) / 2 ^ (h - p + 1) = q / 2 := by rw [q_half _ _ _ (show p ≤ h by omega), hq]
  rw [hq] at hqb hqp hz
  -- the flag 'exact'
  have hany : RM_anyBelow ms (nI h - nI p + (1 : Int32)) = some (if rv (ms 6) % 2 ^ (h - p + 1) = 0 then 0 else 1) := by
    rw [pk_sub (show p ≤ h by omega), nI_1]
    exact rm_any hb (by omega)
  have hix : sp_ix q m = true ↔ ¬ rv (ms 6) % 2 ^ (h - p + 1) = 0 := by
    unfold sp_ix
    rw [← hmm]
    simp only [Bool.or_eq_true, beq_iff_eq, decide_eq_true_eq]
    omega
  have hL6 : ∃ L6, RM_round ms (nI r) s mode = RM_round_33 (nI r) s mode (nI h) (nI p) L6 ms ∧ (L6 = 0 ↔ sp_ix q m = true) := by
    unfold RM_round
    rw [rm_highest hb hh, ob1_some, if_pos (ob_nI hr (by decide)), nm_e0, nI_clamp (by omega), hpr, hany, ob1_some]
    by_cases h0 : rv (ms 6) % 2 ^ (h - p + 1) = 0
    · rw [if_pos h0, if_pos rfl]
      exact ⟨1, rfl, ⟨fun h9 => absurd h9 (by decide), fun h9 => absurd h0 (hix.mp h9)⟩⟩
    · rw [if_neg h0, if_neg (by decide)]
      exact ⟨0, rfl, ⟨fun _ => hix.mpr h0, fun _ => rfl⟩⟩
  obtain ⟨L6, e0, hL6⟩ := hL6
  rw [e0]
  -- up
  have hu2 : (sp_up p mode s ((h : Int) - 600) q m).toNat < 2 := by
    have := Bool.toNat_le (sp_up p mode s ((h : Int) - 600) q m)
    omega
  have hL7 : ∃ L7, RM_round_33 (nI r) s mode (nI h) (nI p) L6 ms = RM_round_57 (nI r) s mode (nI h) (nI p) L6 L7 (nI (sp_up p mode s ((h : Int) - 600) q m).toNat) ms ∧ (L7 = 0 ↔ ¬ sp_up p mode s ((h : Int) - 600) q m = true) := by
    unfold RM_round_33
    rw [hgo, ob1_some]
    by_cases hu : sp_up p mode s ((h : Int) - 600) q m = true
    · rw [if_pos hu, if_neg (by decide), hu]
      exact ⟨1, rfl, ⟨fun h9 => absurd h9 (by decide), fun h9 => absurd rfl h9⟩⟩
    · rw [if_neg hu, if_pos rfl, Bool.eq_false_iff.mpr hu]
      exact ⟨0, rfl, ⟨fun _ => by decide, fun _ => rfl⟩⟩
  obtain ⟨L7, e7, hL7⟩ := hL7
  rw [e7]
  -- the numbers
  have hp9 : (2 : Nat) ^ p = 2 * 2 ^ (p - 1) := by
    obtain ⟨j, rfl⟩ : ∃ j, p = j + 1 := ⟨p - 1, by omega⟩
    rw [Nat.pow_succ, show j + 1 - 1 = j by omega]
    omega
  have hp8 : (2 : Nat) ^ (p + 1) = 2 * 2 ^ p := by rw [Nat.pow_succ]; omega
  have hNdef : sp_N p mode s ((h : Int) - 600) q m = q / 2 + (sp_up p mode s ((h : Int) - 600) q m).toNat := rfl
  have hbm : q / 2 % 2 ^ p = q / 2 := Nat.mod_eq_of_lt (by omega)
  have hNle : sp_N p mode s ((h : Int) - 600) q m ≤ 2 ^ p := by rw [hNdef]; omega
  -- the first loop
  obtain ⟨M, f, a1, a2⟩ := r65_loop p 2000 h p (q / 2) (sp_up p mode s ((h : Int) - 600) q m).toNat (nI r) s mode L6 L7 ms (by omega) (Nat.le_refl _) (by omega) h2 hu2 hb hbase (fun i h3 h4 => by omega)
  rw [Nat.sub_self, Nat.pow_zero, Nat.mod_one, Nat.zero_add, Nat.div_one] at a1
  rw [hbm, ← hNdef] at a1
  simp only [← hNdef] at a2
  unfold RM_round_57
  rw [nm_e0, a1, RM_round_65, if_pos (by decide), nm_e0]
  clear a1 e0 e7
  have hC : sp_N p mode s ((h : Int) - 600) q m / 2 ^ p = if sp_N p mode s ((h : Int) - 600) q m = 2 ^ p then 1 else 0 := by
    by_cases hN : sp_N p mode s ((h : Int) - 600) q m = 2 ^ p
    · rw [if_pos hN, hN, Nat.div_self (p2_pos p)]
    · rw [if_neg hN, Nat.div_eq_of_lt (by omega)]
  have hC2 : sp_N p mode s ((h : Int) - 600) q m / 2 ^ p < 2 := by rw [hC]; split <;> omega
  have hexp : (nI h - (600 : Int32) + (1 : Int32) + nI (sp_N p mode s ((h : Int) - 600) q m / 2 ^ p)).toInt = sp_e p mode s ((h : Int) - 600) q m := by
    have e1 : (nI h).toInt = h := nI_toInt (by omega)
    have e6 : (600 : Int32).toInt = 600 := rfl
    have e9 : (1 : Int32).toInt = 1 := rfl
    have e7 : (nI h - (600 : Int32)).toInt = (h : Int) - 600 := by rw [ar_sub (by omega) (by omega), e1, e6]
    have e8 : (nI h - (600 : Int32) + (1 : Int32)).toInt = (h : Int) - 599 := by rw [ar_add (by omega) (by omega), e7, e9]; omega
    have ec : (nI (sp_N p mode s ((h : Int) - 600) q m / 2 ^ p)).toInt = (sp_N p mode s ((h : Int) - 600) q m / 2 ^ p : Nat) := nI_toInt (by omega)
    rw [ar_add (by omega) (by omega), e8, ec, hC]
    unfold sp_e
    by_cases hN : sp_N p mode s ((h : Int) - 600) q m = 2 ^ p
    · rw [if_pos hN, if_pos hN]; omega
    · rw [if_neg hN, if_neg hN]; omega
  have hle := i_le hexp
  have hsame := same_7 ms f
  have hkeep := fun (k : Int32) (hk0 : k ≠ 0) (hk3 : k ≠ 3) => keep_ok (p := p) (k := k) (s := s) (e := 0) (X := 0) hsame hr hk0 hk3
  unfold sp
  by_cases c1 : 200 < sp_e p mode s ((h : Int) - 600) q m
  · rw [if_neg (fun h9 => absurd (hle.1.mp h9) (by omega)), if_pos c1]
    have h144 : ∃ t, RM_round_144 (nI r) s (rm_setr ms 7 f) = some (s, t) ∧ put_m ms t r p 1 s 0 0 := by
      obtain ⟨t, b1, b2⟩ := hkeep 1 (by decide) (by decide)
      refine ⟨t, ?_, b2⟩
      unfold RM_round_144
      rw [b1, ob2_some, show (0 : Int32) + s = s from by rcases hs with h9 | h9 <;> rw [h9] <;> decide]
    by_cases c2 : mode = 0
    · rw [if_pos c2, if_pos (Or.inl c2)]
      exact h144
    · rw [if_neg c2, nm_e0, gr_m hm hs]
      by_cases c3 : sp_gr mode s = true
      · rw [if_pos c3, if_neg (by decide), if_pos (Or.inr c3)]
        exact h144
      · rw [if_neg c3, if_pos rfl, if_neg (fun h9 => h9.elim c2 c3)]
        obtain ⟨t, b1, b2⟩ := greatest_ok hsame hr hp1 hp2 (s := s)
        exact ⟨t, by rw [b1, ob2_some], b2⟩
  · rw [if_pos (hle.1.mpr (by omega)), if_neg c1]
    by_cases c2 : sp_e p mode s ((h : Int) - 600) q m < -200
    · rw [if_neg (fun h9 => absurd (hle.2.mp h9) (by omega)), if_pos c2]
      have h225 : ∀ z : Int32, (z = 0 → ∃ t, RM_round_225 (nI r) s z (rm_setr ms 7 f) = some (s, t) ∧ put_m ms t r p 3 s (-200) (2 ^ 92)) ∧ (z ≠ 0 → ∃ t, RM_round_225 (nI r) s z (rm_setr ms 7 f) = some (-s, t) ∧ put_m ms t r p 2 s 0 0) := by
        intro z
        unfold RM_round_225
        refine ⟨fun h9 => ?_, fun h9 => ?_⟩
        · obtain ⟨t, b1, b2⟩ := least_ok hsame hr hp2 (s := s)
          exact ⟨t, by rw [if_pos h9, b1, ob2_some], b2⟩
        · obtain ⟨t, b1, b2⟩ := hkeep 2 (by decide) (by decide)
          exact ⟨t, by rw [if_neg h9, b1, ob2_some, show (0 : Int32) - s = -s from by rcases hs with h9 | h9 <;> rw [h9] <;> decide], b2⟩
      -- small
      have hsm : ∃ z : Int32, (z ≠ 0 ↔ sp_small p ((h : Int) - 600) q m = true) ∧ (if nI h < (398 : Int32) then RM_round_196 (nI r) s mode (rm_setr ms 7 f) else (if nI h = (398 : Int32) then ob1 (RM_anyBelow (rm_setr ms 7 f) (nI h)) (fun r190 => (if r190 = 0 then RM_round_196 (nI r) s mode (rm_setr ms 7 f) else RM_round_200 (nI r) s mode (rm_setr ms 7 f))) else RM_round_200 (nI r) s mode (rm_setr ms 7 f))) = RM_round_201 (nI r) s mode z (rm_setr ms 7 f) := by
        have hmf : m = false ↔ rv (ms 6) % 2 ^ (h - p) = 0 := by
          rw [← hmm, decide_eq_false_iff_not]
          exact Decidable.not_not
        have hse : sp_small p ((h : Int) - 600) q m = true ↔ (h < 398 ∨ (h = 398 ∧ rv (ms 6) = 2 ^ h)) := by
          unfold sp_small
          simp only [Bool.or_eq_true, Bool.and_eq_true, decide_eq_true_eq, Bool.not_eq_true']
          rw [hmf, ← hqp]
          omega
        unfold RM_round_196 RM_round_200
        rcases Nat.lt_trichotomy h 398 with h9 | h9 | h9
        · rw [if_pos (show nI h < (398 : Int32) from (nI_ltI (a := h) (b := 398) (by omega) (by decide)).mpr h9)]
          exact ⟨1, ⟨fun _ => hse.mpr (Or.inl h9), fun _ => by decide⟩, rfl⟩
        · have hm6 : rm_setr ms 7 f 6 = ms 6 := rs_ne (by decide)
          have ha : RM_anyBelow (rm_setr ms 7 f) (nI h) = some (if rv (ms 6) % 2 ^ h = 0 then 0 else 1) := by
            have h8 := rm_any (ms := rm_setr ms 7 f) (K := h) (by rw [hm6]; exact hb) (by omega)
            rw [hm6] at h8
            exact h8
          have hm0 : rv (ms 6) % 2 ^ h = 0 ↔ rv (ms 6) = 2 ^ h := by
            have h7 := hh.1
            have h6 := hh.2
            rw [Nat.pow_succ] at h6
            have h5 : rv (ms 6) % 2 ^ h = rv (ms 6) - 2 ^ h := by rw [Nat.mod_eq_sub_mod h7, Nat.mod_eq_of_lt (by omega)]
            omega
          rw [if_neg (show ¬ nI h < (398 : Int32) from fun h8 => absurd ((nI_ltI (a := h) (b := 398) (by omega) (by decide)).mp h8) (by omega)), if_pos (show nI h = 398 by rw [h9]; rfl), ha, ob1_some]
          by_cases h0 : rv (ms 6) % 2 ^ h = 0
          · rw [if_pos h0, if_pos rfl]
            exact ⟨1, ⟨fun _ => hse.mpr (Or.inr ⟨h9, hm0.mp h0⟩), fun _ => by decide⟩, rfl⟩
          · rw [if_neg h0, if_neg (by decide)]
            exact ⟨0, ⟨fun h8 => absurd rfl h8, fun h8 => absurd ((hse.mp h8).elim (fun h7 => by omega) (fun h7 => hm0.mpr h7.2)) h0⟩, rfl⟩
        · rw [if_neg (show ¬ nI h < (398 : Int32) from fun h8 => absurd ((nI_ltI (a := h) (b := 398) (by omega) (by decide)).mp h8) (by omega)), if_neg (show ¬ nI h = (398 : Int32) from fun h8 => absurd ((nI_eq (a := h) (b := 398) (by omega) (by decide)).mp h8) (by omega))]
          exact ⟨0, ⟨fun h8 => absurd rfl h8, fun h8 => absurd (hse.mp h8) (by omega)⟩, rfl⟩
      obtain ⟨z, hz1, hz2⟩ := hsm
      rw [hz2]
      unfold RM_round_201 sp_zero
      by_cases c3 : mode = 0
      · rw [if_pos c3, if_pos c3]
        by_cases c4 : z = 0
        · rw [if_neg (fun h9 => (hz1.mpr h9) c4)]
          exact (h225 z).1 c4
        · rw [if_pos (hz1.mp c4)]
          exact (h225 z).2 c4
      · rw [if_neg c3, if_neg c3, nm_e0, gr_m hm hs]
        by_cases c4 : sp_gr mode s = true
        · rw [if_pos c4, if_neg (by decide), c4, if_neg (by decide)]
          exact (h225 0).1 rfl
        · rw [if_neg c4, if_pos rfl, Bool.eq_false_iff.mpr c4, if_pos (by decide)]
          exact (h225 1).2 (by decide)
    · rw [if_pos (hle.2.mpr (by omega)), if_neg c2, if_pos (ob_nI hr (by decide)), nm_e0, if_pos (ob_nI hr (by decide)), nm_e0, if_pos (ob_nI hr (by decide)), nm_e0, nI_clamp (by omega), zz_0]
      obtain ⟨g, b1, b2, b3⟩ := r276_loop 93 2000 0 r p (sp_N p mode s ((h : Int) - 600) q m / 2 ^ p) s L6 L7 (rm_up (rm_up (rm_up (rm_setr ms 7 f) 2 r 3) 3 r s) 4 r (nI h - (600 : Int32) + (1 : Int32) + nI (sp_N p mode s ((h : Int) - 600) q m / 2 ^ p))) (by omega) (by omega) hr hp2 hC2
      refine ⟨_, ?_, put3 hsame hr (f := g) hexp (fun i hi => ?_) (fun j hj => ?_)⟩
      · rw [b1]
        by_cases c5 : sp_ix q m = true
        · rw [if_pos (hL6.mpr c5), if_pos c5]
          by_cases c6 : sp_up p mode s ((h : Int) - 600) q m = true
          · rw [if_neg (fun h9 => (hL7.mp h9) c6), if_pos c6]
          · rw [if_pos (hL7.mpr c6), if_neg c6]
        · rw [if_neg (fun h9 => c5 (hL6.mp h9)), if_neg c5]
          rfl
      · rw [b2 i (Nat.zero_le _) (by omega)]
        unfold rb_g
        rw [if_neg (by omega), hC]
        by_cases hN : sp_N p mode s ((h : Int) - 600) q m = 2 ^ p
        · rw [if_pos hN, if_pos rfl, if_pos hN, p92_bit (by omega)]
          by_cases h0 : i = 0
          · rw [if_pos h0, if_pos h0]; rfl
          · rw [if_neg h0, if_neg h0]; rfl
        · rw [if_neg hN, if_neg (by decide), if_neg hN]
          have e7 : ∀ x : Int32, rm_up (rm_up (rm_up (rm_setr ms 7 f) 2 r 3) 3 r s) 4 r x 7 = f := fun x => by
            rw [ru_rs, rs_ne (show 7 ≠ 4 by decide), ru_rs, rs_ne (show 7 ≠ 3 by decide), ru_rs, rs_ne (show 7 ≠ 2 by decide), rs_at]
          rw [e7, a2 i hi]
          have e2 : 2 ^ (92 - i) = 2 ^ (p - 1 - i) * 2 ^ (93 - p) := by rw [← Nat.pow_add, show p - 1 - i + (93 - p) = 92 - i by omega]
          rw [e2, Nat.mul_div_mul_right _ _ (p2_pos _)]
      · rw [b3 j hj, ru_rs, rs_ne (show 5 ≠ 4 by decide), ru_rs, rs_ne (show 5 ≠ 3 by decide), ru_rs, rs_ne (show 5 ≠ 2 by decide)]
