/-! storeExact of the class: the rounding of part 39 -/
theorem odd_and {x : Int32} {z : Int} (h : x.toInt = z) : RN_isOdd x ≠ 0 ↔ z % 2 ≠ 0 := by
  have h1 : (x &&& (1 : Int32)) = nI (x.toBitVec.toNat % 2 ^ 1) := pk_and x (m := 1) 1 (by decide)
  have h2 : (x.toBitVec.toNat % 2 ^ 1 : Nat) = (z % 2).toNat := by
    rw [← h]
    have h3 : x.toInt = x.toBitVec.toInt := rfl
    rw [h3, BitVec.toInt_eq_toNat_bmod, Int.bmod_def]
    have h4 := x.toBitVec.isLt
    split <;> omega
  unfold RN_isOdd
  rw [h1, h2]
  have h5 : z % 2 = 0 ∨ z % 2 = 1 := by omega
  rcases h5 with h5 | h5 <;> rw [h5]
  · rw [if_neg (by decide)]
    decide
  · rw [if_pos (by decide)]
    decide
theorem cl_pre {st : rn_S} (hok : ok33 (rn_ex st)) {d s mode : Int32} {v p T : Nat} (hd : d.toNatClampNeg = v) (hpr : rn_pr st v = nI p) (hp1 : 1 ≤ p) (hp2 : p ≤ 93) (hT : hb_at (xv (rn_ex st)) T) (h1 : 95 ≤ T) (h2 : T ≤ 1000) :
    ∃ w near tie, RN_storeExact st d s mode = RN_storeExact_87 d s (RN_modeOnSize mode s) w near tie st ∧ w.toInt + 589 = (T - p + 1 : Nat) ∧ (near = 0 ↔ 2 ^ 387 < xv (rn_ex st)) ∧ (tie ≠ 0 ↔ sp_odd p ((T : Int) - 589) (xv (rn_ex st) / 2 ^ (T - p)) = true) := by
  have ht := (ex_top hok).2 T hT
  have ep : (nI p).toInt = p := nI_toInt (by omega)
  have e1 : (1 : Int32).toInt = 1 := rfl
  have ha : (RE_topWeight st - nI p).toInt = T - 589 - p := by rw [ar_sub (by omega) (by omega), ht, ep]
  have hw : (RE_topWeight st - nI p + (1 : Int32)).toInt + 589 = (T - p + 1 : Nat) := by
    rw [ar_add (by omega) (by omega), ha, e1]
    omega
  have h202 : (-202 : Int32).toInt + 589 = (387 : Nat) := rfl
  have hab := ex_above hok h202 (by decide)
  have hbit := ex_bit hok hw (by omega)
  -- the tie
  have htie : ∀ near, ∃ tie, RN_storeExact_51 d s (nI p) (RN_modeOnSize mode s) (RE_topWeight st) (RE_topWeight st - nI p + (1 : Int32)) near st = RN_storeExact_87 d s (RN_modeOnSize mode s) (RE_topWeight st - nI p + (1 : Int32)) near tie st ∧ (tie ≠ 0 ↔ sp_odd p ((T : Int) - 589) (xv (rn_ex st) / 2 ^ (T - p)) = true) := by
    intro near
    unfold RN_storeExact_51 sp_odd
    by_cases hp : p = 1
    · rw [if_pos (show nI p = 1 by rw [hp]; rfl), if_pos hp, nm_e0]
      refine ⟨_, rfl, ?_⟩
      have hz : (RE_topWeight st + (1 : Int32)).toInt = (T : Int) - 589 + 1 := by rw [ar_add (by omega) (by omega), ht, e1]
      rw [odd_and hz, bne_iff_ne]
    · rw [if_neg (fun h => hp ((nI_eq (by omega) (by decide)).mp (h.trans (show (1 : Int32) = nI 1 from rfl)))), if_neg hp, nm_e0, hbit, q_half _ _ _ (by omega)]
      have hlt : xv (rn_ex st) / 2 ^ (T - p) / 2 % 2 < 2 := Nat.mod_lt _ (by decide)
      by_cases hb : xv (rn_ex st) / 2 ^ (T - p) / 2 % 2 = 1
      · rw [if_pos ((nI2 hlt).mpr hb)]
        exact ⟨1, rfl, by rw [hb]; decide⟩
      · rw [if_neg (fun h => hb ((nI2 hlt).mp h))]
        refine ⟨0, rfl, ?_⟩
        rw [beq_iff_eq]
        exact ⟨fun h => absurd rfl h, fun h => absurd h hb⟩
  unfold RN_storeExact
  rw [hd, hpr, nm_e0, nm_e0, nm_e0, nm_e0, nm_e0, hab]
  by_cases h9 : 2 ^ 387 < xv (rn_ex st)
  · rw [if_pos h9, if_neg (by decide)]
    obtain ⟨tie, a1, a2⟩ := htie 0
    exact ⟨_, 0, tie, a1, hw, ⟨fun _ => h9, fun _ => rfl⟩, a2⟩
  · rw [if_neg h9, if_pos rfl]
    obtain ⟨tie, a1, a2⟩ := htie 1
    exact ⟨_, 1, tie, a1, hw, ⟨fun h => absurd h (by decide), fun h => absurd h h9⟩, a2⟩
theorem i_le {x : Int32} {z : Int} (h : x.toInt = z) : ((x ≤ (200 : Int32)) ↔ z ≤ 200) ∧ (((-200 : Int32) ≤ x) ↔ -200 ≤ z) := by
  have e1 : (200 : Int32).toInt = 200 := rfl
  have e2 : (-200 : Int32).toInt = -200 := rfl
  rw [Int32.le_iff_toInt_le, Int32.le_iff_toInt_le, h, e1, e2]
  exact ⟨Iff.rfl, Iff.rfl⟩
theorem sg_mul {s : Int32} (hs : issign s) : ((1 : Int32) * s = s) ∧ ((-1 : Int32) * s = -s) ∧ ((0 : Int32) * s = 0) := by
  rcases hs with h | h <;> subst h <;> decide
theorem cl_exact {st : rn_S} (hok : ok33 (rn_ex st)) {d s mode : Int32} {v p T : Nat} (hd : d.toNatClampNeg = v) (hpr : rn_pr st v = nI p) (hp1 : 1 ≤ p) (hp2 : p ≤ 93) (hs : issign s) (hm : ismode mode) (hT : hb_at (xv (rn_ex st)) T) (h1 : 95 ≤ T) (h2 : T ≤ 1000)
    {q : Nat} {m : Bool} (hq : xv (rn_ex st) / 2 ^ (T - p) = q) (hmm : decide (xv (rn_ex st) % 2 ^ (T - p) ≠ 0) = m) :
    ∃ t, RN_storeExact st d s mode = ((sp p mode s ((T : Int) - 589) q m).2.2.2, t) ∧ put_c st t v (sp p mode s ((T : Int) - 589) q m).1 s (sp p mode s ((T : Int) - 589) q m).2.2.1 (sp p mode s ((T : Int) - 589) q m).2.1 := by
  obtain ⟨w, near, tie, e0, hw, hnear, htie⟩ := cl_pre (s := s) (mode := mode) hok hd hpr hp1 hp2 hT h1 h2
  obtain ⟨f, e1, hokf, hxf⟩ := cl_round hok hp1 hp2 hs hm hT h1 h2 hw htie
  have hqb := q_bnd hT (show p ≤ T by omega)
  have hqp := q_pow hT (show p ≤ T by omega)
  rw [hq, hmm] at e1 hxf
  rw [hq] at hqb hqp
  rw [e0]
  unfold RN_storeExact_87
  rw [bd_eq e1, nm_e0, nm_e0]
  -- the highest bit of what is rounded
  have hNb : 2 ^ (p - 1) ≤ sp_N p mode s ((T : Int) - 589) q m ∧ sp_N p mode s ((T : Int) - 589) q m ≤ 2 ^ p := by
    have hp9 : (2 : Nat) ^ p = 2 * 2 ^ (p - 1) := by
      rw [show p = (p - 1) + 1 by omega, Nat.pow_succ]
      rw [show p - 1 + 1 - 1 = p - 1 by omega]
      omega
    have hp8 : (2 : Nat) ^ (p + 1) = 2 * 2 ^ p := by rw [Nat.pow_succ]; omega
    unfold sp_N
    have hb : (sp_up p mode s ((T : Int) - 589) q m).toNat ≤ 1 := Bool.toNat_le _
    omega
  have hmain : ∃ T', hb_at (xv f) T' ∧ ((T' : Int) - 588 = sp_e p mode s ((T : Int) - 589) q m) ∧ 95 ≤ T' ∧ T' ≤ 1001 ∧ xv f / 2 ^ (T' - 92) = (if sp_N p mode s ((T : Int) - 589) q m = 2 ^ p then 2 ^ 92 else sp_N p mode s ((T : Int) - 589) q m * 2 ^ (93 - p)) := by
    unfold sp_e
    by_cases hN : sp_N p mode s ((T : Int) - 589) q m = 2 ^ p
    · have hxf2 : xv f = 2 ^ (T + 1) := by rw [hxf, hN, ← Nat.pow_add, show p + (T - p + 1) = T + 1 by omega]
      refine ⟨T + 1, by rw [hxf2]; exact ⟨Nat.le_refl _, p2_lt (by omega)⟩, by rw [if_pos hN]; omega, by omega, by omega, ?_⟩
      rw [if_pos hN, hxf2, Nat.pow_div (by omega) (by decide), show T + 1 - (T + 1 - 92) = 92 by omega]
    · refine ⟨T, ⟨?_, ?_⟩, by rw [if_neg hN]; omega, h1, by omega, ?_⟩
      · have e9 : (2 : Nat) ^ T = 2 ^ (p - 1) * 2 ^ (T - p + 1) := by
          rw [← Nat.pow_add]
          congr 1
          omega
        rw [hxf, e9]
        exact Nat.mul_le_mul_right _ hNb.1
      · have e9 : (2 : Nat) ^ (T + 1) = 2 ^ p * 2 ^ (T - p + 1) := by
          rw [← Nat.pow_add]
          congr 1
          omega
        rw [hxf, e9]
        exact Nat.mul_lt_mul_of_pos_right (Nat.lt_of_le_of_ne hNb.2 hN) (p2_pos _)
      · rw [if_neg hN, hxf, show T - p + 1 = (93 - p) + (T - 92) by omega, Nat.pow_add, ← Nat.mul_assoc, Nat.mul_div_cancel _ (p2_pos _)]
  obtain ⟨T', hT', he, hT1, hT2, hX⟩ := hmain
  have ht' := (ex_top (st := rn_setx st f) hokf).2 T' hT'
  have e1' : (1 : Int32).toInt = 1 := rfl
  have hexp : (RE_topWeight (rn_setx st f) + (1 : Int32)).toInt = sp_e p mode s ((T : Int) - 589) q m := by
    rw [ar_add (by omega) (by omega), ht', e1']
    omega
  have hle := i_le hexp
  have hprf : rn_pr (rn_setx st f) v = nI p := hpr
  unfold sp
  by_cases c1 : 200 < sp_e p mode s ((T : Int) - 589) q m
  · rw [if_neg (fun h => absurd (hle.1.mp h) (by omega)), if_pos c1]
    have hh := cl_huge (st := st) (f := f) (s := s) (sm := RN_modeOnSize mode s) hd hpr hp1 hp2
    by_cases c2 : mode = 0 ∨ sp_gr mode s = true
    · obtain ⟨t, b1, b2⟩ := hh.2 (fun h => (mo_1 hm hs).mp h c2)
      rw [if_pos c2, bd_eq b1]
      exact ⟨t, rfl, b2⟩
    · obtain ⟨t, b1, b2⟩ := hh.1 ((mo_1 hm hs).mpr c2)
      rw [if_neg c2, bd_eq b1]
      exact ⟨t, rfl, b2⟩
  · rw [if_pos (hle.1.mpr (by omega)), if_neg c1]
    by_cases c2 : sp_e p mode s ((T : Int) - 589) q m < -200
    · rw [if_neg (fun h => absurd (hle.2.mp h) (by omega)), if_pos c2]
      have hty := fun z => cl_tiny (st := st) (f := f) (s := s) (z := z) hd
      have hz1 : ∃ t, RN_storeExact_159 s d (rn_setx st f) = (-s, t) ∧ put_c st t v 2 s 0 0 := by
        unfold RN_storeExact_159 RN_storeExact_164
        obtain ⟨t, b1, b2⟩ := (hty 1).2 (by decide)
        exact ⟨t, by rw [bd_eq b1], b2⟩
      have hz0 : ∃ t, RN_storeExact_163 s d (rn_setx st f) = (s, t) ∧ put_c st t v 3 s (-200) (2 ^ 92) := by
        unfold RN_storeExact_163 RN_storeExact_164
        obtain ⟨t, b1, b2⟩ := (hty 0).1 rfl
        exact ⟨t, by rw [bd_eq b1], b2⟩
      unfold sp_zero
      by_cases c3 : mode = 0
      · rw [if_neg (fun h => (mo_1 hm hs).mp h (Or.inl c3)), if_pos ((mo_0 hm hs).mpr c3), if_pos c3]
        have hsm : sp_small p ((T : Int) - 589) q m = true ↔ ¬ near = 0 := by
          rw [hnear]
          unfold sp_small
          simp only [Bool.or_eq_true, Bool.and_eq_true, decide_eq_true_eq, Bool.not_eq_true']
          have hmf : m = false ↔ xv (rn_ex st) % 2 ^ (T - p) = 0 := by
            rw [← hmm, decide_eq_false_iff_not]
            exact Decidable.not_not
          rw [hmf, ← hqp]
          refine ⟨fun h => ?_, fun h => ?_⟩
          · rcases h with h | ⟨h, h3⟩
            · have h4 := p2_le (show T + 1 ≤ 387 by omega)
              exact Nat.not_lt_of_le (Nat.le_trans (Nat.le_of_lt hT.2) h4)
            · have h4 : T = 387 := by omega
              rw [h3, h4]
              exact Nat.lt_irrefl _
          · rcases Nat.lt_trichotomy T 387 with h4 | h4 | h4
            · exact Or.inl (by omega)
            · refine Or.inr ⟨by omega, ?_⟩
              have h5 := hT.1
              rw [h4] at h5 ⊢
              exact Nat.le_antisymm (Nat.le_of_not_lt h) h5
            · exact absurd (Nat.lt_of_lt_of_le (p2_lt h4) hT.1) h
        by_cases c4 : near = 0
        · rw [if_pos c4, if_neg (fun h => (hsm.mp h) c4)]
          exact hz0
        · rw [if_neg c4, if_pos (hsm.mpr c4)]
          exact hz1
      · rw [if_neg c3]
        by_cases c4 : sp_gr mode s = true
        · rw [if_neg (fun h => (mo_1 hm hs).mp h (Or.inr c4)), if_neg (fun h => c3 ((mo_0 hm hs).mp h)), c4, if_neg (by decide)]
          exact hz0
        · rw [if_pos ((mo_1 hm hs).mpr (fun h => h.elim c3 c4)), Bool.eq_false_iff.mpr c4, if_pos (by decide)]
          exact hz1
    · rw [if_pos (hle.2.mpr (by omega)), if_neg c2, nm_e0, hd]
      have hput := put_into (st := st) (f := f) hokf (v := v) (s := s) hT' (by omega) (by omega)
      rw [hX, he] at hput
      refine ⟨_, ?_, hput⟩
      have hsm := sg_mul hs
      by_cases c5 : sp_ix q m = true
      · rw [if_pos c5, if_pos c5]
        by_cases c6 : sp_up p mode s ((T : Int) - 589) q m = true
        · rw [if_pos c6, if_pos c6, hsm.1]
        · rw [if_neg c6, if_neg c6, hsm.2.1]
      · rw [if_neg c5, if_neg c5, hsm.2.2]
