/-! Arguments; the calls that round nothing: a new object, setPrec, kindOf, signOf, expOf, mantBit -/
theorem i10 : ((1 : Int32) = 0) = False := eq_false (by decide)
theorem reg_cases (x : Int32) : (∃ v, v < 8 ∧ x = nI v ∧ RN_isRegister x = 1 ∧ RM_isRegister x = 1) ∨ (RN_isRegister x = 0 ∧ RM_isRegister x = 0) := by
  have e : RM_isRegister x = RN_isRegister x := rfl
  rw [e]
  unfold RN_isRegister
  by_cases h1 : x < 0
  · rw [if_pos h1]
    exact Or.inr ⟨rfl, rfl⟩
  · rw [if_neg h1]
    by_cases h2 : (8 : Int32) ≤ x
    · rw [if_pos h2]
      exact Or.inr ⟨rfl, rfl⟩
    · rw [if_neg h2]
      obtain ⟨j, hj, e⟩ := nI_of h1
      subst e
      rw [show (8 : Int32) = nI 8 from rfl, nI_leI (by decide) hj] at h2
      exact Or.inl ⟨j, by omega, rfl, rfl, rfl⟩
theorem mode_cases (m : Int32) : (ismode m ∧ RM_isMode m = 1 ∧ ¬ m < 0 ∧ ¬ (4 : Int32) < m) ∨ (RM_isMode m = 0 ∧ (m < 0 ∨ (4 : Int32) < m)) := by
  unfold RM_isMode
  by_cases h1 : m < 0
  · rw [if_pos h1]
    exact Or.inr ⟨rfl, Or.inl h1⟩
  · rw [if_neg h1]
    by_cases h2 : (4 : Int32) < m
    · rw [if_pos h2]
      exact Or.inr ⟨rfl, Or.inr h2⟩
    · rw [if_neg h2]
      refine Or.inl ⟨?_, rfl, h1, h2⟩
      obtain ⟨j, hj, e⟩ := nI_of h1
      subst e
      rw [show (4 : Int32) = nI 4 from rfl, nI_ltI (by decide) hj] at h2
      rcases (show j = 0 ∨ j = 1 ∨ j = 2 ∨ j = 3 ∨ j = 4 by omega) with h | h | h | h | h <;> subst h
      · exact Or.inl rfl
      · exact Or.inr (Or.inl rfl)
      · exact Or.inr (Or.inr (Or.inl rfl))
      · exact Or.inr (Or.inr (Or.inr (Or.inl rfl)))
      · exact Or.inr (Or.inr (Or.inr (Or.inr rfl)))
theorem tgt_cases (x m : Int32) : (∃ v, v < 8 ∧ x = nI v ∧ ismode m ∧ RN_isTarget x m = 1 ∧ RM_isRegister x = 1 ∧ RM_isMode m = 1) ∨ (RN_isTarget x m = 0 ∧ (RM_isRegister x = 0 ∨ (RM_isRegister x = 1 ∧ RM_isMode m = 0))) := by
  unfold RN_isTarget
  rw [nm_e0]
  rcases reg_cases x with ⟨v, hv, e, r1, r2⟩ | ⟨r1, r2⟩
  · rw [r1, if_neg (by decide)]
    rcases mode_cases m with ⟨m1, m2, m3, m4⟩ | ⟨m2, m3⟩
    · rw [if_neg m3, if_neg m4]
      exact Or.inl ⟨v, hv, e, m1, rfl, r2, m2⟩
    · refine Or.inr ⟨?_, Or.inr ⟨r2, m2⟩⟩
      rcases m3 with h | h
      · rw [if_pos h]
      · by_cases h2 : m < 0
        · rw [if_pos h2]
        · rw [if_neg h2, if_pos h]
  · rw [r1, if_pos rfl]
    exact Or.inr ⟨rfl, Or.inl r2⟩
theorem op_init (b : Int32) : Rel (rn_init (rn_clamp b)) (rm_init (rm_clamp b)) := by
  have e93 : (93 : Int32).toInt = 93 := rfl
  have e1 : (1 : Int32).toInt = 1 := rfl
  have h : ∃ p : Nat, 1 ≤ p ∧ p ≤ 93 ∧ rn_clamp b = nI p ∧ rm_clamp b = nI p := by
    unfold rn_clamp rm_clamp
    by_cases h1 : (1 : Int32) ≤ b
    · rw [if_pos h1]
      rw [Int32.le_iff_toInt_le, e1] at h1
      by_cases h2 : b ≤ (93 : Int32)
      · rw [if_pos h2]
        rw [Int32.le_iff_toInt_le, e93] at h2
        refine ⟨b.toInt.toNat, by omega, by omega, ?_, nI_of0 (by omega)⟩
        rw [← nI_of0 (show 0 ≤ b.toInt by omega)]
        have hb : (if b < 93 then b else 93) = b := by
          by_cases h3 : b < 93
          · rw [if_pos h3]
          · rw [if_neg h3]
            rw [Int32.lt_iff_toInt_lt, e93] at h3
            exact Int32.toInt_inj.mp (by rw [e93]; omega)
        rw [hb]
        by_cases h4 : (1 : Int32) < b
        · rw [if_pos h4]
        · rw [if_neg h4]
          rw [Int32.lt_iff_toInt_lt, e1] at h4
          exact Int32.toInt_inj.mp (by rw [e1]; omega)
      · rw [if_neg h2]
        rw [Int32.le_iff_toInt_le, e93] at h2
        rw [if_neg (show ¬ b < 93 by rw [Int32.lt_iff_toInt_lt, e93]; omega)]
        exact ⟨93, by decide, by decide, by decide, rfl⟩
    · rw [if_neg h1]
      rw [Int32.le_iff_toInt_le, e1] at h1
      rw [if_pos (show b < 93 by rw [Int32.lt_iff_toInt_lt, e93]; omega), if_neg (show ¬ (1 : Int32) < b by rw [Int32.lt_iff_toInt_lt, e1]; omega)]
      exact ⟨1, by decide, by decide, rfl, rfl⟩
  obtain ⟨p, h1, h2, h3, h4⟩ := h
  intro r hr
  refine ⟨p, h1, h2, h3, h4, rfl, rfl, Or.inl rfl, fun _ => rfl, fun h => absurd rfl h, fun h => absurd (show (0 : Int32) = 3 from h) (by decide)⟩
theorem op_setPrec (st : rn_S) (ms : rm_S) (x y : Int32) (hR : Rel st ms) : ∃ r t u, RN_setPrec st x y = (r, t) ∧ RM_setPrec ms x y = some (r, u) ∧ Rel t u := by
  rcases reg_cases x with ⟨v, hv, e, r1, r2⟩ | ⟨r1, r2⟩
  · by_cases h1 : y < 1
    · exact ⟨0, st, ms, by simp only [RN_setPrec, nm_e0, r1, i10, if_false, h1, if_true], by simp only [RM_setPrec, nm_e0, r2, i10, if_false, h1, if_true], hR⟩
    · by_cases h2 : y ≤ 93
      · subst e
        have ho : ob_in (nI v) 8 = true := ob_nI hv (by decide)
        have hc : (nI v).toNatClampNeg = v := nI_clamp (by omega)
        refine ⟨1, RV_become (rn_prs st v y) v 0 0, rm_up (rm_up (rm_up ms 1 v y) 2 v 0) 3 v 0, by simp only [RN_setPrec, nm_e0, r1, i10, if_false, h1, h2, if_true, hc], by simp only [RM_setPrec, nm_e0, r2, i10, if_false, h1, h2, if_true, hc, ho], ?_⟩
        have e1 : (1 : Int32).toInt = 1 := rfl
        have e93 : (93 : Int32).toInt = 93 := rfl
        rw [Int32.lt_iff_toInt_lt, e1] at h1
        rw [Int32.le_iff_toInt_le, e93] at h2
        intro r hr
        obtain ⟨p1, a1, a2, a3, a4, a5, a6, a7, a8, a9, a10⟩ := hR r hr
        by_cases h : r = v
        · subst h
          have hy := nI_of0 (show 0 ≤ y.toInt by omega)
          refine ⟨y.toInt.toNat, by omega, by omega, ?_, ?_, ?_, ?_, ?_, ?_, ?_, ?_⟩
          · show upd (rn_pr st) r y r = _
            rw [upd_same]; exact hy
          · show upd (ms 1) r y r = _
            rw [upd_same]; exact hy
          · show upd (rn_kd st) r 0 r = upd (ms 2) r 0 r
            rw [upd_same, upd_same]
          · show upd (rn_sg st) r 0 r = upd (ms 3) r 0 r
            rw [upd_same, upd_same]
          · exact Or.inl upd_same
          · intro _
            exact upd_same
          · intro h9
            exact absurd upd_same h9
          · intro h9
            have h8 : (0 : Int32) = 3 := (upd_same (f := rn_kd st) (k := r) (x := 0)).symm.trans h9
            exact absurd h8 (by decide)
        · refine ⟨p1, a1, a2, ?_, ?_, ?_, ?_, ?_, ?_, ?_, ?_⟩
          · show upd (rn_pr st) v y r = _
            rw [upd_ne h]; exact a3
          · show upd (ms 1) v y r = _
            rw [upd_ne h]; exact a4
          · show upd (rn_kd st) v 0 r = upd (ms 2) v 0 r
            rw [upd_ne h, upd_ne h]; exact a5
          · show upd (rn_sg st) v 0 r = upd (ms 3) v 0 r
            rw [upd_ne h, upd_ne h]; exact a6
          · show iskind (upd (rn_kd st) v 0 r)
            rw [upd_ne h]; exact a7
          · show upd (rn_kd st) v 0 r = 0 → upd (rn_sg st) v 0 r = 0
            rw [upd_ne h, upd_ne h]; exact a8
          · show upd (rn_kd st) v 0 r ≠ 0 → issign (upd (rn_sg st) v 0 r)
            rw [upd_ne h, upd_ne h]; exact a9
          · show upd (rn_kd st) v 0 r = 3 → _
            rw [upd_ne h]
            intro hk
            exact a10 hk
      · exact ⟨0, st, ms, by simp only [RN_setPrec, nm_e0, r1, i10, if_false, h1, h2], by simp only [RM_setPrec, nm_e0, r2, i10, if_false, h1, h2], hR⟩
  · exact ⟨0, st, ms, by simp only [RN_setPrec, nm_e0, r1, if_true], by simp only [RM_setPrec, nm_e0, r2, if_true], hR⟩
theorem op_kindOf (st : rn_S) (ms : rm_S) (x : Int32) (hR : Rel st ms) : ∃ r, RN_kindOf st x = r ∧ RM_kindOf ms x = some r := by
  rcases reg_cases x with ⟨v, hv, e, r1, r2⟩ | ⟨r1, r2⟩
  · obtain ⟨p, a1, a2, a3, a4, a5, a6, a7, a8, a9, a10⟩ := hR v hv
    subst e
    have ho : ob_in (nI v) 8 = true := ob_nI hv (by decide)
    have hc : (nI v).toNatClampNeg = v := nI_clamp (by omega)
    exact ⟨rn_kd st v, by simp only [RN_kindOf, nm_e0, r1, i10, if_false, hc], by simp only [RM_kindOf, nm_e0, r2, i10, if_false, ho, if_true, hc, a5]⟩
  · exact ⟨-1, by simp only [RN_kindOf, nm_e0, r1, if_true], by simp only [RM_kindOf, nm_e0, r2, if_true]⟩
theorem op_signOf (st : rn_S) (ms : rm_S) (x : Int32) (hR : Rel st ms) : ∃ r, RN_signOf st x = r ∧ RM_signOf ms x = some r := by
  rcases reg_cases x with ⟨v, hv, e, r1, r2⟩ | ⟨r1, r2⟩
  · obtain ⟨p, a1, a2, a3, a4, a5, a6, a7, a8, a9, a10⟩ := hR v hv
    subst e
    have ho : ob_in (nI v) 8 = true := ob_nI hv (by decide)
    have hc : (nI v).toNatClampNeg = v := nI_clamp (by omega)
    exact ⟨rn_sg st v, by simp only [RN_signOf, nm_e0, r1, i10, if_false, hc], by simp only [RM_signOf, nm_e0, r2, i10, if_false, ho, if_true, hc, a6]⟩
  · exact ⟨0, by simp only [RN_signOf, nm_e0, r1, if_true], by simp only [RM_signOf, nm_e0, r2, if_true]⟩
theorem op_expOf (st : rn_S) (ms : rm_S) (x : Int32) (hR : Rel st ms) : ∃ r, RN_expOf st x = r ∧ RM_expOf ms x = some r := by
  rcases reg_cases x with ⟨v, hv, e, r1, r2⟩ | ⟨r1, r2⟩
  · obtain ⟨p, a1, a2, a3, a4, a5, a6, a7, a8, a9, a10⟩ := hR v hv
    subst e
    have ho : ob_in (nI v) 8 = true := ob_nI hv (by decide)
    have hc : (nI v).toNatClampNeg = v := nI_clamp (by omega)
    by_cases h3 : ms 2 v = 3
    · obtain ⟨e1, X, b1, b2, b3, b4, -⟩ := a10 (a5.trans h3)
      have he : RV_exponent st v = ms 4 v := by
        apply Int32.toInt_inj.mp
        have e93 : (93 : Int32).toInt = 93 := rfl
        unfold RV_exponent
        rw [ar_add (by omega) (by omega), e93]
        omega
      exact ⟨ms 4 v, by simp only [RN_expOf, RN_isRegular, nm_e0, r1, i10, if_false, hc, a5, h3, if_true, he], by simp only [RM_expOf, nm_e0, r2, i10, if_false, ho, if_true, hc, h3]⟩
    · exact ⟨0, by simp only [RN_expOf, RN_isRegular, nm_e0, r1, i10, if_false, hc, a5, h3, if_true], by simp only [RM_expOf, nm_e0, r2, i10, if_false, ho, if_true, hc, h3]⟩
  · exact ⟨0, by simp only [RN_expOf, RN_isRegular, nm_e0, r1, if_true], by simp only [RM_expOf, nm_e0, r2, if_true]⟩
/-- a bit of a register of the class -/
theorem rv_bft {st : rn_S} {v X : Nat} (hl : ∀ i, i < 3 → 0 ≤ (rn_lb st v i).toInt) (hX : dv B31 (fun i => (rn_lb st v i).toInt.toNat) 3 = X) {i : Nat} (hi : i < 93) : RV_bitFromTop st v (nI i) = nI (X / 2 ^ (92 - i) % 2) := by
  have hr : (92 - i) % 31 < 31 := Nat.mod_lt _ (by decide)
  have hq : (92 - i) / 31 < 3 := by omega
  have hd : ∀ j, (rn_lb st v j).toInt.toNat < B31 := fun j => by
    have := ar_hi (rn_lb st v j)
    show _ < 2147483648
    omega
  unfold RV_bitFromTop
  rw [if_neg (nI_pos (by omega)), if_pos (show nI i < (93 : Int32) from (nI_ltI (b := 93) (by omega) (by decide)).mpr hi), nm_e0, show (92 : Int32) = nI 92 from rfl, pk_sub (by omega), pl_div (by omega), pl_rem2 (by omega), nI_clamp (by omega)]
  rw [nI_of0 (hl _ hq), pk_shrN (show (rn_lb st v ((92 - i) / 31)).toInt.toNat < 2 ^ 31 from hd _) _ ((92 - i) % 31) (s_l _ (by omega))]
  have hd2 : (rn_lb st v ((92 - i) / 31)).toInt.toNat / 2 ^ ((92 - i) % 31) < 2 ^ 32 := Nat.lt_of_le_of_lt (Nat.div_le_self _ _) (Nat.lt_trans (hd _) (by decide))
  rw [pk_andN hd2 (m := 1) 1 (by decide)]
  congr 1
  have hdig := dv_digit (B := B31) (f := fun i => (rn_lb st v i).toInt.toNat) (k := (92 - i) / 31) (n := 3) (by decide) hq (fun j _ => hd j)
  rw [hX] at hdig
  have hdig2 : X / B31 ^ ((92 - i) / 31) % 2 ^ 31 = (rn_lb st v ((92 - i) / 31)).toInt.toNat := hdig
  rw [← hdig2, Nat.pow_one, md_2 _ _ _ hr, pl_pow (92 - i), Nat.div_div_eq_div_mul]
theorem op_mantBit (st : rn_S) (ms : rm_S) (x y : Int32) (hR : Rel st ms) : ∃ r, RN_mantBit st x y = r ∧ RM_mantBit ms x y = some r := by
  rcases reg_cases x with ⟨v, hv, e, r1, r2⟩ | ⟨r1, r2⟩
  · obtain ⟨p, a1, a2, a3, a4, a5, a6, a7, a8, a9, a10⟩ := hR v hv
    subst e
    have ho : ob_in (nI v) 8 = true := ob_nI hv (by decide)
    have hc : (nI v).toNatClampNeg = v := nI_clamp (by omega)
    by_cases h3 : ms 2 v = 3
    · obtain ⟨e1, X, b1, b2, b3, b4, b5, b6, b7, b8, b9, b10⟩ := a10 (a5.trans h3)
      by_cases h4 : y < 0
      · exact ⟨-1, by simp only [RN_mantBit, RN_isRegular, nm_e0, r1, i10, if_false, hc, a5, h3, if_true, h4], by simp only [RM_mantBit, nm_e0, r2, i10, if_false, ho, if_true, hc, h3, h4]⟩
      · obtain ⟨i, hi, ey⟩ := nI_of h4
        subst ey
        by_cases h5 : i < p
        · have c1 : nI i < nI p := (nI_ltI (by omega) (by omega)).mpr h5
          have c2 : ¬ nI p ≤ nI i := fun h => absurd ((nI_leI (by omega) (by omega)).mp h) (by omega)
          have c3 : ob_in (nI (93 * v + i)) 744 = true := ob_nI (by omega) (by decide)
          have c4 : (nI (93 * v + i)).toNatClampNeg = 93 * v + i := nI_clamp (by omega)
          exact ⟨nI (X / 2 ^ (92 - i) % 2), by simp only [RN_mantBit, RN_isRegular, nm_e0, r1, i10, if_false, hc, a5, h3, if_true, h4, a3, c1, rv_bft b8 b9 (show i < 93 by omega)], by simp only [RM_mantBit, nm_e0, r2, i10, if_false, ho, if_true, hc, h3, h4, a4, c2, ix93, c3, c4, b10 i h5]⟩
        · have c1 : ¬ nI i < nI p := fun h => absurd ((nI_ltI (by omega) (by omega)).mp h) (by omega)
          have c2 : nI p ≤ nI i := (nI_leI (by omega) (by omega)).mpr (by omega)
          exact ⟨-1, by simp only [RN_mantBit, RN_isRegular, nm_e0, r1, i10, if_false, hc, a5, h3, if_true, h4, a3, c1], by simp only [RM_mantBit, nm_e0, r2, i10, if_false, ho, if_true, hc, h3, h4, a4, c2]⟩
    · exact ⟨-1, by simp only [RN_mantBit, RN_isRegular, nm_e0, r1, i10, if_false, hc, a5, h3, if_true], by simp only [RM_mantBit, nm_e0, r2, i10, if_false, ho, if_true, hc, h3]⟩
  · exact ⟨-1, by simp only [RN_mantBit, RN_isRegular, nm_e0, r1, if_true], by simp only [RM_mantBit, nm_e0, r2, if_true]⟩
