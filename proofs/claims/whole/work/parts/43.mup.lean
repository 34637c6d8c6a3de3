/-! The reference: grows, goesUp, and the bits of the rounded number -/
theorem gr_m {mode s : Int32} (hm : ismode mode) (hs : issign s) : RM_grows mode s = if sp_gr mode s = true then 1 else 0 := by
  rcases hm with h | h | h | h | h <;> rcases hs with h2 | h2 <;> subst h <;> subst h2 <;> decide
theorem rem2 {x : Int32} {z : Int} (h : x.toInt = z) (h1 : -100000 < z) (h2 : z < 100000) : (x - x / (2 : Int32) * (2 : Int32) = 0) ↔ z % 2 = 0 := by
  have e2 : (2 : Int32).toInt = 2 := rfl
  have hd : (x / (2 : Int32)).toInt = z.tdiv 2 := by rw [Int32.toInt_div_of_ne_right x 2 (by decide), h, e2]
  have hb : (0 ≤ z → z.tdiv 2 = z / 2) ∧ (z < 0 → z.tdiv 2 = -((-z) / 2)) := by
    refine ⟨fun h => Int.tdiv_eq_ediv_of_nonneg h, fun h => ?_⟩
    have h1 : z = -(-z) := by omega
    rw [h1, Int.neg_tdiv, Int.tdiv_eq_ediv_of_nonneg (by omega)]
    omega
  have hr : -50001 < z.tdiv 2 ∧ z.tdiv 2 < 50001 ∧ (z - z.tdiv 2 * 2 = 0 ↔ z % 2 = 0) := by
    rcases Int.lt_or_le z 0 with h3 | h3
    · rw [hb.2 h3]; omega
    · rw [hb.1 h3]; omega
  have hm : (x / (2 : Int32) * (2 : Int32)).toInt = z.tdiv 2 * 2 := by rw [ar_mul (by rw [hd, e2]; omega) (by rw [hd, e2]; omega), hd, e2]
  have hs : (x - x / (2 : Int32) * (2 : Int32)).toInt = z - z.tdiv 2 * 2 := by rw [ar_sub (by rw [hm]; omega) (by rw [hm]; omega), hm, h]
  rw [← hr.2.2, ← hs]
  exact ⟨fun h => by rw [h]; rfl, fun h => Int32.toInt_inj.mp h⟩
theorem bit1 {f : Nat → Int32} (hb : isb f) {k : Nat} (hk : k < 1024) : (f k = 1) ↔ rv f / 2 ^ k % 2 = 1 := by
  rw [rv_bit hb hk]
  unfold xd
  rcases hb k hk with h | h <;> rw [h] <;> decide
theorem rm_goes {ms : rm_S} (hb : isb (ms 6)) {h p : Nat} {mode s : Int32} (hp1 : 1 ≤ p) (hph : p ≤ h) (hh : h < 1024) (hm : ismode mode) (hs : issign s) {q : Nat} {m : Bool} (hq : rv (ms 6) / 2 ^ (h - p) = q) (hmm : decide (rv (ms 6) % 2 ^ (h - p) ≠ 0) = m) :
    RM_goesUp ms (nI h) (nI p) mode s = some (if sp_up p mode s ((h : Int) - 600) q m = true then 1 else 0) := by
  have hany := rm_any hb (show h - p ≤ 1024 by omega)
  have hbit := bit1 hb (show h - p < 1024 by omega)
  rw [hq] at hbit
  have hany2 : RM_anyBelow ms (nI (h - p)) = some (if m = true then 1 else 0) := by
    rw [hany]
    by_cases h0 : rv (ms 6) % 2 ^ (h - p) = 0
    · have hm0 : m = false := by rw [← hmm, decide_eq_false_iff_not]; exact fun h9 => h9 h0
      rw [if_pos h0, hm0, if_neg (by decide)]
    · have hm1 : m = true := by rw [← hmm, decide_eq_true_eq]; exact h0
      rw [if_neg h0, hm1, if_pos rfl]
  have h95 : ∀ (a b : Bool) (o : Bool), RM_goesUp_95 (if a = true then 1 else 0) (if b = true then 1 else 0) (if o = true then 1 else 0) ms = some (if (a && (b || o)) = true then 1 else 0) := by
    intro a b o
    cases a <;> cases b <;> cases o <;> rfl
  have h40 : ∀ a : Bool, (a = true ↔ q % 2 = 1) → RM_goesUp_40 (nI h) (nI p) mode s (if a = true then 1 else 0) (if m = true then 1 else 0) ms = some (if (if mode = 0 then (q % 2 == 1 && (m || sp_odd p ((h : Int) - 600) q)) else sp_gr mode s) = true then 1 else 0) := by
    intro a ha
    have ha2 : (q % 2 == 1) = a := by
      cases a
      · rw [beq_eq_false_iff_ne]
        exact fun h9 => absurd (ha.mpr h9) (by decide)
      · rw [beq_iff_eq]
        exact ha.mp rfl
    unfold RM_goesUp_40
    by_cases h0 : mode = 0
    · rw [if_pos h0, if_pos h0, ha2]
      unfold sp_odd
      by_cases hp : p = 1
      · rw [if_pos (show nI p = 1 by rw [hp]; rfl), if_pos hp]
        have hz : (nI h - (600 : Int32) + (1 : Int32)).toInt = (h : Int) - 600 + 1 := by
          have e1 : (nI h).toInt = h := nI_toInt (by omega)
          have e6 : (600 : Int32).toInt = 600 := rfl
          have e9 : (1 : Int32).toInt = 1 := rfl
          have e7 : (nI h - (600 : Int32)).toInt = (h : Int) - 600 := by rw [ar_sub (by omega) (by omega), e1, e6]
          rw [ar_add (by omega) (by omega), e7, e9]
        have hr := rem2 hz (by omega) (by omega)
        by_cases hz0 : ((h : Int) - 600 + 1) % 2 = 0
        · rw [if_pos (hr.mpr hz0), show ((((h : Int) - 600 + 1) % 2) != 0) = false by rw [hz0]; decide]
          exact h95 a m false
        · rw [if_neg (fun h9 => hz0 (hr.mp h9)), show ((((h : Int) - 600 + 1) % 2) != 0) = true by rw [bne_iff_ne]; exact hz0]
          exact h95 a m true
      · rw [if_neg (fun h9 => hp ((nI_eq (by omega) (by decide)).mp (h9.trans (show (1 : Int32) = nI 1 from rfl)))), if_neg hp, pk_sub hph, nI_1, if_pos (ob_nI (by omega) (by decide)), nI_clamp (by omega)]
        have hb2 := bit1 hb (show h - p + 1 < 1024 by omega)
        rw [Nat.pow_succ, ← Nat.div_div_eq_div_mul, hq] at hb2
        by_cases ho : ms 6 (h - p + 1) = 1
        · rw [if_pos ho, hb2.mp ho]
          exact h95 a m true
        · rw [if_neg ho, show (q / 2 % 2 == 1) = false by rw [beq_eq_false_iff_ne]; exact fun h9 => ho (hb2.mpr h9)]
          exact h95 a m false
    · rw [if_neg h0, if_neg h0, nm_e0, gr_m hm hs]
      by_cases hg : sp_gr mode s = true
      · rw [if_pos hg, if_pos (by decide)]
      · rw [if_neg hg, if_pos (by decide)]
  have h17 : ∀ a : Bool, (a = true ↔ q % 2 = 1) → RM_goesUp_17 (nI h) (nI p) mode s (if a = true then 1 else 0) ms = some (if sp_up p mode s ((h : Int) - 600) q m = true then 1 else 0) := by
    intro a ha
    have ha2 : (q % 2 == 1) = a := by
      cases a
      · rw [beq_eq_false_iff_ne]
        exact fun h9 => absurd (ha.mpr h9) (by decide)
      · rw [beq_iff_eq]
        exact ha.mp rfl
    have h4 := h40 a ha
    unfold RM_goesUp_17
    rw [pk_sub hph, hany2]
    unfold ob1 sp_up sp_ix
    rw [Option.bind_some]
    rw [ha2] at h4 ⊢
    cases a
    · cases m
      · rfl
      · exact h4
    · exact h4
  unfold RM_goesUp
  rw [pk_sub hph, if_pos (ob_nI (by omega) (by decide)), nI_clamp (by omega)]
  by_cases hb1 : ms 6 (h - p) = 1
  · rw [if_pos hb1]
    exact h17 true ⟨fun _ => hbit.mp hb1, fun _ => rfl⟩
  · rw [if_neg hb1]
    exact h17 false ⟨fun h9 => absurd h9 (by decide), fun h9 => absurd (hbit.mpr h9) hb1⟩
