/-! fma: the class's side -/
def gp (t : rn_S) (s : Int32) (pl W : Nat) : Int := if rn_kd t 9 = 3 then s.toInt * ((W * 2 ^ pl : Nat) : Int) else 0
def val9 (t : rn_S) (pl W : Nat) : Prop := (∀ l, l < 6 → 0 ≤ (rn_lb t 9 l).toInt) ∧ dv B31 (xd (rn_lb t 9)) 6 = W ∧ (rn_lw t 9).toInt + 589 = pl ∧ pl ≤ 803 ∧ W < 2 ^ 186
theorem cl_gath9 {t : rn_S} {f0 : Nat → Int32} (hok : ok33 f0) {s : Int32} {pl W : Nat} (hg : rn_kd t 9 = 3 → val9 t pl W) (hs : rn_kd t 9 = 3 → issign s) :
    ∃ f, RE_gather (rn_setx t f0) 9 s = rn_setx t f ∧ ok33 f ∧ ∃ co : Int, (xv f : Int) + co * ((2 ^ 1023 : Nat) : Int) = xv f0 + gp t s pl W := by
  unfold gp
  by_cases hk : rn_kd t 9 = 3
  · obtain ⟨b1, b2, b3, b4, b5⟩ := hg hk
    have l6 : rn_len 9 = 6 := rfl
    obtain ⟨f, a1, a2, co, a3⟩ := ex_gather (st := rn_setx t f0) (v := 9) (s := s) (pl := pl) hok (by rw [l6]; exact b1) hk b3 (by rw [l6]; omega) (hs hk)
    refine ⟨f, by rw [a1, sx_sx], a2, co, ?_⟩
    have hn : lv_n (rn_setx t f0) 9 = W := by
      unfold lv_n
      rw [l6]
      exact b2
    rw [hn, B33i, sx_ex] at a3
    rw [if_pos hk, a3, Int.natCast_mul, Int.natCast_pow]
    rfl
  · refine ⟨f0, ?_, hok, 0, ?_⟩
    · unfold RE_gather
      exact if_neg hk
    · rw [if_neg hk]
      omega
theorem gp_b {t : rn_S} {s : Int32} {pl W : Nat} (hs : rn_kd t 9 = 3 → issign s) (hg : rn_kd t 9 = 3 → val9 t pl W) : -((2 ^ 989 : Nat) : Int) < gp t s pl W ∧ gp t s pl W < ((2 ^ 989 : Nat) : Int) := by
  unfold gp
  by_cases hk : rn_kd t 9 = 3
  · rw [if_pos hk]
    obtain ⟨b1, b2, b3, b4, b5⟩ := hg hk
    have h3 : W * 2 ^ pl < 2 ^ 186 * 2 ^ pl := Nat.mul_lt_mul_of_pos_right b5 (p2_pos pl)
    rw [← Nat.pow_add] at h3
    have h4 : W * 2 ^ pl < 2 ^ 989 := Nat.lt_of_lt_of_le h3 (p2_le (by omega))
    generalize W * 2 ^ pl = A at h4
    generalize (2 : Nat) ^ 989 = P at h4
    rcases hs hk with h | h <;> rw [h]
    · rw [show (1 : Int32).toInt = 1 from rfl]; omega
    · rw [show (-1 : Int32).toInt = -1 from rfl]; omega
  · rw [if_neg hk]
    have h1 : (0 : Int) < ((2 ^ 989 : Nat) : Int) := Int.ofNat_lt.mpr (p2_pos 989)
    generalize ((2 ^ 989 : Nat) : Int) = P at h1
    omega
theorem cl_two9 {t : rn_S} {ms : rm_S} {y p2 pl W : Nat} {e2 : Int} {X2 : Nat} {s1 s2 : Int32} (hy : y < 8) (hg1 : rn_kd t 9 = 3 → val9 t pl W) (hg2 : rn_kd t y = 3 → reg3 t ms y p2 e2 X2) (hs1 : rn_kd t 9 = 3 → issign s1) (hs2 : rn_kd t y = 3 → issign s2) :
    ∃ f, RE_splitSign (RE_gather (RE_gather (RE_clear t) 9 s1) y s2) = (sgn (gp t s1 pl W + gz t y s2 e2 X2), rn_setx t f) ∧ ok33 f ∧ xv f = (gp t s1 pl W + gz t y s2 e2 X2).natAbs := by
  obtain ⟨f0, c1, c2, c3⟩ := ex_clear t
  obtain ⟨f1, d1, d2, co1, d3⟩ := cl_gath9 (t := t) c2 hg1 hs1
  obtain ⟨f2, g1, g2, co2, g3⟩ := cl_gath (st := t) (ms := ms) d2 hy hg2 hs2
  obtain ⟨b11, b12⟩ := gp_b (t := t) hs1 hg1
  have b2 := gz_b (st := t) (x := y) (s := s2) (e := e2) (X := X2) hs2 (fun h => ⟨(hg2 h).2.2.2.2.2.1, (hg2 h).2.2.1, (hg2 h).2.2.2.1⟩)
  obtain ⟨b21, b22, z2, b23⟩ := b2
  have hA : ((2 ^ 989 : Nat) : Int) + ((2 ^ 789 : Nat) : Int) < ((2 ^ 992 : Nat) : Int) := by
    rw [← Int.natCast_add]
    refine Int.ofNat_lt.mpr ?_
    have q1 : (2 : Nat) ^ 789 ≤ 2 ^ 989 := p2_le (by decide)
    have q2 : (2 : Nat) ^ 990 = 2 ^ 989 + 2 ^ 989 := by rw [Nat.pow_succ]; omega
    have q3 : (2 : Nat) ^ 990 < 2 ^ 992 := p2_lt (by decide)
    generalize (2 : Nat) ^ 789 = a at *
    generalize (2 : Nat) ^ 989 = b at *
    generalize (2 : Nat) ^ 990 = c at *
    generalize (2 : Nat) ^ 992 = d at *
    omega
  rw [c3] at d3
  have hE : (xv f2 : Int) + (co1 + co2) * ((2 ^ 1023 : Nat) : Int) = gp t s1 pl W + gz t y s2 e2 X2 := by
    rw [Int.add_mul]
    have h9 : ((0 : Nat) : Int) = 0 := rfl
    rw [h9] at d3
    generalize ((2 ^ 1023 : Nat) : Int) = M at *
    omega
  rw [c1, d1, g1]
  generalize hZ : gp t s1 pl W + gz t y s2 e2 X2 = Z at *
  obtain ⟨f, a1, a2, a3⟩ := ex_split (st := rn_setx t f2) (Z := Z) (co := co1 + co2) g2 (by
    generalize ((2 ^ 992 : Nat) : Int) = P at *
    generalize ((2 ^ 789 : Nat) : Int) = Q at *
    generalize ((2 ^ 989 : Nat) : Int) = R at *
    omega) (by
    generalize ((2 ^ 992 : Nat) : Int) = P at *
    generalize ((2 ^ 789 : Nat) : Int) = Q at *
    generalize ((2 ^ 989 : Nat) : Int) = R at *
    omega) hE
  exact ⟨f, by rw [a1, sx_sx], a2, Int.ofNat.inj a3⟩
theorem tz_of {n : Nat} (h1 : 2 ^ 95 ≤ n) (h2 : n < 2 ^ 1000) : ∃ T, hb_at n T ∧ 95 ≤ T ∧ T ≤ 1000 := by
  obtain ⟨T, hT⟩ := hb_ex (V := n) (Nat.lt_of_lt_of_le (p2_pos _) h1)
  refine ⟨T, hT, ?_, ?_⟩
  · refine Nat.le_of_not_lt (fun h => ?_)
    exact absurd (Nat.lt_of_le_of_lt h1 (Nat.lt_of_lt_of_le hT.2 (p2_le (show T + 1 ≤ 95 by omega)))) (Nat.lt_irrefl _)
  · refine Nat.le_of_not_lt (fun h => ?_)
    exact absurd (Nat.lt_of_lt_of_le h2 (Nat.le_trans (p2_le (show 1000 ≤ T by omega)) hT.1)) (Nat.lt_irrefl _)
theorem tz_ab {s : Int32} (hs : issign s) (A : Nat) : (s.toInt * (A : Int)).natAbs = A := by
  rcases hs with h | h <;> rw [h]
  · rw [show (1 : Int32).toInt = 1 from rfl]; omega
  · rw [show (-1 : Int32).toInt = -1 from rfl]; omega
theorem tz_lo {s1 s2 : Int32} (hs1 : issign s1) (hs2 : issign s2) {pl pl2 W X : Nat} (hW : W < 2 ^ 186) (hX : 2 ^ 92 ≤ X) (hp2 : 296 ≤ pl2) (hne : s1.toInt * ((W * 2 ^ pl : Nat) : Int) + s2.toInt * ((X * 2 ^ pl2 : Nat) : Int) ≠ 0) : 2 ^ 95 ≤ (s1.toInt * ((W * 2 ^ pl : Nat) : Int) + s2.toInt * ((X * 2 ^ pl2 : Nat) : Int)).natAbs := by
  by_cases h : 95 ≤ pl
  · have e1 : W * 2 ^ pl = W * 2 ^ (pl - 95) * 2 ^ 95 := by rw [Nat.mul_assoc, ← Nat.pow_add, show pl - 95 + 95 = pl by omega]
    have e2 : X * 2 ^ pl2 = X * 2 ^ (pl2 - 95) * 2 ^ 95 := by rw [Nat.mul_assoc, ← Nat.pow_add, show pl2 - 95 + 95 = pl2 by omega]
    rw [e1, e2, Int.natCast_mul (W * 2 ^ (pl - 95)), Int.natCast_mul (X * 2 ^ (pl2 - 95)), ← Int.mul_assoc, ← Int.mul_assoc, ← Int.add_mul] at hne ⊢
    rw [Int.natAbs_mul, Int.natAbs_natCast]
    generalize s1.toInt * ((W * 2 ^ (pl - 95) : Nat) : Int) + s2.toInt * ((X * 2 ^ (pl2 - 95) : Nat) : Int) = z at hne ⊢
    have hz : 0 < z.natAbs := by
      rcases Nat.eq_zero_or_pos z.natAbs with h0 | h0
      · have : z = 0 := by omega
        rw [this, Int.zero_mul] at hne
        exact absurd rfl hne
      · exact h0
    exact Nat.le_mul_of_pos_left _ hz
  · have q1 : W * 2 ^ pl < 2 ^ 281 := by
      have h3 : W * 2 ^ pl < 2 ^ 186 * 2 ^ pl := Nat.mul_lt_mul_of_pos_right hW (p2_pos pl)
      rw [← Nat.pow_add] at h3
      exact Nat.lt_of_lt_of_le h3 (p2_le (by omega))
    have q2 : 2 ^ 388 ≤ X * 2 ^ pl2 := by
      have h3 := Nat.mul_le_mul hX (p2_le hp2)
      rw [← Nat.pow_add] at h3
      exact h3
    have q3 : (2 : Nat) ^ 281 + 2 ^ 95 ≤ 2 ^ 388 := by decide
    generalize W * 2 ^ pl = A at *
    generalize X * 2 ^ pl2 = B at *
    generalize (2 : Nat) ^ 281 = a at *
    generalize (2 : Nat) ^ 95 = b at *
    generalize (2 : Nat) ^ 388 = c at *
    rcases hs1 with h1 | h1 <;> rcases hs2 with h2 | h2 <;> rw [h1, h2] <;> simp only [show (1 : Int32).toInt = 1 from rfl, show (-1 : Int32).toInt = -1 from rfl] <;> omega
theorem tz9 {t : rn_S} {ms : rm_S} {y p2 pl W : Nat} {e2 : Int} {X2 : Nat} {s1 s2 : Int32} (hg1 : rn_kd t 9 = 3 → val9 t pl W) (hW : rn_kd t 9 = 3 → 2 ^ 184 ≤ W) (hg2 : rn_kd t y = 3 → reg3 t ms y p2 e2 X2) (hs1 : rn_kd t 9 = 3 → issign s1) (hs2 : rn_kd t y = 3 → issign s2) (hne : gp t s1 pl W + gz t y s2 e2 X2 ≠ 0) : ∃ T, hb_at (gp t s1 pl W + gz t y s2 e2 X2).natAbs T ∧ 95 ≤ T ∧ T ≤ 1000 := by
  refine tz_of ?_ ?_
  · unfold gp gz at hne ⊢
    by_cases k9 : rn_kd t 9 = 3
    · obtain ⟨b1, b2, b3, b4, b5⟩ := hg1 k9
      by_cases ky : rn_kd t y = 3
      · rw [if_pos k9, if_pos ky] at hne ⊢
        have hr := hg2 ky
        exact tz_lo (hs1 k9) (hs2 ky) b5 hr.2.2.2.2.1 (by have := hr.2.2.1; omega) hne
      · rw [if_pos k9, if_neg ky, Int.add_zero, tz_ab (hs1 k9)]
        have h3 := Nat.mul_le_mul (hW k9) (p2_pos pl)
        rw [Nat.mul_one] at h3
        exact Nat.le_trans (p2_le (by decide)) h3
    · by_cases ky : rn_kd t y = 3
      · rw [if_neg k9, if_pos ky, Int.zero_add, tz_ab (hs2 ky)]
        have hr := hg2 ky
        have h3 := Nat.mul_le_mul hr.2.2.2.2.1 (p2_le (show 296 ≤ (e2 + 496).toNat by have := hr.2.2.1; omega))
        rw [← Nat.pow_add] at h3
        exact Nat.le_trans (p2_le (by decide)) h3
      · rw [if_neg k9, if_neg ky] at hne
        exact absurd rfl hne
  · obtain ⟨b11, b12⟩ := gp_b (t := t) hs1 hg1
    obtain ⟨b21, b22, -⟩ := gz_b (st := t) (x := y) (s := s2) (e := e2) (X := X2) hs2 (fun h => ⟨(hg2 h).2.2.2.2.2.1, (hg2 h).2.2.1, (hg2 h).2.2.2.1⟩)
    have q1 : (2 : Nat) ^ 989 + 2 ^ 789 ≤ 2 ^ 1000 := by
      have g1 : (2 : Nat) ^ 789 ≤ 2 ^ 989 := p2_le (by decide)
      have g2 : (2 : Nat) ^ 990 = 2 ^ 989 + 2 ^ 989 := by rw [Nat.pow_succ]; omega
      have g3 : (2 : Nat) ^ 990 ≤ 2 ^ 1000 := p2_le (by decide)
      generalize (2 : Nat) ^ 789 = a at *
      generalize (2 : Nat) ^ 989 = b at *
      generalize (2 : Nat) ^ 990 = c at *
      generalize (2 : Nat) ^ 1000 = d at *
      omega
    have q2 : ((2 ^ 989 : Nat) : Int) + ((2 ^ 789 : Nat) : Int) ≤ ((2 ^ 1000 : Nat) : Int) := by rw [← Int.natCast_add]; exact Int.ofNat_le.mpr q1
    have q3 : ((gp t s1 pl W + gz t y s2 e2 X2).natAbs : Int) < ((2 ^ 1000 : Nat) : Int) := by
      generalize ((2 ^ 1000 : Nat) : Int) = P at *
      generalize ((2 ^ 789 : Nat) : Int) = Q at *
      generalize ((2 ^ 989 : Nat) : Int) = R at *
      omega
    exact Int.ofNat_lt.mp q3
/-- behind both rows: nothing, or the rounding (wider bounds) -/
theorem both_tail9 {st : rn_S} {ms : rm_S} (hR : Rel st ms) {v : Nat} (hv : v < 8) {mode : Int32} (hm : ismode mode) {Z : Int} (hok : ok33 (rn_ex st)) (hE : xv (rn_ex st) = Z.natAbs) (hT : Z ≠ 0 → ∃ T, hb_at Z.natAbs T ∧ 95 ≤ T ∧ T ≤ 1000) (hb : isb (ms 6)) (hV : rv (ms 6) = Z.natAbs * 2 ^ 11) :
    ∃ o t u, (if sgn Z = 0 then nm (RN_signOfNothing mode) (fun r185 => bd (RN_storePlain st (nI v) (2 : Int32) r185) (fun r188 t188 => (r188, t188))) else bd (RN_storeExact st (nI v) (sgn Z) mode) (fun r198 t198 => (r198, t198))) = (o, t) ∧ RM_fma_253 (nI v) mode (sgn Z) ms = some (o, u) ∧ Rel t u := by
  unfold RM_fma_253
  by_cases hz : Z = 0
  · rw [if_pos (sgn_z.mpr hz), if_pos (sgn_z.mpr hz), nm_e0, bd_id, ob2_id, son st ms]
    obtain ⟨t, u, r1, r2, r3⟩ := both_plain hR hv (k := 2) (s := RN_signOfNothing mode) (Or.inr (Or.inr rfl)) (fun _ => son_sg mode)
    exact ⟨0, t, u, r1, r2, r3⟩
  · rw [if_neg (fun h => hz (sgn_z.mp h)), if_neg (fun h => hz (sgn_z.mp h)), bd_id, ob2_id]
    obtain ⟨T, h1, h2, h3⟩ := hT hz
    exact both_exact hR hv (sgn_s hz) hm (E := Z.natAbs) hok hE hb hV h1 h2 h3
