/-! fma: the class's side -/
def gp (t : rn_S) (s : Int32) (pl W : Nat) : Int := if rn_kd t 9 = 3 then s.toInt * ((W * 2 ^ pl : Nat) : Int) else 0
def val9 (t : rn_S) (pl W : Nat) : Prop := (∀ l, l < 6 → 0 ≤ (rn_lb t 9 l).toInt) ∧ dv B31 (xd (rn_lb t 9)) 6 = W ∧ (rn_lw t 9).toInt + 589 = pl ∧ pl ≤ 803 ∧ W < 2 ^ 186
theorem cl_gath9 {t : rn_S} {f0 : Nat → Int32} (hok : ok33 f0) {s : Int32} {pl W : Nat} (hg : rn_kd t 9 = 3 → val9 t pl W) (hs : rn_kd t 9 = 3 → issign s) :
    ∃ f, RE_gather (rn_setx t f0) 9 s = rn_setx t f ∧ ok33 f ∧ ∃ co : Int, (xv f : Int) + co * ((2 ^ 1023 : Nat) : Int) = xv f0 + gp t s pl W := by
  unfold gp
  by_cases hk : rn_kd t 9 = 3
  · obtain ⟨b1, b2, b3, b4, b5⟩ := hg hk
    have l6 : rn_len 9 = 6 := rfl
    obtain ⟨f, a1, a2, co, a3⟩ := ex_gather (st := rn_setx t f0) (v := 9) (s := s) (pl := pl) hok (by rw [l6]; exact b1) hk b3 (by rw [l6]; omega) (hs hk)
    refine ⟨f, by rw [a1, sx_sx], a2, co, ?_⟩
    have hn : lv_n (rn_setx t f0) 9 = W := by
      unfold lv_n
      rw [l6]
      exact b2
    rw [hn, B33i, sx_ex] at a3
    rw [if_pos hk, a3, Int.natCast_mul, Int.natCast_pow]
    rfl
  · refine ⟨f0, ?_, hok, 0, ?_⟩
    · unfold RE_gather
      exact if_neg hk
    · rw [if_neg hk]
      omega
theorem gp_b {t : rn_S} {s : Int32} {pl W : Nat} (hs : rn_kd t 9 = 3 → issign s) (hg : rn_kd t 9 = 3 → val9 t pl W) : -((2 ^ 989 : Nat) : Int) < gp t s pl W ∧ gp t s pl W < ((2 ^ 989 : Nat) : Int) := by
  unfold gp
  by_cases hk : rn_kd t 9 = 3
  · rw [if_pos hk]
    obtain ⟨b1, b2, b3, b4, b5⟩ := hg hk
    have h3 : W * 2 ^ pl < 2 ^ 186 * 2 ^ pl := Nat.mul_lt_mul_of_pos_right b5 (p2_pos pl)
    rw [← Nat.pow_add] at h3
    have h4 : W * 2 ^ pl < 2 ^ 989 := Nat.lt_of_lt_of_le h3 (p2_le (by omega))
    generalize W * 2 ^ pl = A at h4
    generalize (2 : Nat) ^ 989 = P at h4
    rcases hs hk with h | h <;> rw [h]
    · rw [show (1 : Int32).toInt = 1 from rfl]; omega
    · rw [show (-1 : Int32).toInt = -1 from rfl]; omega
  · rw [if_neg hk]
    have h1 : (0 : Int) < ((2 ^ 989 : Nat) : Int) := Int.ofNat_lt.mpr (p2_pos 989)
    generalize ((2 ^ 989 : Nat) : Int) = P at h1
    omega
theorem cl_two9 {t : rn_S} {ms : rm_S} {y p2 pl W : Nat} {e2 : Int} {X2 : Nat} {s1 s2 : Int32} (hy : y < 8) (hg1 : rn_kd t 9 = 3 → val9 t pl W) (hg2 : rn_kd t y = 3 → reg3 t ms y p2 e2 X2) (hs1 : rn_kd t 9 = 3 → issign s1) (hs2 : rn_kd t y = 3 → issign s2) :
    ∃ f, RE_splitSign (RE_gather (RE_gather (RE_clear t) 9 s1) y s2) = (sgn (gp t s1 pl W + gz t y s2 e2 X2), rn_setx t f) ∧ ok33 f ∧ xv f = (gp t s1 pl W + gz t y s2 e2 X2).natAbs := by
  obtain ⟨f0, c1, c2, c3⟩ := ex_clear t
  obtain ⟨f1, d1, d2, co1, d3⟩ := cl_gath9 (t := t) c2 hg1 hs1
  obtain ⟨f2, g1, g2, co2, g3⟩ := cl_gath (st := t) (ms := ms) d2 hy hg2 hs2
  obtain ⟨b11, b12⟩ := gp_b (t := t) hs1 hg1
  have b2 := gz_b (st := t) (x := y) (s := s2) (e := e2) (X := X2) hs2 (fun h => ⟨(hg2 h).2.2.2.2.2.1, (hg2 h).2.2.1, (hg2 h).2.2.2.1⟩)
  obtain ⟨b21, b22, z2, b23⟩ := b2
  have hA : ((2 ^ 989 : Nat) : Int) + ((2 ^ 789 : Nat) : Int) < ((2 ^ 992 : Nat) : Int) := by
    rw [← Int.natCast_add]
    refine Int.ofNat_lt.mpr ?_
    have q1 : (2 : Nat) ^ 789 ≤ 2 ^ 989 := p2_le (by decide)
    have q2 : (2 : Nat) ^ 990 = 2 ^ 989 + 2 ^ 989 := by rw [Nat.pow_succ]; omega
    have q3 : (2 : Nat) ^ 990 < 2 ^ 992 := p2_lt (by decide)
    generalize (2 : Nat) ^ 789 = a at *
    generalize (2 : Nat) ^ 989 = b at *
    generalize (2 : Nat) ^ 990 = c at *
    generalize (2 : Nat) ^ 992 = d at *
    omega
  rw [c3] at d3
  have hE : (xv f2 : Int) + (co1 + co2) * ((2 ^ 1023 : Nat) : Int) = gp t s1 pl W + gz t y s2 e2 X2 := by
    rw [Int.add_mul]
    have h9 : ((0 : Nat) : Int) = 0 := rfl
    rw [h9] at d3
    generalize ((2 ^ 1023 : Nat) : Int) = M at *
    omega
  rw [c1, d1, g1]
  generalize hZ : gp t s1 pl W + gz t y s2 e2 X2 = Z at *
  obtain ⟨f, a1, a2, a3⟩ := ex_split (st := rn_setx t f2) (Z := Z) (co := co1 + co2) g2 (by
    generalize ((2 ^ 992 : Nat) : Int) = P at *
    generalize ((2 ^ 789 : Nat) : Int) = Q at *
    generalize ((2 ^ 989 : Nat) : Int) = R at *
    omega) (by
    generalize ((2 ^ 992 : Nat) : Int) = P at *
    generalize ((2 ^ 789 : Nat) : Int) = Q at *
    generalize ((2 ^ 989 : Nat) : Int) = R at *
    omega) hE
  exact ⟨f, by rw [a1, sx_sx], a2, Int.ofNat.inj a3⟩
