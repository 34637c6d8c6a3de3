/-! add and sub: alike -/
theorem k10 : ((1 : Int32) = 0) = False := eq_false (by decide)
theorem k20 : ((2 : Int32) = 0) = False := eq_false (by decide)
theorem k30 : ((3 : Int32) = 0) = False := eq_false (by decide)
theorem k21 : ((2 : Int32) = 1) = False := eq_false (by decide)
theorem k31 : ((3 : Int32) = 1) = False := eq_false (by decide)
theorem k12 : ((1 : Int32) = 2) = False := eq_false (by decide)
theorem k32 : ((3 : Int32) = 2) = False := eq_false (by decide)
theorem k13 : ((1 : Int32) = 3) = False := eq_false (by decide)
theorem k23 : ((2 : Int32) = 3) = False := eq_false (by decide)
theorem k03 : ((0 : Int32) = 3) = False := eq_false (by decide)
/-- what a register adds to the exact row, in units of 2^-589 -/
def gz (st : rn_S) (x : Nat) (s : Int32) (e : Int) (X : Nat) : Int := if rn_kd st x = 3 then s.toInt * ((X * 2 ^ (e + 496).toNat : Nat) : Int) else 0
theorem cl_gath {st : rn_S} {ms : rm_S} {f0 : Nat → Int32} (hok : ok33 f0) {x p : Nat} {e : Int} {X : Nat} {s : Int32} (hx : x < 8) (hg : rn_kd st x = 3 → reg3 st ms x p e X) (hs : rn_kd st x = 3 → issign s) :
    ∃ f, RE_gather (rn_setx st f0) x s = rn_setx st f ∧ ok33 f ∧ ∃ co : Int, (xv f : Int) + co * ((2 ^ 1023 : Nat) : Int) = xv f0 + gz st x s e X := by
  unfold gz
  by_cases hk : rn_kd st x = 3
  · obtain ⟨b1, b2, b3, b4, b5, b6, b7, b8, b9, b10⟩ := hg hk
    obtain ⟨f, a1, a2, co, a3⟩ := ex_gather (st := rn_setx st f0) (v := x) (s := s) (pl := (e + 496).toNat) hok (by rw [len3 hx]; exact b8) hk (show (rn_lw st x).toInt + 589 = ((e + 496).toNat : Nat) by omega) (by rw [len3 hx]; omega) (hs hk)
    refine ⟨f, by rw [a1, sx_sx], a2, co, ?_⟩
    have hn : lv_n (rn_setx st f0) x = X := by
      unfold lv_n
      rw [len3 hx]
      exact b9
    rw [hn, B33i, sx_ex] at a3
    rw [if_pos hk, a3, Int.natCast_mul, Int.natCast_pow]
    rfl
  · refine ⟨f0, ?_, hok, 0, ?_⟩
    · unfold RE_gather
      exact if_neg hk
    · rw [if_neg hk]
      omega
theorem gz_b {st : rn_S} {x : Nat} {s : Int32} {e : Int} {X : Nat} (hs : rn_kd st x = 3 → issign s) (hX : rn_kd st x = 3 → X < 2 ^ 93 ∧ -200 ≤ e ∧ e ≤ 200) : -((2 ^ 789 : Nat) : Int) < gz st x s e X ∧ gz st x s e X < ((2 ^ 789 : Nat) : Int) ∧ ∃ z : Int, gz st x s e X = z * ((2 ^ 296 : Nat) : Int) := by
  unfold gz
  by_cases hk : rn_kd st x = 3
  · rw [if_pos hk]
    obtain ⟨h1, h2, h3⟩ := hX hk
    have hlt : X * 2 ^ (e + 496).toNat < 2 ^ 789 := by
      have h4 : X * 2 ^ (e + 496).toNat < 2 ^ 93 * 2 ^ (e + 496).toNat := Nat.mul_lt_mul_of_pos_right h1 (p2_pos _)
      rw [← Nat.pow_add] at h4
      exact Nat.lt_of_lt_of_le h4 (p2_le (by omega))
    have hd : X * 2 ^ (e + 496).toNat = X * 2 ^ ((e + 496).toNat - 296) * 2 ^ 296 := by
      rw [Nat.mul_assoc, ← Nat.pow_add, show (e + 496).toNat - 296 + 296 = (e + 496).toNat by omega]
    have hltI : ((X * 2 ^ (e + 496).toNat : Nat) : Int) < ((2 ^ 789 : Nat) : Int) := Int.ofNat_lt.mpr hlt
    have h0 := Int.natCast_nonneg (X * 2 ^ (e + 496).toNat)
    refine ⟨?_, ?_, s.toInt * ((X * 2 ^ ((e + 496).toNat - 296) : Nat) : Int), ?_⟩
    · rcases hs hk with h | h <;> rw [h]
      · rw [show (1 : Int32).toInt = 1 from rfl]; omega
      · rw [show (-1 : Int32).toInt = -1 from rfl]; omega
    · rcases hs hk with h | h <;> rw [h]
      · rw [show (1 : Int32).toInt = 1 from rfl]; omega
      · rw [show (-1 : Int32).toInt = -1 from rfl]; omega
    · rw [hd, Int.natCast_mul (X * 2 ^ ((e + 496).toNat - 296)), Int.mul_assoc]
  · rw [if_neg hk]
    have h0 : (0 : Int) < ((2 ^ 789 : Nat) : Int) := Int.ofNat_lt.mpr (p2_pos 789)
    exact ⟨by omega, h0, 0, by rw [Int.zero_mul]⟩
/-- the class's row behind clear, gather, gather, splitSign -/
theorem cl_two {st : rn_S} {ms : rm_S} {x y p1 p2 : Nat} {e1 e2 : Int} {X1 X2 : Nat} {s1 s2 : Int32} (hx : x < 8) (hy : y < 8) (hg1 : rn_kd st x = 3 → reg3 st ms x p1 e1 X1) (hg2 : rn_kd st y = 3 → reg3 st ms y p2 e2 X2) (hs1 : rn_kd st x = 3 → issign s1) (hs2 : rn_kd st y = 3 → issign s2) :
    ∃ f, RE_splitSign (RE_gather (RE_gather (RE_clear st) x s1) y s2) = (sgn (gz st x s1 e1 X1 + gz st y s2 e2 X2), rn_setx st f) ∧ ok33 f ∧ xv f = (gz st x s1 e1 X1 + gz st y s2 e2 X2).natAbs ∧ (gz st x s1 e1 X1 + gz st y s2 e2 X2 ≠ 0 → ∃ T, hb_at (xv f) T ∧ 296 ≤ T ∧ T ≤ 790) := by
  obtain ⟨f0, c1, c2, c3⟩ := ex_clear st
  obtain ⟨f1, d1, d2, co1, d3⟩ := cl_gath (st := st) (ms := ms) c2 hx hg1 hs1
  obtain ⟨f2, g1, g2, co2, g3⟩ := cl_gath (st := st) (ms := ms) d2 hy hg2 hs2
  have b1 := gz_b (st := st) (x := x) (s := s1) (e := e1) (X := X1) hs1 (fun h => ⟨(hg1 h).2.2.2.2.2.1, (hg1 h).2.2.1, (hg1 h).2.2.2.1⟩)
  have b2 := gz_b (st := st) (x := y) (s := s2) (e := e2) (X := X2) hs2 (fun h => ⟨(hg2 h).2.2.2.2.2.1, (hg2 h).2.2.1, (hg2 h).2.2.2.1⟩)
  obtain ⟨b11, b12, z1, b13⟩ := b1
  obtain ⟨b21, b22, z2, b23⟩ := b2
  have h790 : (2 : Nat) ^ 790 = 2 ^ 789 + 2 ^ 789 := by rw [Nat.pow_succ]; omega
  have h992 : (2 : Nat) ^ 790 < 2 ^ 992 := p2_lt (by decide)
  have hA : ((2 ^ 789 : Nat) : Int) + ((2 ^ 789 : Nat) : Int) < ((2 ^ 992 : Nat) : Int) := by
    rw [← Int.natCast_add, ← h790]
    exact Int.ofNat_lt.mpr h992
  have hA2 : ((2 ^ 789 : Nat) : Int) + ((2 ^ 789 : Nat) : Int) = ((2 ^ 790 : Nat) : Int) := by rw [← Int.natCast_add, ← h790]
  rw [c3] at d3
  have hE : (xv f2 : Int) + (co1 + co2) * ((2 ^ 1023 : Nat) : Int) = gz st x s1 e1 X1 + gz st y s2 e2 X2 := by
    rw [Int.add_mul]
    have h9 : ((0 : Nat) : Int) = 0 := rfl
    rw [h9] at d3
    generalize ((2 ^ 1023 : Nat) : Int) = M at *
    omega
  rw [c1, d1, g1]
  generalize hZ : gz st x s1 e1 X1 + gz st y s2 e2 X2 = Z at *
  obtain ⟨f, a1, a2, a3⟩ := ex_split (st := rn_setx st f2) (Z := Z) (co := co1 + co2) g2 (by
    generalize ((2 ^ 992 : Nat) : Int) = P at *
    generalize ((2 ^ 789 : Nat) : Int) = Q at *
    omega) (by
    generalize ((2 ^ 992 : Nat) : Int) = P at *
    generalize ((2 ^ 789 : Nat) : Int) = Q at *
    omega) hE
  have hxf : xv f = Z.natAbs := Int.ofNat.inj a3
  refine ⟨f, by rw [a1, sx_sx], a2, hxf, fun hne => ?_⟩
  have hpos : 0 < xv f := by rw [hxf]; omega
  obtain ⟨T, hT⟩ := hb_ex hpos
  refine ⟨T, hT, ?_, ?_⟩
  · rcases Nat.lt_or_ge T 296 with h | h
    · have h1 := p2_le (show T + 1 ≤ 296 from h)
      have h2 := hT.2
      have h3 : Z = (z1 + z2) * ((2 ^ 296 : Nat) : Int) := by rw [← hZ, b13, b23, Int.add_mul]
      have h4 : (xv f : Int) < ((2 ^ 296 : Nat) : Int) := Int.ofNat_lt.mpr (Nat.lt_of_lt_of_le h2 h1)
      have h5 : z1 + z2 ≠ 0 := fun h6 => hne (by rw [h3, h6, Int.zero_mul])
      have h6 : (0 : Int) < ((2 ^ 296 : Nat) : Int) := Int.ofNat_lt.mpr (p2_pos 296)
      rw [hxf] at h4
      generalize ((2 ^ 296 : Nat) : Int) = Q at *
      exfalso
      rcases Int.lt_or_le (z1 + z2) 0 with h7 | h7
      · have h8 : (z1 + z2) * Q ≤ -1 * Q := Int.mul_le_mul_of_nonneg_right (by omega) (Int.le_of_lt h6)
        omega
      · have h8 : 1 * Q ≤ (z1 + z2) * Q := Int.mul_le_mul_of_nonneg_right (by omega) (Int.le_of_lt h6)
        omega
    · exact h
  · rcases Nat.lt_or_ge 790 T with h | h
    · have h1 := p2_le (show 790 ≤ T by omega)
      have h2 := hT.1
      have h4 : ((2 ^ 790 : Nat) : Int) ≤ (xv f : Int) := Int.ofNat_le.mpr (Nat.le_trans h1 h2)
      rw [hxf, ← hA2] at h4
      generalize ((2 ^ 789 : Nat) : Int) = Q at *
      omega
    · exact h
theorem son {mode : Int32} (st : rn_S) (ms : rm_S) {v : Nat} : RM_nothing ms (nI v) mode = RM_keep ms (nI v) 2 (RN_signOfNothing mode) := by
  unfold RM_nothing RM_nothing_13 RN_signOfNothing
  by_cases h : mode = 3
  · rw [if_pos h, if_pos h, ob2_id]
  · rw [if_neg h, if_neg h, ob2_id]
theorem son_sg (mode : Int32) : issign (RN_signOfNothing mode) := by
  unfold RN_signOfNothing
  by_cases h : mode = 3
  · rw [if_pos h]; exact Or.inr rfl
  · rw [if_neg h]; exact Or.inl rfl
