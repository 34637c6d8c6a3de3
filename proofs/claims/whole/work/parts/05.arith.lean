/-! Ints and longs as whole numbers -/
theorem ar_b32 {z : Int} (h1 : -2147483648 ≤ z) (h2 : z < 2147483648) : z.bmod (2 ^ 32) = z := Int.bmod_eq_of_le (by omega) (by omega)
theorem ar_b64 {z : Int} (h1 : -9223372036854775808 ≤ z) (h2 : z < 9223372036854775808) : z.bmod (2 ^ 64) = z := Int.bmod_eq_of_le (by omega) (by omega)
theorem ar_lo (x : Int32) : -2147483648 ≤ x.toInt := by have := Int32.le_toInt x; omega
theorem ar_hi (x : Int32) : x.toInt < 2147483648 := by have := Int32.toInt_lt x; omega
theorem ar_llo (x : Int64) : -9223372036854775808 ≤ x.toInt := by have := Int64.le_toInt x; omega
theorem ar_lhi (x : Int64) : x.toInt < 9223372036854775808 := by have := Int64.toInt_lt x; omega
theorem ar_add {x y : Int32} (h1 : -2147483648 ≤ x.toInt + y.toInt) (h2 : x.toInt + y.toInt < 2147483648) : (x + y).toInt = x.toInt + y.toInt := by rw [Int32.toInt_add, ar_b32 h1 h2]
theorem ar_sub {x y : Int32} (h1 : -2147483648 ≤ x.toInt - y.toInt) (h2 : x.toInt - y.toInt < 2147483648) : (x - y).toInt = x.toInt - y.toInt := by rw [Int32.toInt_sub, ar_b32 h1 h2]
theorem ar_mul {x y : Int32} (h1 : -2147483648 ≤ x.toInt * y.toInt) (h2 : x.toInt * y.toInt < 2147483648) : (x * y).toInt = x.toInt * y.toInt := by rw [Int32.toInt_mul, ar_b32 h1 h2]
theorem ar_ladd {x y : Int64} (h1 : -9223372036854775808 ≤ x.toInt + y.toInt) (h2 : x.toInt + y.toInt < 9223372036854775808) : (x + y).toInt = x.toInt + y.toInt := by rw [Int64.toInt_add, ar_b64 h1 h2]
theorem ar_lsub {x y : Int64} (h1 : -9223372036854775808 ≤ x.toInt - y.toInt) (h2 : x.toInt - y.toInt < 9223372036854775808) : (x - y).toInt = x.toInt - y.toInt := by rw [Int64.toInt_sub, ar_b64 h1 h2]
theorem ar_lmul {x y : Int64} (h1 : -9223372036854775808 ≤ x.toInt * y.toInt) (h2 : x.toInt * y.toInt < 9223372036854775808) : (x * y).toInt = x.toInt * y.toInt := by rw [Int64.toInt_mul, ar_b64 h1 h2]
theorem ar_div31 (x : Int32) : (x / 31).toInt = x.toInt.tdiv 31 := by
  rw [Int32.toInt_div_of_ne_right x 31 (by decide)]
  rfl
theorem ar_tdp {z : Int} (h : 0 ≤ z) : z.tdiv 31 = z / 31 := Int.tdiv_eq_ediv_of_nonneg h
theorem ar_tdn {z : Int} (h : z < 0) : z.tdiv 31 = -((-z) / 31) := by
  have h1 : z = -(-z) := by omega
  rw [h1, Int.neg_tdiv, Int.tdiv_eq_ediv_of_nonneg (by omega)]
  omega
theorem ar_tdb (z : Int) (h : -2147483648 ≤ z) : -69273667 ≤ z.tdiv 31 := by
  rcases Int.lt_or_le z 0 with h1 | h1
  · rw [ar_tdn h1]
    omega
  · rw [ar_tdp h1]
    omega
/-! bounds of indices -/
theorem nk_lt {k N : Nat} {B : Int32} (hk : k < 2147483648) (hB : B = nI N) (hN : N < 2147483648) (h : ¬ B ≤ nI k) : k < N := by
  subst hB
  rw [nI_leI (by omega) (by omega)] at h
  omega
theorem nk_in {k N : Nat} {B : Int32} (hk : k < 2147483648) (hB : B = nI N) (hN : N < 2147483648) (h : ¬ B ≤ nI k) : vp_in (nI k) N := vp_in_nI (nk_lt hk hB hN h) (by omega)
theorem nk_len (v : Nat) : 3 ≤ rn_len v ∧ rn_len v ≤ 6 := by
  unfold rn_len
  split <;> omega
theorem nk_lenlt (v : Nat) : rn_len v < 2147483648 := by have := nk_len v; omega
theorem nk_in3 {k v : Nat} (hk : k < 2147483648) (h : ¬ (3 : Int32) ≤ nI k) : vp_in (nI k) (rn_len v) := by
  have h1 := nk_lt (N := 3) hk rfl (by decide) h
  have h2 := nk_len v
  exact vp_in_nI (by omega) (by omega)
theorem nk_i3 {v k : Nat} (hk : k < 3) : vp_in (nI k) (rn_len v) := by
  have h2 := nk_len v
  exact vp_in_nI (by omega) (by omega)
theorem nk_in6 {k j v : Nat} (hv : v = 9) (hk : k < 2147483648) (h : ¬ (3 : Int32) ≤ nI k) (hj : j < 2147483648) (h' : ¬ (3 : Int32) ≤ nI j) : vp_in (nI k + nI j) (rn_len v) := by
  have h1 := nk_lt (N := 3) hk rfl (by decide) h
  have h2 := nk_lt (N := 3) hj rfl (by decide) h'
  subst hv
  rw [nI_add]
  exact vp_in_nI (show k + j < 6 by omega) (by decide)
theorem nk_in63 {k v : Nat} (hv : v = 9) (hk : k < 2147483648) (h : ¬ (3 : Int32) ≤ nI k) : vp_in (nI k + 3) (rn_len v) := by
  have h1 := nk_lt (N := 3) hk rfl (by decide) h
  subst hv
  rw [show (3 : Int32) = nI 3 from rfl, nI_add]
  exact vp_in_nI (show k + 3 < 6 by omega) (by decide)
theorem nk_nn {y : Int32} : ¬ (if (0 : Int32) < y then y else 0) < 0 := by
  split
  · rename_i h
    rw [Int32.lt_iff_toInt_lt] at h ⊢
    have : (0 : Int32).toInt = 0 := rfl
    omega
  · decide
theorem nk_max0 {x y : Int32} (e : x = if (0 : Int32) < y then y else 0) : ∃ k, x = nI k ∧ k < 2147483648 ∧ 33 - k < 34 := by
  obtain ⟨k, hk, e2⟩ := nI_of (nk_nn (y := y))
  exact ⟨k, e.trans e2, by omega, by omega⟩
theorem nk_max {x y z : Int32} (e : x = if (0 : Int32) < y then y else 0) (_ : y = z / 31) : ∃ k, x = nI k ∧ k < 2147483648 ∧ 33 - k < 34 ∧ y.toInt ≤ k := by
  obtain ⟨k, hk, e2⟩ := nI_of (nk_nn (y := y))
  refine ⟨k, e.trans e2, by omega, by omega, ?_⟩
  split at e2
  · rw [e2, nI_toInt hk]
    exact Int.le_refl _
  · rename_i h
    rw [Int32.lt_iff_toInt_lt] at h
    have : (0 : Int32).toInt = 0 := rfl
    omega
theorem nk_sub {k v : Nat} {y z : Int32} (hk : k < 2147483648) (h : ¬ (33 : Int32) ≤ nI k) (hg : y.toInt ≤ k) (e : y = z / 31) (h2 : ¬ nI (rn_len v) ≤ nI k - y) : vp_in (nI k - y) (rn_len v) := by
  have h1 := nk_lt (N := 33) hk rfl (by decide) h
  have hl := nk_len v
  have hy : -69273667 ≤ y.toInt := by
    rw [e, ar_div31]
    exact ar_tdb _ (ar_lo z)
  have h3 : (nI k).toInt = k := nI_toInt (by omega)
  have h4 : (nI k - y).toInt = k - y.toInt := by rw [ar_sub (by omega) (by omega), h3]
  rw [Int32.le_iff_toInt_le, nI_toInt (by omega), h4] at h2
  exact vp_in_iff.mpr ⟨by omega, by omega⟩
theorem nk_pos {k : Nat} (h : ¬ nI k ≤ 0) : 0 < k := by
  rcases Nat.eq_zero_or_pos k with h1 | h1
  · subst h1
    exact absurd (by decide) h
  · exact h1
theorem nk_dec {k : Nat} (h : 0 < k) : nI k + (-1) = nI (k - 1) := sb_m1 h
theorem nk_ge0 {x : Int32} (h : ¬ x < 0) (h2 : ¬ (33 : Int32) ≤ x) : vp_in x 33 := by
  rw [Int32.lt_iff_toInt_lt] at h
  rw [Int32.le_iff_toInt_le] at h2
  have e0 : (0 : Int32).toInt = 0 := rfl
  have e1 : (33 : Int32).toInt = 33 := rfl
  exact vp_in_iff.mpr ⟨by omega, by omega⟩
theorem nk_bit {x y : Int32} {v : Nat} (e : y = 92 - x) (h : ¬ x < 0) (h2 : x < 93) : vp_in (y / 31) (rn_len v) := by
  rw [Int32.lt_iff_toInt_lt] at h h2
  have e0 : (0 : Int32).toInt = 0 := rfl
  have e1 : (93 : Int32).toInt = 93 := rfl
  have e2 : (92 : Int32).toInt = 92 := rfl
  have h3 : y.toInt = 92 - x.toInt := by rw [e, ar_sub (by omega) (by omega), e2]
  have hl := nk_len v
  refine vp_in_iff.mpr ⟨?_, ?_⟩
  · rw [ar_div31, ar_tdp (by omega)]
    omega
  · rw [ar_div31, ar_tdp (by omega)]
    omega
