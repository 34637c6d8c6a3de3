/-! loadScaled and loadInt (the first rows, on uN, are the kit's BITS rows, pasted) -/
def uN (x : Int64) : Nat := x.toUInt64.toNat
theorem uN_lt (x : Int64) : uN x < 18446744073709551616 := x.toUInt64.toNat_lt
theorem uN_shr (x : Int64) (s : UInt64) : uN (x.toUInt64 >>> s).toInt64 = uN x / 2 ^ (s.toNat % 64) := by
  show (x.toUInt64 >>> s).toNat = _
  rw [UInt64.toNat_shiftRight, Nat.shiftRight_eq_div_pow]
  rfl
theorem uN_int (x : Int64) : x.toInt = if 2 * uN x < 18446744073709551616 then (uN x : Int) else (uN x : Int) - 18446744073709551616 := BitVec.toInt_eq_toNat_cond _
theorem uN_sk (x : Int64) {k : Nat} (hk : k < 64) : uN (x.toUInt64 >>> ((nI k).toInt64.toUInt64 &&& Int64.toUInt64 63)).toInt64 = uN x / 2 ^ k := by
  have h : ((nI k).toInt64.toUInt64 &&& Int64.toUInt64 63).toNat % 64 = k := by
    rw [nI_l (by omega), UInt64.toNat_and]
    have e : (lN k).toUInt64.toNat = k % 2 ^ 64 := rfl
    have e2 : (Int64.toUInt64 63).toNat = 2 ^ 6 - 1 := by decide
    rw [e, e2, Nat.and_two_pow_sub_one_eq_mod]
    omega
  rw [uN_shr, h]
theorem lo_n (z : Int64) : (z.toInt32 &&& (2147483647 : Int32)) = nI (uN z % 2147483648) := by
  apply Int32.toInt_inj.mp
  have h := uN_lt z
  rw [cy_lo, uN_int, nI_toInt (by omega)]
  split <;> omega
theorem b1_n (z : Int64) : (z &&& (1 : Int64)).toInt32 = nI (uN z % 2) := by
  have h1 : uN (z &&& (1 : Int64)) = uN z % 2 := by
    show (z.toUInt64 &&& (1 : Int64).toUInt64).toNat = _
    rw [UInt64.toNat_and]
    have e2 : ((1 : Int64).toUInt64).toNat = 2 ^ 1 - 1 := by decide
    rw [e2, Nat.and_two_pow_sub_one_eq_mod]
    rfl
  have h2 : (z &&& (1 : Int64)).toInt = (uN z % 2 : Nat) := by
    rw [uN_int, h1, if_pos (by omega)]
  apply Int32.toInt_inj.mp
  rw [Int64.toInt_toInt32, h2, nI_toInt (by omega), ar_b32 (by omega) (by omega)]
theorem size_n (v : Int64) : (0 ≤ lg_cmp v 0 → uN v = v.toInt.natAbs) ∧ (¬ 0 ≤ lg_cmp v 0 → uN (-v) = v.toInt.natAbs) := by
  have h0 : (0 : Int64).toInt = 0 := rfl
  have hl := uN_lt v
  have hl2 := uN_lt (-v)
  have e1 := uN_int v
  rw [lg_cmp_ge, Int64.le_iff_toInt_le, h0]
  refine ⟨fun h => ?_, fun h => ?_⟩
  · split at e1 <;> omega
  · have e2 := uN_int (-v)
    rw [Int64.toInt_neg, Int.bmod_def] at e2
    have b1 := ar_llo v
    split at e2 <;> split at e2 <;> omega
theorem ts_loop43 (n : Nat) : ∀ (N k v : Nat) (sh : Int32) (z : Int64) (st : rn_S), k + n = 3 → n < N →
    ∃ g, RV_takeScaled_43 N v sh z (nI k) st = rn_lws (rn_setl st v g) v sh ∧ (∀ i, i < k → g i = rn_lb st v i) ∧ (∀ i, k ≤ i → i < 3 → g i = nI (uN z / B31 ^ i % 2147483648)) := by
  induction n with
  | zero =>
    intro N k v sh z st hk hN
    obtain ⟨N, rfl⟩ : ∃ M, N = M + 1 := ⟨N - 1, by omega⟩
    have hk : k = 3 := by omega
    subst hk
    exact ⟨rn_lb st v, by rw [RV_takeScaled_43, if_pos (by decide), nm_e0, sl_id], fun _ _ => rfl, fun i h1 h2 => by omega⟩
  | succ n ih =>
    intro N k v sh z st hk hN
    obtain ⟨N, rfl⟩ : ∃ M, N = M + 1 := ⟨N - 1, by omega⟩
    obtain ⟨g, a1, a2, a3⟩ := ih N (k + 1) v sh z (rn_lbs st v k (nI (uN z / B31 ^ k % 2147483648))) (by omega) (by omega)
    refine ⟨g, ?_, fun i hi => ?_, fun i h1 h2 => ?_⟩
    · rw [RV_takeScaled_43, if_neg (ge3 (by omega)), nm_e0, nm_e0, nI_1, nI_clamp (by omega), show nI k * (31 : Int32) = nI (k * 31) from pk_mul k 31, lo_n, uN_sk z (by omega), show k * 31 = 31 * k by omega, ← b31_pow, a1, sl_lbs, sl_sl]
    · rw [a2 i (by omega), sl_lbs, sl_lb, upd_ne (by omega)]
    · by_cases e : i = k
      · subst e
        rw [a2 i (by omega), sl_lbs, sl_lb, upd_same]
      · exact a3 i (by omega) h2
/-- takeScaled: kind, sign, limbs and low of a value -/
theorem cl_take {st : rn_S} (v : Nat) (z : Int64) (sh : Int32) : ∃ g, RV_takeScaled st v z sh = rn_lws (rn_setl (RV_become st v (if lg_cmp z 0 = 0 then 2 else 3) (if 0 ≤ lg_cmp z 0 then 1 else -1)) v g) v sh ∧ ∀ i, i < 3 → g i = nI (z.toInt.natAbs / B31 ^ i % 2147483648) := by
  have key : ∀ k s : Int32, ∃ g, RV_takeScaled_23 v z sh s k v st = rn_lws (rn_setl (RV_become st v k s) v g) v sh ∧ ∀ i, i < 3 → g i = nI (z.toInt.natAbs / B31 ^ i % 2147483648) := by
    intro k s
    have hs := size_n z
    unfold RV_takeScaled_23 RV_takeScaled_38
    rw [nm_e0]
    by_cases h : 0 ≤ lg_cmp z 0
    · rw [if_pos h]
      obtain ⟨g, a1, a2, a3⟩ := ts_loop43 3 4 0 v sh z (RV_become st v k s) (by omega) (by omega)
      exact ⟨g, a1, fun i hi => by rw [a3 i (Nat.zero_le _) hi, hs.1 h]⟩
    · rw [if_neg h]
      obtain ⟨g, a1, a2, a3⟩ := ts_loop43 3 4 0 v sh (-z) (RV_become st v k s) (by omega) (by omega)
      exact ⟨g, a1, fun i hi => by rw [a3 i (Nat.zero_le _) hi, hs.2 h]⟩
  unfold RV_takeScaled RV_takeScaled_12
  by_cases h0 : lg_cmp z 0 = 0
  · rw [if_pos h0, if_pos h0]
    by_cases h : 0 ≤ lg_cmp z 0
    · rw [if_pos h, if_pos h]; exact key 2 1
    · rw [if_neg h, if_neg h]; exact key 2 (-1)
  · rw [if_neg h0, if_neg h0]
    by_cases h : 0 ≤ lg_cmp z 0
    · rw [if_pos h, if_pos h]; exact key 3 1
    · rw [if_neg h, if_neg h]; exact key 3 (-1)
theorem ge64 {k : Nat} (h : k < 64) : ¬ (64 : Int32) ≤ nI k := by
  rw [show (64 : Int32) = nI 64 from rfl, nI_leI (by decide) (by omega)]
  omega
theorem ls_loop (n : Nat) : ∀ (N k B : Nat) (L1 : Int32) (L2 : Int64) (sh L5 : Int32) (z : Int64) (st : rm_S), k + n = 64 → n < N → sh.toInt + 600 = B → B ≤ 900 →
    ∃ f, RM_loadScaled_69 N L1 L2 sh L5 z (nI k) st = RM_loadScaled_117 L5 (if 0 ≤ lg_cmp L2 0 then 1 else -1) L1 (rm_setr st 6 f) ∧ (∀ i, k ≤ i → i < 64 → f (B + i) = nI (uN z / 2 ^ i % 2)) ∧ (∀ j, (j < B + k ∨ B + 64 ≤ j) → f j = st 6 j) := by
  induction n with
  | zero =>
    intro N k B L1 L2 sh L5 z st hk hN hB hB2
    obtain ⟨N, rfl⟩ : ∃ M, N = M + 1 := ⟨N - 1, by omega⟩
    have hk : k = 64 := by omega
    subst hk
    refine ⟨st 6, ?_, fun i h1 h2 => by omega, fun _ _ => rfl⟩
    rw [RM_loadScaled_69, if_pos (by decide), rs_id]
    by_cases h : 0 ≤ lg_cmp L2 0
    · rw [if_pos h, if_pos h]
    · rw [if_neg h, if_neg h]
  | succ n ih =>
    intro N k B L1 L2 sh L5 z st hk hN hB hB2
    obtain ⟨N, rfl⟩ : ∃ M, N = M + 1 := ⟨N - 1, by omega⟩
    have hix : (600 : Int32) + sh + nI k = nI (B + k) := by
      apply Int32.toInt_inj.mp
      have e6 : (600 : Int32).toInt = 600 := rfl
      have ek : (nI k).toInt = k := nI_toInt (by omega)
      have ea : ((600 : Int32) + sh).toInt = B := by rw [ar_add (by omega) (by omega), e6]; omega
      rw [ar_add (by omega) (by omega), ea, ek, nI_toInt (by omega)]
      omega
    obtain ⟨f, a1, a2, a3⟩ := ih N (k + 1) B L1 L2 sh L5 z (rm_up st 6 (B + k) (nI (uN z / 2 ^ k % 2))) (by omega) (by omega) hB hB2
    refine ⟨f, ?_, fun i h1 h2 => ?_, fun j hj => ?_⟩
    · rw [RM_loadScaled_69, if_neg (ge64 (by omega)), hix, if_pos (ob_nI (by omega) (by decide)), nm_e0, nm_e0, nI_1, nI_clamp (by omega), b1_n, uN_sk z (by omega), a1, ru_rs, rs_rs]
    · by_cases e : i = k
      · subst e
        rw [a3 _ (Or.inl (by omega)), ru_rs, rs_at, upd_same]
      · exact a2 i (by omega) h2
    · rw [a3 j (by omega), ru_rs, rs_at, upd_ne (by omega)]
theorem sh_bits2 {S B : Nat} (hS : S < 2 ^ 64) {k : Nat} : (∀ i, i < 64 → k = B + i → S * 2 ^ B / 2 ^ k % 2 = S / 2 ^ i % 2) ∧ ((k < B ∨ B + 64 ≤ k) → S * 2 ^ B / 2 ^ k % 2 = 0) := by
  refine ⟨fun i hi e => ?_, fun h => ?_⟩
  · rw [e, show B + i = i + B by omega, Nat.pow_add, Nat.mul_div_mul_right _ _ (p2_pos B)]
  · rcases h with h | h
    · have e : (2 : Nat) ^ B = 2 ^ (B - k - 1) * 2 * 2 ^ k := by
        rw [← Nat.pow_succ, ← Nat.pow_add]
        congr 1
        omega
      rw [e, ← Nat.mul_assoc, Nat.mul_div_cancel _ (p2_pos k), ← Nat.mul_assoc, Nat.mul_mod_left]
    · have h2 : S * 2 ^ B < 2 ^ k := by
        have h3 : S * 2 ^ B < 2 ^ 64 * 2 ^ B := Nat.mul_lt_mul_of_pos_right hS (p2_pos B)
        rw [← Nat.pow_add] at h3
        exact Nat.lt_of_lt_of_le h3 (p2_le (by omega))
      rw [Nat.div_eq_of_lt h2]
