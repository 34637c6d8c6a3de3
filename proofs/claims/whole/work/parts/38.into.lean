/-! storeInto: the bits of the exact row from the highest on become a register's limbs -/
theorem xv_digZ {f : Nat → Int32} {j : Nat} (h : 33 ≤ j) : xv f / B31 ^ j = 0 := by
  have h1 := xv_lt f
  have h2 : B31 ^ 33 ≤ B31 ^ j := Nat.pow_le_pow_right (by decide) h
  exact Nat.div_eq_of_lt (Nat.lt_of_lt_of_le h1 h2)
theorem limb_n {st : rn_S} (hok : ok33 (rn_ex st)) {j : Nat} (hj : j < 1000) : RE_limb st (nI j) = nI (xv (rn_ex st) / B31 ^ j % 2147483648) := by
  by_cases h : j < 33
  · rw [ex_limb h, nI_xd hok h, ← xv_dig h]
  · rw [ex_limbO (by omega) (by omega), xv_digZ (by omega)]
    rfl
theorem pair_n {E j r : Nat} (hr : r < 31) : (E / B31 ^ (j + 1) % 2147483648 * 2147483648 + E / B31 ^ j % 2147483648) / 2 ^ r % 2147483648 = E / (B31 ^ j * 2 ^ r) % 2147483648 := by
  have h1 : E / B31 ^ (j + 1) = E / B31 ^ j / 2147483648 := by rw [Nat.pow_succ, Nat.div_div_eq_div_mul]
  rw [h1, ← Nat.div_div_eq_div_mul E]
  generalize E / B31 ^ j = F
  have h2 : F / 2147483648 % 2147483648 * 2147483648 + F % 2147483648 = F % 2 ^ 62 := by
    have h3 : (2 : Nat) ^ 62 = 2147483648 * 2147483648 := by decide
    rw [h3, Nat.mod_mul]
    omega
  rw [h2, md_div F r 62 (by omega), show (2147483648 : Nat) = 2 ^ 31 from rfl, Nat.mod_mod_of_dvd]
  exact Nat.pow_dvd_pow 2 (by omega)
theorem ge3 {k : Nat} (h : k < 3) : ¬ (3 : Int32) ≤ nI k := by
  rw [show (3 : Int32) = nI 3 from rfl, nI_leI (by decide) (by omega)]
  omega
theorem si_loop (n : Nat) : ∀ (N k v q r : Nat) (s lw : Int32) (st : rn_S), k + n = 3 → n < N → q < 40 → r < 31 → ok33 (rn_ex st) →
    ∃ g, RE_storeInto_34 N v s lw (nI q) (nI r) (nI k) st = RV_become (rn_lws (rn_setl st v g) v lw) v 3 s ∧ (∀ i, i < k → g i = rn_lb st v i) ∧ (∀ i, k ≤ i → i < 3 → g i = nI (xv (rn_ex st) / (B31 ^ (q + i) * 2 ^ r) % 2147483648)) := by
  induction n with
  | zero =>
    intro N k v q r s lw st hk hN hq hr hok
    obtain ⟨N, rfl⟩ : ∃ M, N = M + 1 := ⟨N - 1, by omega⟩
    have hk : k = 3 := by omega
    subst hk
    refine ⟨rn_lb st v, ?_, fun _ _ => rfl, fun i h1 h2 => by omega⟩
    rw [RE_storeInto_34, if_pos (by decide), nm_e0, nm_e0, sl_id]
  | succ n ih =>
    intro N k v q r s lw st hk hN hq hr hok
    obtain ⟨N, rfl⟩ : ∃ M, N = M + 1 := ⟨N - 1, by omega⟩
    have hk3 : k < 3 := by omega
    rw [RE_storeInto_34, if_neg (ge3 hk3), nm_e0, nm_e0, nm_e0, nm_e0, nm_e0, nI_add, nI_1, nI_1, nI_clamp (by omega)]
    rw [limb_n hok (show q + k + 1 < 1000 by omega), limb_n hok (show q + k < 1000 by omega)]
    rw [pair_ok (Nat.mod_lt _ (by decide)) (Nat.mod_lt _ (by decide)) hr, pair_n hr]
    obtain ⟨g, a1, a2, a3⟩ := ih N (k + 1) v q r s lw (rn_lbs st v k (nI (xv (rn_ex st) / (B31 ^ (q + k) * 2 ^ r) % 2147483648))) (by omega) (by omega) hq hr hok
    refine ⟨g, ?_, fun i hi => ?_, fun i h1 h2 => ?_⟩
    · rw [a1, sl_lbs, sl_sl]
    · rw [a2 i (by omega), sl_lbs, sl_lb, upd_ne (by omega)]
    · by_cases e : i = k
      · subst e
        rw [a2 i (by omega), sl_lbs, sl_lb, upd_same]
      · exact a3 i (by omega) h2
theorem ex_into {st : rn_S} (hok : ok33 (rn_ex st)) {v : Nat} {s : Int32} {T : Nat} (hT : hb_at (xv (rn_ex st)) T) (h1 : 92 ≤ T) (h2 : T < 1023) :
    ∃ g lw, RE_storeInto st v s = RV_become (rn_lws (rn_setl st v g) v lw) v 3 s ∧ lw.toInt = T - 681 ∧ ∀ i, i < 3 → g i = nI (xv (rn_ex st) / 2 ^ (T - 92) / B31 ^ i % 2147483648) := by
  have ht := (ex_top hok).2 T hT
  have e1 : (1 : Int32).toInt = 1 := rfl
  have e93 : (93 : Int32).toInt = 93 := rfl
  have ha : (RE_topWeight st + (1 : Int32)).toInt = T - 588 := by rw [ar_add (by omega) (by omega), ht, e1]; omega
  have hlw : (RE_topWeight st + (1 : Int32) - (93 : Int32)).toInt = T - 681 := by rw [ar_sub (by omega) (by omega), ha, e93]; omega
  have hr : (T - 92) % 31 < 31 := Nat.mod_lt _ (by decide)
  have hpl : (RE_topWeight st + (1 : Int32) - (93 : Int32)).toInt + 589 = (T - 92 : Nat) := by rw [hlw]; omega
  obtain ⟨g, a1, a2, a3⟩ := si_loop 3 4 0 v ((T - 92) / 31) ((T - 92) % 31) s (RE_topWeight st + (1 : Int32) - (93 : Int32)) st (by omega) (by omega) (by omega) hr hok
  refine ⟨g, RE_topWeight st + (1 : Int32) - (93 : Int32), ?_, hlw, fun i hi => ?_⟩
  · unfold RE_storeInto
    rw [nm_e0, nm_e0, nm_e0, pl_sub hpl (by omega), nm_e0, nm_e0, pl_div (by omega), pl_rem2 (by omega), zz_0]
    exact a1
  · rw [a3 i (Nat.zero_le _) hi, Nat.div_div_eq_div_mul, pl_pow (T - 92), Nat.pow_add]
    congr 3
    rw [Nat.mul_right_comm]
/-- the number that storeInto leaves -/
theorem into_n {g : Nat → Int32} {X : Nat} (hX : X < 2 ^ 93) (h : ∀ i, i < 3 → g i = nI (X / B31 ^ i % 2147483648)) : dv B31 (fun i => (g i).toInt.toNat) 3 = X := by
  have h0 : ∀ i, i < 3 → (g i).toInt.toNat = X / B31 ^ i % 2147483648 := fun i hi => by
    rw [h i hi, nI_toInt (by have := Nat.mod_lt (X / B31 ^ i) (show 0 < 2147483648 by decide); omega), Int.toNat_natCast]
  rw [dv_congr h0]
  have e : (2 : Nat) ^ 93 = 2147483648 * 2147483648 * 2147483648 := by decide
  have e0 : B31 ^ 0 = 1 := rfl
  have e1 : B31 ^ 1 = 2147483648 := rfl
  have e2 : B31 ^ 2 = 4611686018427387904 := rfl
  simp only [dv, e0, e1, e2]
  omega
