/-! the reference's rows of 104 bits: rest (8), part (9), root (10) -/
def bw (f : Nat → Int32) (W : Nat) : Prop := W < 2 ^ 104 ∧ ∀ i, i < 104 → f i = nI (W / 2 ^ i % 2)
theorem dec1 (k : Nat) : nI (k + 1) + (-1 : Int32) = nI k := by
  rw [nI_succ, Int32.add_assoc, show (1 : Int32) + -1 = 0 by decide, Int32.add_zero]
theorem ge104 {k : Nat} (h : k < 104) : ¬ (104 : Int32) ≤ nI k := fun h' => absurd ((nI_leI (a := 104) (by omega) (by omega)).mp h') (by omega)
theorem le104 {k : Nat} (h : k = 104) : (104 : Int32) ≤ nI k := by rw [h]; decide
theorem dv2s (W k : Nat) : W / 2 ^ k / 2 = W / 2 ^ (k + 1) := by rw [Nat.div_div_eq_div_mul, Nat.pow_succ]
theorem rr_loop {ms : rm_S} {R D : Nat} (h8 : bw (ms 8) R) (h9 : bw (ms 9) D) (k : Nat) : ∀ N, k < N → k ≤ 104 → R / 2 ^ k = D / 2 ^ k → RM_reaches_3 N (nI k + (-1 : Int32)) ms = some (if D ≤ R then 1 else 0) := by
  induction k with
  | zero =>
    intro N hN hk he
    obtain ⟨N, rfl⟩ : ∃ M, N = M + 1 := ⟨N - 1, by omega⟩
    rw [Nat.pow_zero, Nat.div_one, Nat.div_one] at he
    rw [RM_reaches_3, if_pos (by decide), if_pos (by omega)]
  | succ k ih =>
    intro N hN hk he
    obtain ⟨N, rfl⟩ : ∃ M, N = M + 1 := ⟨N - 1, by omega⟩
    have ho : ob_in (nI k) 104 = true := ob_nI (by omega) (by decide)
    have hc : (nI k).toNatClampNeg = k := nI_clamp (by omega)
    rw [RM_reaches_3, dec1, if_neg (nI_pos (by omega)), if_pos ho, if_pos ho, hc, h8.2 k (by omega), h9.2 k (by omega)]
    rw [← dv2s, ← dv2s] at he
    by_cases h0 : R / 2 ^ k % 2 = D / 2 ^ k % 2
    · rw [if_pos (by rw [h0]), nm_e0]
      exact ih N (by omega) (by omega) (by omega)
    · rw [if_neg (fun h => h0 ((nI_eq (by omega) (by omega)).mp h)), if_pos ho, if_pos ho]
      by_cases h3 : R / 2 ^ k % 2 ≤ D / 2 ^ k % 2
      · have h4 : R / 2 ^ k < D / 2 ^ k := by omega
        have h5 : R < D := Nat.lt_of_not_le (fun h => absurd (Nat.div_le_div_right (c := 2 ^ k) h) (by omega))
        rw [if_pos ((nI_leI (by omega) (by omega)).mpr h3), if_neg (by omega)]
      · have h4 : D / 2 ^ k < R / 2 ^ k := by omega
        have h5 : D < R := Nat.lt_of_not_le (fun h => absurd (Nat.div_le_div_right (c := 2 ^ k) h) (by omega))
        rw [if_neg (fun h => h3 ((nI_leI (by omega) (by omega)).mp h)), if_pos (by omega)]
theorem rr_ok {ms : rm_S} {R D : Nat} (h8 : bw (ms 8) R) (h9 : bw (ms 9) D) : RM_reaches ms = some (if D ≤ R then 1 else 0) := by
  have h := rr_loop h8 h9 104 2000 (by decide) (by decide) (by rw [Nat.div_eq_of_lt h8.1, Nat.div_eq_of_lt h9.1])
  rw [show nI 104 + (-1 : Int32) = 103 by decide] at h
  exact h
theorem tk_bit {r d b : Nat} (hr : r < 2) (hd : d < 2) (hb : b < 2) : ((nI r - nI d) + (if b = 1 then -1 else 0)) &&& (1 : Int32) = nI ((r + d + b) % 2) ∧ ((nI r - nI d) + (if b = 1 then -1 else 0)) >>> ((1 : Int32) &&& 31) = (if r < d + b then -1 else 0) := by
  have h : ∀ r, r < 2 → ∀ d, d < 2 → ∀ b, b < 2 → ((nI r - nI d) + (if b = 1 then -1 else 0)) &&& (1 : Int32) = nI ((r + d + b) % 2) ∧ ((nI r - nI d) + (if b = 1 then -1 else 0)) >>> ((1 : Int32) &&& 31) = (if r < d + b then -1 else 0) := by decide +kernel
  exact h r hr d hd b hb
theorem sb_bit {R D P b : Nat} (hP : 0 < P) (h : D ≤ R) (hb : b = if R % P < D % P then 1 else 0) : (R - D) / P % 2 = (R / P % 2 + D / P % 2 + b) % 2 := by
  have h1 := Nat.div_add_mod R P
  have h2 := Nat.div_add_mod D P
  have h3 := Nat.mod_lt R hP
  have h4 := Nat.mod_lt D hP
  generalize R / P = x at *
  generalize R % P = r at *
  generalize D / P = y at *
  generalize D % P = d at *
  have key : (R - D) / P = x - y - b ∧ y + b ≤ x := by
    by_cases hc : r < d
    · rw [if_pos hc] at hb
      have h5 : y < x := by
        refine Nat.lt_of_not_le (fun h' => ?_)
        have := Nat.mul_le_mul_left P h'
        omega
      obtain ⟨z, rfl⟩ : ∃ z, x = y + 1 + z := ⟨x - y - 1, by omega⟩
      refine ⟨?_, by omega⟩
      rw [show R - D = P * z + (P + r - d) by
        rw [← h1, ← h2, Nat.mul_add, Nat.mul_add, Nat.mul_one]
        omega, Nat.mul_add_div hP, Nat.div_eq_of_lt (by omega)]
      omega
    · rw [if_neg hc] at hb
      have h5 : y ≤ x := by
        refine Nat.le_of_not_lt (fun h' => ?_)
        have h6 : P * (x + 1) ≤ P * y := Nat.mul_le_mul_left P h'
        rw [Nat.mul_add, Nat.mul_one] at h6
        omega
      obtain ⟨z, rfl⟩ : ∃ z, x = y + z := ⟨x - y, by omega⟩
      refine ⟨?_, by omega⟩
      rw [show R - D = P * z + (r - d) by
        rw [← h1, ← h2, Nat.mul_add]
        omega, Nat.mul_add_div hP, Nat.div_eq_of_lt (by omega)]
      omega
  rw [key.1]
  have hb2 : b < 2 := by rw [hb]; split <;> omega
  omega
theorem sb_next {R D k b : Nat} (hb : b = if R % 2 ^ k < D % 2 ^ k then 1 else 0) : (if R / 2 ^ k % 2 < D / 2 ^ k % 2 + b then (-1 : Int32) else 0) = if (if R % 2 ^ (k + 1) < D % 2 ^ (k + 1) then 1 else 0) = 1 then -1 else 0 := by
  have hP := p2_pos k
  have h1 : R % 2 ^ (k + 1) = R % 2 ^ k + 2 ^ k * (R / 2 ^ k % 2) := by rw [Nat.pow_succ, Nat.mod_mul]
  have h2 : D % 2 ^ (k + 1) = D % 2 ^ k + 2 ^ k * (D / 2 ^ k % 2) := by rw [Nat.pow_succ, Nat.mod_mul]
  have h3 := Nat.mod_lt R hP
  have h4 := Nat.mod_lt D hP
  have h5 : R / 2 ^ k % 2 < 2 := by omega
  have h6 : D / 2 ^ k % 2 < 2 := by omega
  rw [h1, h2]
  generalize R / 2 ^ k % 2 = x at *
  generalize R % 2 ^ k = r at *
  generalize D / 2 ^ k % 2 = y at *
  generalize D % 2 ^ k = d at *
  generalize 2 ^ k = P at *
  have hiff : x < y + b ↔ r + P * x < d + P * y := by
    rcases (show x = 0 ∨ x = 1 by omega) with rfl | rfl <;> rcases (show y = 0 ∨ y = 1 by omega) with rfl | rfl <;> by_cases hc : r < d <;> simp only [hc, if_true, if_false] at hb <;> omega
  by_cases h : x < y + b
  · rw [if_pos h, if_pos (hiff.mp h), if_pos rfl]
  · rw [if_neg h, if_neg (fun h' => h (hiff.mpr h')), if_neg (by decide)]
theorem tk_loop {ms : rm_S} {R D : Nat} (h9 : bw (ms 9) D) (hDR : D ≤ R) (n : Nat) : ∀ (N k : Nat) (g : Nat → Int32), k + n = 104 → n < N → (∀ i, i < k → g i = nI ((R - D) / 2 ^ i % 2)) → (∀ i, k ≤ i → i < 104 → g i = nI (R / 2 ^ i % 2)) →
    ∃ f, RM_takePart_4 N (if (if R % 2 ^ k < D % 2 ^ k then 1 else 0) = 1 then -1 else 0) (nI k) (rm_setr ms 8 g) = some (rm_setr ms 8 f) ∧ ∀ i, i < 104 → f i = nI ((R - D) / 2 ^ i % 2) := by
  induction n with
  | zero =>
    intro N k g hk hN h1 h2
    obtain ⟨N, rfl⟩ : ∃ M, N = M + 1 := ⟨N - 1, by omega⟩
    refine ⟨g, ?_, fun i hi => h1 i (by omega)⟩
    rw [RM_takePart_4, if_pos (le104 (by omega))]
  | succ n ih =>
    intro N k g hk hN h1 h2
    obtain ⟨N, rfl⟩ : ∃ M, N = M + 1 := ⟨N - 1, by omega⟩
    have ho : ob_in (nI k) 104 = true := ob_nI (by omega) (by decide)
    have hc : (nI k).toNatClampNeg = k := nI_clamp (by omega)
    rw [RM_takePart_4, if_neg (ge104 (by omega)), if_pos ho, if_pos ho, hc, nm_e0, if_pos ho, nm_e0, nm_e0, nm_e0, rs_at, rs_ne (show (9 : Nat) ≠ 8 by decide), h9.2 k (by omega), h2 k (by omega) (by omega), ru_rs, rs_at, rs_rs, ← nI_succ]
    obtain ⟨b, hb⟩ : ∃ b, b = if R % 2 ^ k < D % 2 ^ k then 1 else 0 := ⟨_, rfl⟩
    have hb2 : b < 2 := by rw [hb]; split <;> omega
    obtain ⟨t1, t2⟩ := tk_bit (r := R / 2 ^ k % 2) (d := D / 2 ^ k % 2) (b := b) (by omega) (by omega) hb2
    rw [← hb, t1, t2, sb_next hb, ← sb_bit (p2_pos k) hDR hb]
    refine ih N (k + 1) _ (by omega) (by omega) ?_ ?_
    · intro i hi
      by_cases h : i = k
      · rw [h, upd_same]
      · rw [upd_ne h]
        exact h1 i (by omega)
    · intro i hi1 hi2
      rw [upd_ne (by omega)]
      exact h2 i (by omega) hi2
theorem tk_ok {ms : rm_S} {R D : Nat} (h8 : bw (ms 8) R) (h9 : bw (ms 9) D) (hDR : D ≤ R) : ∃ f, RM_takePart ms = some (rm_setr ms 8 f) ∧ bw f (R - D) := by
  obtain ⟨f, a1, a2⟩ := tk_loop h9 hDR 104 2000 0 (ms 8) (by omega) (by omega) (fun i hi => absurd hi (by omega)) (fun i _ hi => h8.2 i hi)
  rw [Nat.pow_zero, Nat.mod_one, Nat.mod_one, rs_id] at a1
  exact ⟨f, a1, Nat.lt_of_le_of_lt (Nat.sub_le _ _) h8.1, a2⟩
theorem db_bit (R c i : Nat) (hc : c < 2) : (2 * R + c) / 2 ^ (i + 1) % 2 = R / 2 ^ i % 2 := by rw [dg_div i hc]
theorem db_loop {ms : rm_S} {R c : Nat} (hc2 : c < 2) (k : Nat) : ∀ (N : Nat) (g : Nat → Int32), k < N → k ≤ 103 → (∀ i, i ≤ k → g i = nI (R / 2 ^ i % 2)) → (∀ i, k < i → i < 104 → g i = nI ((2 * R + c) / 2 ^ i % 2)) →
    ∃ f, RM_doubleRest_3 N (nI c) (nI k) (rm_setr ms 8 g) = some (rm_setr ms 8 f) ∧ ∀ i, i < 104 → f i = nI ((2 * R + c) / 2 ^ i % 2) := by
  induction k with
  | zero =>
    intro N g hN hk h1 h2
    obtain ⟨N, rfl⟩ : ∃ M, N = M + 1 := ⟨N - 1, by omega⟩
    refine ⟨upd g 0 (nI c), ?_, ?_⟩
    · rw [RM_doubleRest_3, if_pos (by decide), if_pos (by decide), nm_e0, show (0 : Int32).toNatClampNeg = 0 from rfl, ru_rs, rs_at, rs_rs]
    · intro i hi
      by_cases h : i = 0
      · rw [h, upd_same, Nat.pow_zero, Nat.div_one, show (2 * R + c) % 2 = c by omega]
      · rw [upd_ne h]
        exact h2 i (by omega) hi
  | succ k ih =>
    intro N g hN hk h1 h2
    obtain ⟨N, rfl⟩ : ∃ M, N = M + 1 := ⟨N - 1, by omega⟩
    have ho : ob_in (nI k) 104 = true := ob_nI (by omega) (by decide)
    have hc : (nI k).toNatClampNeg = k := nI_clamp (by omega)
    have ho' : ob_in (nI (k + 1)) 104 = true := ob_nI (by omega) (by decide)
    have hc' : (nI (k + 1)).toNatClampNeg = k + 1 := nI_clamp (by omega)
    rw [RM_doubleRest_3, if_neg (nI_nle (by omega) (by omega)), sub1, if_pos ho, if_pos ho', nm_e0, nm_e0, dec1, hc, hc', ru_rs, rs_at, rs_rs]
    refine ih N _ (by omega) (by omega) ?_ ?_
    · intro i hi
      rw [upd_ne (by omega)]
      exact h1 i (by omega)
    · intro i hi1 hi2
      by_cases h : i = k + 1
      · rw [h, upd_same, db_bit _ _ _ hc2]
        exact h1 k (by omega)
      · rw [upd_ne h]
        exact h2 i (by omega) hi2
theorem db_ok {ms : rm_S} {R c : Nat} (h8 : bw (ms 8) R) (hR : R < 2 ^ 103) (hc : c < 2) : ∃ f, RM_doubleRest ms (nI c) = some (rm_setr ms 8 f) ∧ bw f (2 * R + c) := by
  obtain ⟨f, a1, a2⟩ := db_loop (ms := ms) (R := R) hc 103 2000 (ms 8) (by omega) (by omega) (fun i hi => h8.2 i (by omega)) (fun i hi1 hi2 => absurd hi1 (by omega))
  rw [rs_id] at a1
  exact ⟨f, a1, by omega, a2⟩
theorem gw_loop {ms : rm_S} {R c : Nat} (hc2 : c < 2) (k : Nat) : ∀ (N : Nat) (g : Nat → Int32), k < N → k ≤ 103 → (∀ i, i ≤ k → g i = nI (R / 2 ^ i % 2)) → (∀ i, k < i → i < 104 → g i = nI ((2 * R + c) / 2 ^ i % 2)) →
    ∃ f, RM_growRoot_3 N (nI c) (nI k) (rm_setr ms 10 g) = some (rm_setr ms 10 f) ∧ ∀ i, i < 104 → f i = nI ((2 * R + c) / 2 ^ i % 2) := by
  induction k with
  | zero =>
    intro N g hN hk h1 h2
    obtain ⟨N, rfl⟩ : ∃ M, N = M + 1 := ⟨N - 1, by omega⟩
    refine ⟨upd g 0 (nI c), ?_, ?_⟩
    · rw [RM_growRoot_3, if_pos (by decide), if_pos (by decide), nm_e0, show (0 : Int32).toNatClampNeg = 0 from rfl, ru_rs, rs_at, rs_rs]
    · intro i hi
      by_cases h : i = 0
      · rw [h, upd_same, Nat.pow_zero, Nat.div_one, show (2 * R + c) % 2 = c by omega]
      · rw [upd_ne h]
        exact h2 i (by omega) hi
  | succ k ih =>
    intro N g hN hk h1 h2
    obtain ⟨N, rfl⟩ : ∃ M, N = M + 1 := ⟨N - 1, by omega⟩
    have ho : ob_in (nI k) 104 = true := ob_nI (by omega) (by decide)
    have hc : (nI k).toNatClampNeg = k := nI_clamp (by omega)
    have ho' : ob_in (nI (k + 1)) 104 = true := ob_nI (by omega) (by decide)
    have hc' : (nI (k + 1)).toNatClampNeg = k + 1 := nI_clamp (by omega)
    rw [RM_growRoot_3, if_neg (nI_nle (by omega) (by omega)), sub1, if_pos ho, if_pos ho', nm_e0, nm_e0, dec1, hc, hc', ru_rs, rs_at, rs_rs]
    refine ih N _ (by omega) (by omega) ?_ ?_
    · intro i hi
      rw [upd_ne (by omega)]
      exact h1 i (by omega)
    · intro i hi1 hi2
      by_cases h : i = k + 1
      · rw [h, upd_same, db_bit _ _ _ hc2]
        exact h1 k (by omega)
      · rw [upd_ne h]
        exact h2 i (by omega) hi2
theorem gw_ok {ms : rm_S} {R c : Nat} (h8 : bw (ms 10) R) (hR : R < 2 ^ 103) (hc : c < 2) : ∃ f, RM_growRoot ms (nI c) = some (rm_setr ms 10 f) ∧ bw f (2 * R + c) := by
  obtain ⟨f, a1, a2⟩ := gw_loop (ms := ms) (R := R) hc 103 2000 (ms 10) (by omega) (by omega) (fun i hi => h8.2 i (by omega)) (fun i hi1 hi2 => absurd hi1 (by omega))
  rw [rs_id] at a1
  exact ⟨f, a1, by omega, a2⟩
theorem il_one (ms : rm_S) (n : Nat) : ∀ N k, k + n = 104 → n < N → RM_isLeft_4 N 1 (nI k) ms = some 1 := by
  induction n with
  | zero =>
    intro N k hk hN
    obtain ⟨N, rfl⟩ : ∃ M, N = M + 1 := ⟨N - 1, by omega⟩
    rw [RM_isLeft_4, if_pos (le104 (by omega)), if_pos (by decide)]
  | succ n ih =>
    intro N k hk hN
    obtain ⟨N, rfl⟩ : ∃ M, N = M + 1 := ⟨N - 1, by omega⟩
    rw [RM_isLeft_4, if_neg (ge104 (by omega)), if_neg (by decide), RM_isLeft_24, RM_isLeft_29, nm_e0, ← nI_succ]
    exact ih N (k + 1) (by omega) (by omega)
theorem il_zero {ms : rm_S} {R : Nat} (h8 : bw (ms 8) R) (n : Nat) : ∀ N k, k + n = 104 → n < N → R % 2 ^ k = 0 → RM_isLeft_4 N 0 (nI k) ms = some (if R = 0 then 0 else 1) := by
  induction n with
  | zero =>
    intro N k hk hN h0
    obtain ⟨N, rfl⟩ : ∃ M, N = M + 1 := ⟨N - 1, by omega⟩
    rw [show k = 104 by omega, Nat.mod_eq_of_lt h8.1] at h0
    rw [RM_isLeft_4, if_pos (le104 (by omega)), if_pos (by decide), if_pos h0]
  | succ n ih =>
    intro N k hk hN h0
    obtain ⟨N, rfl⟩ : ∃ M, N = M + 1 := ⟨N - 1, by omega⟩
    have ho : ob_in (nI k) 104 = true := ob_nI (by omega) (by decide)
    have hc : (nI k).toNatClampNeg = k := nI_clamp (by omega)
    rw [RM_isLeft_4, if_neg (ge104 (by omega)), if_pos rfl, if_pos ho, hc, h8.2 k (by omega)]
    have h2 : R / 2 ^ k % 2 < 2 := by omega
    by_cases h : R / 2 ^ k % 2 = 1
    · rw [h, if_pos (by decide), RM_isLeft_24, RM_isLeft_29, nm_e0, ← nI_succ, il_one ms n N (k + 1) (by omega) (by omega), if_neg]
      intro h3
      rw [h3, Nat.zero_div] at h
      omega
    · have h3 : R / 2 ^ k % 2 = 0 := by omega
      rw [h3, if_neg (by decide), RM_isLeft_29, nm_e0, ← nI_succ]
      refine ih N (k + 1) (by omega) (by omega) ?_
      rw [Nat.pow_succ, Nat.mod_mul, h3, h0, Nat.mul_zero]
theorem il_ok {ms : rm_S} {R : Nat} (h8 : bw (ms 8) R) : RM_isLeft ms = some (if R = 0 then 0 else 1) :=
  il_zero h8 104 2000 0 (by omega) (by omega) (by rw [Nat.pow_zero, Nat.mod_one])
theorem tr_bit (Z k : Nat) : (4 * Z + 1) / 2 ^ (k + 2) % 2 = Z / 2 ^ k % 2 := by
  rw [show 4 * Z + 1 = 2 * (2 * Z) + 1 by omega, db_bit _ _ _ (by omega), show 2 * Z = 2 * Z + 0 from rfl, db_bit _ _ _ (by omega)]
theorem tr_loop {ms : rm_S} {Z : Nat} (h10 : bw (ms 10) Z) (n : Nat) : ∀ (N k : Nat) (g : Nat → Int32), k + n = 104 → n < N → (∀ i, i < k → g i = nI ((4 * Z + 1) / 2 ^ i % 2)) →
    ∃ f, RM_tryRoot_2 N (nI k) (rm_setr ms 9 g) = some (rm_setr ms 9 f) ∧ ∀ i, i < 104 → f i = nI ((4 * Z + 1) / 2 ^ i % 2) := by
  induction n with
  | zero =>
    intro N k g hk hN h1
    obtain ⟨N, rfl⟩ : ∃ M, N = M + 1 := ⟨N - 1, by omega⟩
    refine ⟨g, ?_, fun i hi => h1 i (by omega)⟩
    rw [RM_tryRoot_2, if_pos (le104 (by omega))]
  | succ n ih =>
    intro N k g hk hN h1
    obtain ⟨N, rfl⟩ : ∃ M, N = M + 1 := ⟨N - 1, by omega⟩
    have ho : ob_in (nI k) 104 = true := ob_nI (by omega) (by decide)
    have hc : (nI k).toNatClampNeg = k := nI_clamp (by omega)
    have step : ∀ x, x = nI ((4 * Z + 1) / 2 ^ k % 2) → ∃ f, RM_tryRoot_38 (RM_tryRoot_2 N) (nI k) x (nI k) (rm_setr ms 9 g) = some (rm_setr ms 9 f) ∧ ∀ i, i < 104 → f i = nI ((4 * Z + 1) / 2 ^ i % 2) := by
      intro x hx
      rw [RM_tryRoot_38, if_pos ho, nm_e0, nm_e0, hc, ru_rs, rs_at, rs_rs, ← nI_succ]
      refine ih N (k + 1) _ (by omega) (by omega) ?_
      intro i hi
      by_cases h : i = k
      · rw [h, upd_same, hx]
      · rw [upd_ne h]
        exact h1 i (by omega)
    rw [RM_tryRoot_2, if_neg (ge104 (by omega))]
    by_cases h2 : k ≤ 1
    · rw [if_pos (show nI k ≤ (1 : Int32) from (nI_leI (b := 1) (by omega) (by omega)).mpr h2)]
      by_cases h3 : k = 0
      · rw [if_pos (by rw [h3]; decide)]
        refine step _ ?_
        rw [h3, Nat.pow_zero, Nat.div_one, show (4 * Z + 1) % 2 = 1 by omega]
        rfl
      · rw [if_neg (nI_ne0 (by omega) (by omega))]
        refine step _ ?_
        rw [show k = 1 by omega, Nat.pow_one, show (4 * Z + 1) / 2 % 2 = 0 by omega]
        rfl
    · rw [if_neg (show ¬ nI k ≤ (1 : Int32) from fun h => h2 ((nI_leI (b := 1) (by omega) (by omega)).mp h))]
      obtain ⟨j, rfl⟩ : ∃ j, k = j + 2 := ⟨k - 2, by omega⟩
      have e2 : nI (j + 2) - (2 : Int32) = nI j := nI_minus (b := 2) (by omega) (by omega)
      rw [e2, if_pos (ob_nI (by omega) (by decide)), nI_clamp (by omega), rs_ne (show (10 : Nat) ≠ 9 by decide), h10.2 j (by omega)]
      refine step _ ?_
      rw [tr_bit]
theorem tr_ok {ms : rm_S} {Z : Nat} (h10 : bw (ms 10) Z) (hZ : Z < 2 ^ 102) : ∃ f, RM_tryRoot ms = some (rm_setr ms 9 f) ∧ bw f (4 * Z + 1) := by
  obtain ⟨f, a1, a2⟩ := tr_loop h10 104 2000 0 (ms 9) (by omega) (by omega) (fun i hi => absurd hi (by omega))
  rw [rs_id] at a1
  exact ⟨f, a1, by omega, a2⟩
