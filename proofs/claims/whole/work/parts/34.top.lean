/-! topWeight, bit, hasBelow of the exact row -/
theorem hb_up {x s h : Nat} (h1 : hb_at (x / 2 ^ s) h) : hb_at x (h + s) := by
  refine ⟨?_, ?_⟩
  · rw [Nat.pow_add]
    exact (Nat.le_div_iff_mul_le (p2_pos s)).mp h1.1
  · have h2 := (Nat.div_lt_iff_lt_mul (p2_pos s)).mp h1.2
    rw [← Nat.pow_add] at h2
    rw [show h + s + 1 = h + 1 + s by omega]
    exact h2
theorem nI_m {a b : Nat} (h : b ≤ a) (ha : a < 2147483648) {y : Int32} (hy : y.toInt = -(b : Int)) : nI a + y = nI (a - b) := by
  apply Int32.toInt_inj.mp
  have e1 : (nI a).toInt = a := nI_toInt (by omega)
  have e2 : (nI (a - b)).toInt = (a - b : Nat) := nI_toInt (by omega)
  rw [ar_add (by omega) (by omega), e1, e2, hy]
  omega
theorem us_n {x : Nat} (hx : x < 4294967296) (s : Int32) (k : Nat) (hs : ((s.toUInt32 &&& Int32.toUInt32 31).toBitVec % 32).toNat = k) : ((nI x).toUInt32 >>> (s.toUInt32 &&& Int32.toUInt32 31)).toInt32 = nI (x / 2 ^ k) := pk_ushrN (by omega) s k hs
theorem nI_lt4 {x c : Nat} {y : Int32} (hy : y = nI c) (hx : x < 2147483648) (hc : c < 2147483648) : (nI x < y) ↔ x < c := by
  rw [hy]
  exact nI_ltI (by omega) (by omega)
theorem nlz_73 {x a : Nat} (h1 : 1 ≤ x) (h2 : x < 4) (ha : 1 ≤ a) (ha2 : a ≤ 31) : ∃ h, hb_at x h ∧ h ≤ a ∧ JI_numberOfLeadingZeros_73 (nI x) (nI a) = nI (a - h) := by
  unfold JI_numberOfLeadingZeros_73
  rw [us_n (by omega) 1 1 (by decide)]
  rcases (show x = 1 ∨ x = 2 ∨ x = 3 by omega) with h | h | h
  · subst h
    exact ⟨0, ⟨by decide, by decide⟩, by omega, pk_sub (by omega)⟩
  · subst h
    exact ⟨1, ⟨by decide, by decide⟩, by omega, pk_sub (by omega)⟩
  · subst h
    exact ⟨1, ⟨by decide, by decide⟩, by omega, pk_sub (by omega)⟩
theorem nlz_61 {x a : Nat} (h1 : 1 ≤ x) (h2 : x < 16) (ha : 3 ≤ a) (ha2 : a ≤ 31) : ∃ h, hb_at x h ∧ h ≤ a ∧ JI_numberOfLeadingZeros_61 (nI x) (nI a) = nI (a - h) := by
  unfold JI_numberOfLeadingZeros_61
  by_cases hc : x < 4
  · rw [if_pos ((nI_lt4 (y := 4) (c := 4) rfl (by omega) (by decide)).mpr hc)]
    exact nlz_73 h1 hc (by omega) ha2
  · rw [if_neg (fun h => hc ((nI_lt4 (y := 4) (c := 4) rfl (by omega) (by decide)).mp h))]
    simp only [nm]
    rw [us_n (by omega) 2 2 (by decide), nI_m (b := 2) (by omega) (by omega) rfl]
    obtain ⟨h, e1, e2, e3⟩ := nlz_73 (x := x / 2 ^ 2) (a := a - 2) (by omega) (by omega) (by omega) (by omega)
    exact ⟨h + 2, hb_up e1, by omega, by rw [e3, show a - 2 - h = a - (h + 2) by omega]⟩
theorem nlz_48 {x a : Nat} (h1 : 1 ≤ x) (h2 : x < 256) (ha : 7 ≤ a) (ha2 : a ≤ 31) : ∃ h, hb_at x h ∧ h ≤ a ∧ JI_numberOfLeadingZeros_48 (nI x) (nI a) = nI (a - h) := by
  unfold JI_numberOfLeadingZeros_48
  by_cases hc : x < 16
  · rw [if_pos ((nI_lt4 (y := 16) (c := 16) rfl (by omega) (by decide)).mpr hc)]
    exact nlz_61 h1 hc (by omega) ha2
  · rw [if_neg (fun h => hc ((nI_lt4 (y := 16) (c := 16) rfl (by omega) (by decide)).mp h))]
    simp only [nm]
    rw [us_n (by omega) 4 4 (by decide), nI_m (b := 4) (by omega) (by omega) rfl]
    obtain ⟨h, e1, e2, e3⟩ := nlz_61 (x := x / 2 ^ 4) (a := a - 4) (by omega) (by omega) (by omega) (by omega)
    exact ⟨h + 4, hb_up e1, by omega, by rw [e3, show a - 4 - h = a - (h + 4) by omega]⟩
theorem nlz_33 {x a : Nat} (h1 : 1 ≤ x) (h2 : x < 65536) (ha : 15 ≤ a) (ha2 : a ≤ 31) : ∃ h, hb_at x h ∧ h ≤ a ∧ JI_numberOfLeadingZeros_33 (nI x) (nI a) = nI (a - h) := by
  unfold JI_numberOfLeadingZeros_33
  by_cases hc : x < 256
  · rw [if_pos ((nI_lt4 (y := 256) (c := 256) rfl (by omega) (by decide)).mpr hc)]
    exact nlz_48 h1 hc (by omega) ha2
  · rw [if_neg (fun h => hc ((nI_lt4 (y := 256) (c := 256) rfl (by omega) (by decide)).mp h))]
    simp only [nm]
    rw [us_n (by omega) 8 8 (by decide), nI_m (b := 8) (by omega) (by omega) rfl]
    obtain ⟨h, e1, e2, e3⟩ := nlz_48 (x := x / 2 ^ 8) (a := a - 8) (by omega) (by omega) (by omega) (by omega)
    exact ⟨h + 8, hb_up e1, by omega, by rw [e3, show a - 8 - h = a - (h + 8) by omega]⟩
theorem nlz_ok {x : Nat} (h1 : 1 ≤ x) (h2 : x < 2147483648) : ∃ h, hb_at x h ∧ h ≤ 31 ∧ JI_numberOfLeadingZeros (nI x) = nI (31 - h) := by
  unfold JI_numberOfLeadingZeros
  rw [if_pos (show (0 : Int32) < nI x from by rw [show (0 : Int32) = nI 0 from rfl, nI_ltI (by decide) (by omega)]; omega)]
  by_cases hc : x < 65536
  · rw [if_pos ((nI_lt4 (y := 65536) (c := 65536) rfl (by omega) (by decide)).mpr hc)]
    exact nlz_33 h1 hc (by omega) (by omega)
  · rw [if_neg (fun h => hc ((nI_lt4 (y := 65536) (c := 65536) rfl (by omega) (by decide)).mp h))]
    simp only [nm]
    rw [us_n (by omega) 16 16 (by decide), show ((31 : Int32) + (-16 : Int32)) = nI 15 from rfl]
    obtain ⟨h, e1, e2, e3⟩ := nlz_33 (x := x / 2 ^ 16) (a := 15) (by omega) (by omega) (by omega) (by omega)
    exact ⟨h + 16, hb_up e1, by omega, by rw [e3, show 15 - h = 31 - (h + 16) by omega]⟩
theorem tw_22 {st : rn_S} (hok : ok33 (rn_ex st)) {k : Nat} (hk : k < 33) :
    (xd (rn_ex st) k = 0 → (RE_topWeight_22 (nI k) st).toInt = 31 * k - 590) ∧ (∀ h, hb_at (xd (rn_ex st) k) h → (RE_topWeight_22 (nI k) st).toInt = 31 * k + h - 589) := by
  unfold RE_topWeight_22
  simp only [nm, nI_clamp (show k < 2 ^ 31 by omega)]
  rw [nI_xd hok hk]
  have hd := xd_lt (f := rn_ex st) k
  generalize xd (rn_ex st) k = d at hd ⊢
  have em : nI k * (31 : Int32) = nI (k * 31) := pk_mul k 31
  have e31 : (nI (k * 31)).toInt = (k * 31 : Nat) := nI_toInt (by omega)
  have e589 : (-589 : Int32).toInt = -589 := rfl
  rw [em]
  have es : ((-589 : Int32) + nI (k * 31)).toInt = -589 + (k * 31 : Nat) := by rw [ar_add (by omega) (by omega), e31, e589]
  refine ⟨fun h0 => ?_, fun h hh => ?_⟩
  · subst h0
    rw [show JI_numberOfLeadingZeros (nI 0) = 32 from rfl, show ((31 : Int32) - 32) = -1 from rfl]
    have e1 : (-1 : Int32).toInt = -1 := rfl
    rw [ar_add (by omega) (by omega), es, e1]
    omega
  · have hd1 : 1 ≤ d := Nat.le_trans (p2_pos h) hh.1
    obtain ⟨h', a1, a2, a3⟩ := nlz_ok hd1 hd
    have hhh := hb_one hh a1
    subst hhh
    have hh30 : h ≤ 30 := by
      rcases Nat.lt_or_ge 30 h with h5 | h5
      · have := p2_le (show 31 ≤ h from h5)
        have h6 := hh.1
        have h7 : (2 : Nat) ^ 31 = 2147483648 := by decide
        have h8 : d < 2147483648 := hd
        omega
      · exact h5
    rw [a3, show (31 : Int32) = nI 31 from rfl, pk_sub (show 31 - h ≤ 31 by omega), show 31 - (31 - h) = h by omega]
    have eh : (nI h).toInt = h := nI_toInt (by omega)
    rw [ar_add (by omega) (by omega), es, eh]
    omega
theorem tw_loop (k : Nat) : ∀ (N : Nat) (st : rn_S), k < N → k < 33 → ok33 (rn_ex st) → (∀ i, k < i → i < 33 → xd (rn_ex st) i = 0) →
    ∃ q, q ≤ k ∧ RE_topWeight_3 N (nI k) st = RE_topWeight_22 (nI q) st ∧ (∀ i, q < i → i < 33 → xd (rn_ex st) i = 0) ∧ (q = 0 ∨ xd (rn_ex st) q ≠ 0) := by
  induction k with
  | zero =>
    intro N st hN hk hok hz
    obtain ⟨N, rfl⟩ : ∃ M, N = M + 1 := ⟨N - 1, by omega⟩
    exact ⟨0, by omega, by rw [RE_topWeight_3, if_pos (by decide)], hz, Or.inl rfl⟩
  | succ k ih =>
    intro N st hN hk hok hz
    obtain ⟨N, rfl⟩ : ∃ M, N = M + 1 := ⟨N - 1, by omega⟩
    rw [RE_topWeight_3, if_neg (nI_nle (by omega) (by omega)), nI_clamp (by omega)]
    by_cases h0 : rn_ex st (k + 1) = 0
    · rw [if_pos h0]
      simp only [nm]
      rw [nk_dec (by omega), show k + 1 - 1 = k by omega]
      obtain ⟨q, a1, a2, a3, a4⟩ := ih N st (by omega) (by omega) hok (fun i h1 h2 => by
        by_cases e : i = k + 1
        · subst e; unfold xd; rw [h0]; rfl
        · exact hz i (by omega) h2)
      exact ⟨q, by omega, a2, a3, a4⟩
    · rw [if_neg h0]
      refine ⟨k + 1, by omega, rfl, hz, Or.inr (fun h => h0 ?_)⟩
      rw [nI_xd hok hk, h]
      rfl
theorem b31_pow (k : Nat) : B31 ^ k = 2 ^ (31 * k) := by
  rw [Nat.pow_mul]
theorem ex_top {st : rn_S} (hok : ok33 (rn_ex st)) : (xv (rn_ex st) = 0 → (RE_topWeight st).toInt = -590) ∧ (∀ T, hb_at (xv (rn_ex st)) T → (RE_topWeight st).toInt = T - 589) := by
  unfold RE_topWeight
  obtain ⟨q, a1, a2, a3, a4⟩ := tw_loop 32 33 st (by omega) (by omega) hok (fun i h1 h2 => by omega)
  rw [show (32 : Int32) = nI 32 from rfl, a2]
  have hq : q < 33 := by omega
  have hE : xv (rn_ex st) = dv B31 (xd (rn_ex st)) q + xd (rn_ex st) q * B31 ^ q := by
    have h1 := dv_split (B := B31) (f := xd (rn_ex st)) (q + 1) (33 - (q + 1))
    rw [show q + 1 + (33 - (q + 1)) = 33 by omega] at h1
    have h2 : dv B31 (fun i => xd (rn_ex st) (q + 1 + i)) (33 - (q + 1)) = 0 := dv_zero (fun i hi => a3 _ (by omega) (by omega))
    rw [xv, h1, h2, Nat.mul_zero, Nat.add_zero, dv]
  have hlow : dv B31 (xd (rn_ex st)) q < B31 ^ q := dv_lt (fun i _ => xd_lt i)
  have tw := tw_22 hok hq
  refine ⟨fun h0 => ?_, fun T hT => ?_⟩
  · have hd0 : xd (rn_ex st) q = 0 := (dv_zero_iff (B := B31) (by decide)).mp h0 q hq
    have hq0 : q = 0 := by
      rcases a4 with h | h
      · exact h
      · exact absurd hd0 h
    rw [tw.1 hd0, hq0]
    omega
  · have hdp : xd (rn_ex st) q ≠ 0 := by
      intro hd
      rw [hd, Nat.zero_mul, Nat.add_zero] at hE
      have hq0 : q = 0 := by
        rcases a4 with h | h
        · exact h
        · exact absurd hd h
      subst hq0
      have h2 : xv (rn_ex st) = 0 := hE
      have h3 := hT.1
      have h4 := p2_pos T
      omega
    obtain ⟨h, hh⟩ := hb_ex (V := xd (rn_ex st) q) (by omega)
    have hb2 : hb_at (xv (rn_ex st)) (31 * q + h) := by
      refine ⟨?_, ?_⟩
      · rw [Nat.pow_add, ← b31_pow, Nat.mul_comm, hE]
        have := Nat.mul_le_mul_right (B31 ^ q) hh.1
        omega
      · rw [show 31 * q + h + 1 = 31 * q + (h + 1) by omega, Nat.pow_add, ← b31_pow, Nat.mul_comm, hE]
        have h5 : (xd (rn_ex st) q + 1) * B31 ^ q ≤ 2 ^ (h + 1) * B31 ^ q := Nat.mul_le_mul_right _ hh.2
        rw [Nat.add_mul, Nat.one_mul] at h5
        omega
    rw [tw.2 h hh, hb_one hT hb2]
    omega
