/-! cutBelow, roundAt, splitSign, isAbovePower of the exact row -/
theorem ct_loop (n : Nat) : ∀ (N k pl : Nat) (st : rn_S), k + n = 33 → n < N → pl < 2000 → ok33 (rn_ex st) →
    ∃ f, RE_cutBelow_8 N (nI pl) (nI k) st = rn_setx st f ∧ ok33 f ∧ (∀ i, i < k → f i = rn_ex st i) ∧ (∀ i, k ≤ i → i < 33 → f i = nI (xd (rn_ex st) i - xd (rn_ex st) i % 2 ^ cnt pl i)) := by
  induction n with
  | zero =>
    intro N k pl st hk hN hp hok
    obtain ⟨N, rfl⟩ : ∃ M, N = M + 1 := ⟨N - 1, by omega⟩
    have hk : k = 33 := by omega
    subst hk
    exact ⟨rn_ex st, by rw [RE_cutBelow_8, if_pos (by decide), sx_id], hok, fun _ _ => rfl, fun i h1 h2 => by omega⟩
  | succ n ih =>
    intro N k pl st hk hN hp hok
    obtain ⟨N, rfl⟩ : ∃ M, N = M + 1 := ⟨N - 1, by omega⟩
    have hk33 : k < 33 := by omega
    rw [RE_cutBelow_8, if_neg (ge33 hk33)]
    simp only [nm, nI_clamp (show k < 2 ^ 31 by omega), nI_1]
    rw [show rn_ex st k = nI (xd (rn_ex st) k) from nI_xd hok hk33, lb_cut (xd_lt k) hp hk33]
    have hlt : xd (rn_ex st) k - xd (rn_ex st) k % 2 ^ cnt pl k < 2147483648 := Nat.lt_of_le_of_lt (Nat.sub_le _ _) (xd_lt k)
    obtain ⟨f, a1, a2, a3, a4⟩ := ih N (k + 1) pl (rn_exs st k (nI (xd (rn_ex st) k - xd (rn_ex st) k % 2 ^ cnt pl k))) (by omega) (by omega) hp (ok_upd hok (by rw [nI_toInt (by omega)]; omega))
    refine ⟨f, by rw [a1, sx_exs, sx_sx], a2, fun i hi => ?_, fun i h1 h2 => ?_⟩
    · rw [a3 i (by omega), sx_exs, sx_ex, upd_ne (by omega)]
    · by_cases e : i = k
      · subst e
        rw [a3 i (by omega), sx_exs, sx_ex, upd_same]
      · have h3 : xd (rn_ex (rn_exs st k (nI (xd (rn_ex st) k - xd (rn_ex st) k % 2 ^ cnt pl k)))) i = xd (rn_ex st) i := by
          rw [sx_exs, sx_ex]
          unfold xd
          rw [upd_ne e]
        rw [a4 i (by omega) h2, h3]
theorem dv_plus {B : Nat} {e m d : Nat → Nat} {n : Nat} (h : ∀ i, i < n → e i + m i = d i) : dv B e n + dv B m n = dv B d n := by
  induction n with
  | zero => rfl
  | succ n ih =>
    have h1 := ih (fun i hi => h i (by omega))
    rw [dv, dv, dv, ← h1, ← h n (by omega), Nat.add_mul]
    omega
theorem dv_cnt {f : Nat → Int32} {pl : Nat} (hp : pl < 1023) : dv B31 (fun i => xd f i % 2 ^ cnt pl i) 33 = xv f % 2 ^ pl := by
  have hq : pl / 31 < 33 := by omega
  have h1 := dv_split (B := B31) (f := fun i => xd f i % 2 ^ cnt pl i) (pl / 31 + 1) (33 - (pl / 31 + 1))
  rw [show pl / 31 + 1 + (33 - (pl / 31 + 1)) = 33 by omega] at h1
  have h2 : dv B31 (fun i => xd f (pl / 31 + 1 + i) % 2 ^ cnt pl (pl / 31 + 1 + i)) (33 - (pl / 31 + 1)) = 0 := dv_zero (fun i hi => by
    rw [cnt_hi (by omega)]
    exact Nat.mod_one _)
  have h3 : dv B31 (fun i => xd f i % 2 ^ cnt pl i) (pl / 31) = dv B31 (xd f) (pl / 31) := dv_congr (fun i hi => by
    rw [cnt_lo hi]
    exact Nat.mod_eq_of_lt (xd_lt i))
  rw [h1, h2, Nat.mul_zero, Nat.add_zero, dv, h3, cnt_at, xv_mod hp, Nat.mul_comm]
theorem xv_def (f : Nat → Int32) : xv f = dv B31 (xd f) 33 := by unfold xv; rfl
theorem xd_nI {f : Nat → Int32} {i n : Nat} (h : f i = nI n) (hn : n < 2147483648) : xd f i = n := by
  unfold xd
  rw [h, nI_toInt (by omega), Int.toNat_natCast]
theorem cut_val {f g : Nat → Int32} {pl : Nat} (hp : pl < 1023) (h : ∀ i, i < 33 → f i = nI (xd g i - xd g i % 2 ^ cnt pl i)) : xv f = xv g - xv g % 2 ^ pl := by
  have h1 : dv B31 (xd f) 33 + dv B31 (fun i => xd g i % 2 ^ cnt pl i) 33 = dv B31 (xd g) 33 := dv_plus (fun i hi => by
    have h2 : xd f i = xd g i - xd g i % 2 ^ cnt pl i := xd_nI (h i hi) (Nat.lt_of_le_of_lt (Nat.sub_le _ _) (xd_lt i))
    have h3 : xd g i % 2 ^ cnt pl i ≤ xd g i := Nat.mod_le _ _
    omega)
  rw [dv_cnt hp, ← xv_def, ← xv_def] at h1
  exact Nat.eq_sub_of_add_eq h1
theorem nm_e0 {α β : Type} (x : α) (f : α → β) : nm x f = f x := nm_eq rfl
theorem zz_0 : (0 : Int32) = nI 0 := by decide
theorem ex_cut {st : rn_S} (hok : ok33 (rn_ex st)) {w : Int32} {pl : Nat} (hw : w.toInt + 589 = pl) (hp : pl < 1023) : ∃ f, RE_cutBelow st w = rn_setx st f ∧ ok33 f ∧ xv f = xv (rn_ex st) - xv (rn_ex st) % 2 ^ pl := by
  obtain ⟨f, a1, a2, a3, a4⟩ := ct_loop 33 34 0 pl st (by omega) (by omega) (by omega) hok
  refine ⟨f, ?_, a2, cut_val hp (fun i hi => a4 i (Nat.zero_le _) hi)⟩
  unfold RE_cutBelow
  rw [nm_e0, pl_sub hw (show pl < 2000 by omega), zz_0]
  exact a1
theorem B33 : B31 ^ 33 = 2 ^ 1023 := b31_pow 33
theorem B33i : (B31 : Int) ^ 33 = ((2 ^ 1023 : Nat) : Int) := by rw [← B33, Int.natCast_pow]
/-- adding a power of 2 that fits -/
theorem ex_addPos {st : rn_S} (hok : ok33 (rn_ex st)) {w : Int32} {pl : Nat} (hw : w.toInt + 589 = pl) (hp : pl < 1023) (hf : xv (rn_ex st) + 2 ^ pl < 2 ^ 1023) :
    ∃ f, RE_addPower st w 1 = rn_setx st f ∧ ok33 f ∧ xv f = xv (rn_ex st) + 2 ^ pl := by
  obtain ⟨f, a1, a2, co, a3⟩ := ex_addPower hok hw hp (s := 1) (Or.inl rfl)
  refine ⟨f, a1, a2, ?_⟩
  have h1 := xv_lt f
  rw [B33] at h1
  rw [B33i, show (1 : Int32).toInt = 1 from rfl, Int.one_mul] at a3
  have h2 : ((2 ^ pl : Nat) : Int) = 2 ^ pl := Int.natCast_pow 2 pl
  rw [← h2, ← Int.natCast_add] at a3
  have h3 := modz (Int.natCast_nonneg _) (Int.ofNat_lt.mpr h1) (Int.natCast_nonneg _) (Int.ofNat_lt.mpr hf) a3
  exact Int.ofNat.inj h3
theorem ex_addNeg {st : rn_S} (hok : ok33 (rn_ex st)) {w : Int32} {pl : Nat} (hw : w.toInt + 589 = pl) (hp : pl < 1023) (hf : 2 ^ pl ≤ xv (rn_ex st)) :
    ∃ f, RE_addPower st w (-1) = rn_setx st f ∧ ok33 f ∧ xv f = xv (rn_ex st) - 2 ^ pl := by
  obtain ⟨f, a1, a2, co, a3⟩ := ex_addPower hok hw hp (s := -1) (Or.inr rfl)
  refine ⟨f, a1, a2, ?_⟩
  have h1 := xv_lt f
  have h0 := xv_lt (rn_ex st)
  rw [B33] at h1 h0
  rw [B33i, show (-1 : Int32).toInt = -1 from rfl, Int.neg_one_mul] at a3
  have h2 : ((2 ^ pl : Nat) : Int) = 2 ^ pl := Int.natCast_pow 2 pl
  rw [← h2] at a3
  have h4 : (xv (rn_ex st) : Int) + -((2 ^ pl : Nat) : Int) = ((xv (rn_ex st) - 2 ^ pl : Nat) : Int) := by omega
  rw [h4] at a3
  have h3 := modz (Int.natCast_nonneg _) (Int.ofNat_lt.mpr h1) (Int.natCast_nonneg _) (Int.ofNat_lt.mpr (Nat.lt_of_le_of_lt (Nat.sub_le _ _) h0)) a3
  exact Int.ofNat.inj h3
theorem w_pred {w : Int32} {pl : Nat} (hw : w.toInt + 589 = pl) (h1 : 1 ≤ pl) (hp : pl < 1023) : (w - (1 : Int32)).toInt + 589 = (pl - 1 : Nat) := by
  have e : (1 : Int32).toInt = 1 := rfl
  rw [ar_sub (by omega) (by omega), e]
  omega
/-- roundAt: whether the size grows -/
def rd_g (E pl : Nat) (mode tie : Int32) : Prop := mode = 4 ∨ (mode = 0 ∧ E / 2 ^ (pl - 1) % 2 = 1 ∧ (tie ≠ 0 ∨ E % 2 ^ (pl - 1) ≠ 0))
theorem nI2 {n : Nat} (h : n < 2) : (nI n = 1) ↔ n = 1 := by
  rw [show (1 : Int32) = nI 1 from rfl]
  exact nI_eq (by omega) (by decide)
theorem ex_r58 {st : rn_S} (hok : ok33 (rn_ex st)) {w g : Int32} {pl : Nat} (hw : w.toInt + 589 = pl) (hp : pl < 1023) (hE : xv (rn_ex st) < 2 ^ 1022) :
    (g = 0 → ∃ f, RE_roundAt_58 w g st = (-1, rn_setx st f) ∧ ok33 f ∧ xv f = xv (rn_ex st) - xv (rn_ex st) % 2 ^ pl) ∧
    (g ≠ 0 → ∃ f, RE_roundAt_58 w g st = (1, rn_setx st f) ∧ ok33 f ∧ xv f = xv (rn_ex st) - xv (rn_ex st) % 2 ^ pl + 2 ^ pl) := by
  unfold RE_roundAt_58
  simp only [nm]
  obtain ⟨f, a1, a2, a3⟩ := ex_cut hok hw hp
  refine ⟨fun h => ?_, fun h => ?_⟩
  · rw [if_pos h]
    exact ⟨f, by rw [a1], a2, a3⟩
  · rw [if_neg h, a1]
    have h1 : 2 ^ pl ≤ 2 ^ 1022 := p2_le (by omega)
    have h2 : (2 : Nat) ^ 1023 = 2 ^ 1022 + 2 ^ 1022 := by rw [Nat.pow_succ]; omega
    obtain ⟨f2, b1, b2, b3⟩ := ex_addPos (st := rn_setx st f) (w := w) (pl := pl) a2 hw hp (by
      show xv f + 2 ^ pl < 2 ^ 1023
      omega)
    exact ⟨f2, by rw [b1, sx_sx], b2, by rw [b3, sx_ex, a3]⟩
theorem ex_round {st : rn_S} (hok : ok33 (rn_ex st)) {w mode tie : Int32} {pl : Nat} (hw : w.toInt + 589 = pl) (h1 : 1 ≤ pl) (hp : pl < 1023) (hE : xv (rn_ex st) < 2 ^ 1022) :
    (xv (rn_ex st) % 2 ^ pl = 0 → RE_roundAt st w mode tie = (0, st)) ∧
    (xv (rn_ex st) % 2 ^ pl ≠ 0 → ¬ rd_g (xv (rn_ex st)) pl mode tie → ∃ f, RE_roundAt st w mode tie = (-1, rn_setx st f) ∧ ok33 f ∧ xv f = xv (rn_ex st) - xv (rn_ex st) % 2 ^ pl) ∧
    (xv (rn_ex st) % 2 ^ pl ≠ 0 → rd_g (xv (rn_ex st)) pl mode tie → ∃ f, RE_roundAt st w mode tie = (1, rn_setx st f) ∧ ok33 f ∧ xv f = xv (rn_ex st) - xv (rn_ex st) % 2 ^ pl + 2 ^ pl) := by
  have hb := ex_bit hok (w_pred hw h1 hp) (by omega)
  have hh := ex_hasBelow hok (w_pred hw h1 hp) (by omega)
  have r58 := fun g => ex_r58 (g := g) hok hw hp hE
  unfold RE_roundAt
  simp only [nm]
  rw [ex_hasBelow hok hw hp]
  refine ⟨fun h => by rw [if_pos h, if_pos rfl], fun h hg => ?_, fun h hg => ?_⟩
  · rw [if_neg h, if_neg (by decide)]
    by_cases hm4 : mode = 4
    · exact absurd (Or.inl hm4) hg
    · rw [if_neg hm4]
      unfold RE_roundAt_20
      simp only [nm]
      by_cases hm0 : mode = 0
      · rw [if_pos hm0, hb]
        by_cases hbit : xv (rn_ex st) / 2 ^ (pl - 1) % 2 = 1
        · rw [if_pos ((nI2 (by omega)).mpr hbit)]
          have ht : tie = 0 := Classical.byContradiction (fun h9 => hg (Or.inr ⟨hm0, hbit, Or.inl h9⟩))
          have hz : xv (rn_ex st) % 2 ^ (pl - 1) = 0 := Classical.byContradiction (fun h9 => hg (Or.inr ⟨hm0, hbit, Or.inr h9⟩))
          rw [if_pos ht, hh, if_pos hz, if_pos rfl]
          exact (r58 0).1 rfl
        · rw [if_neg (fun h9 => hbit ((nI2 (by omega)).mp h9))]
          exact (r58 0).1 rfl
      · rw [if_neg hm0]
        exact (r58 0).1 rfl
  · rw [if_neg h, if_neg (by decide)]
    by_cases hm4 : mode = 4
    · rw [if_pos hm4]
      unfold RE_roundAt_20
      rw [if_neg (by rw [hm4]; decide)]
      exact (r58 1).2 (by decide)
    · rw [if_neg hm4]
      rcases hg with hg | ⟨hm0, hbit, ht⟩
      · exact absurd hg hm4
      · unfold RE_roundAt_20
        simp only [nm]
        rw [if_pos hm0, hb, if_pos ((nI2 (by omega)).mpr hbit)]
        by_cases ht0 : tie = 0
        · rw [if_pos ht0, hh]
          rcases ht with h9 | h9
          · exact absurd ht0 h9
          · rw [if_neg h9, if_neg (by decide)]
            exact (r58 1).2 (by decide)
        · rw [if_neg ht0]
          exact (r58 1).2 (by decide)
