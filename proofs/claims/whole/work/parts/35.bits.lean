/-! bit, hasBelow, cutBelow of the exact row -/
theorem s_l : ∀ n, n < 32 → ((nI n &&& 31).toBitVec.smod 32).toNat = n := by decide +kernel
theorem md_div (F r m : Nat) (h : r ≤ m) : F % 2 ^ m / 2 ^ r = F / 2 ^ r % 2 ^ (m - r) := by
  have e : 2 ^ m = 2 ^ r * 2 ^ (m - r) := by rw [← Nat.pow_add, Nat.add_sub_cancel' h]
  rw [e, Nat.mod_mul_right_div_self]
theorem md_2 (F r m : Nat) (h : r < m) : F % 2 ^ m / 2 ^ r % 2 = F / 2 ^ r % 2 := by
  rw [md_div F r m (by omega), Nat.mod_mod_of_dvd]
  obtain ⟨d, hd⟩ : ∃ d, m - r = d + 1 := ⟨m - r - 1, by omega⟩
  rw [hd, Nat.pow_succ]
  exact Nat.dvd_mul_left 2 _
theorem xv_dig {f : Nat → Int32} {q : Nat} (hq : q < 33) : xv f / B31 ^ q % 2 ^ 31 = xd f q := dv_digit (B := B31) (by decide) hq (fun i _ => xd_lt i)
theorem pl_pow (pl : Nat) : 2 ^ pl = B31 ^ (pl / 31) * 2 ^ (pl % 31) := by
  rw [b31_pow, ← Nat.pow_add, Nat.div_add_mod]
theorem ex_limb {st : rn_S} {q : Nat} (hq : q < 33) : RE_limb st (nI q) = rn_ex st q := by
  unfold RE_limb
  rw [if_neg (nI_pos (by omega)), if_neg (ge33 hq), nI_clamp (by omega)]
theorem ex_limbO {st : rn_S} {q : Nat} (hq : 33 ≤ q) (h2 : q < 2147483648) : RE_limb st (nI q) = 0 := by
  unfold RE_limb
  rw [if_neg (nI_pos (by omega)), if_pos (ge33t hq h2)]
theorem ex_bit {st : rn_S} (hok : ok33 (rn_ex st)) {w : Int32} {pl : Nat} (hw : w.toInt + 589 = pl) (hp : pl < 1023) : RE_bit st w = nI (xv (rn_ex st) / 2 ^ pl % 2) := by
  have hr : pl % 31 < 31 := Nat.mod_lt _ (by decide)
  have hq : pl / 31 < 33 := by omega
  unfold RE_bit
  simp only [nm, pl_sub hw (by omega), pl_div (show pl < 2000 by omega), pl_rem2 (show pl < 2000 by omega), ex_limb hq]
  rw [nI_xd hok hq, pk_shrN (show xd (rn_ex st) (pl / 31) < 2 ^ 31 from xd_lt _) _ (pl % 31) (s_l _ (by omega))]
  have hd : xd (rn_ex st) (pl / 31) / 2 ^ (pl % 31) < 2 ^ 32 := Nat.lt_of_le_of_lt (Nat.div_le_self _ _) (Nat.lt_trans (xd_lt _) (by decide))
  rw [pk_andN hd (m := 1) 1 (by decide)]
  congr 1
  rw [← xv_dig hq, Nat.pow_one, md_2 _ _ _ hr, pl_pow pl, Nat.div_div_eq_div_mul]
/-- how many of limb i's bits lie below place pl -/
def cnt (pl i : Nat) : Nat := min 31 (pl - 31 * i)
theorem lb_mask {pl i : Nat} (hp : pl < 2000) (hi : i < 33) : RE_lowestBits (nI pl - nI i * (31 : Int32)) = nI (2 ^ cnt pl i - 1) := by
  have em : nI i * (31 : Int32) = nI (i * 31) := pk_mul i 31
  have e1 : (nI pl).toInt = pl := nI_toInt (by omega)
  have e2 : (nI (i * 31)).toInt = (i * 31 : Nat) := nI_toInt (by omega)
  have es : (nI pl - nI (i * 31)).toInt = pl - (i * 31 : Nat) := by rw [ar_sub (by omega) (by omega), e1, e2]
  rw [em]
  unfold RE_lowestBits cnt
  by_cases h1 : i * 31 < pl
  · have hx : nI pl - nI (i * 31) = nI (pl - i * 31) := pk_sub (by omega)
    rw [hx]
    rw [if_pos (show (0 : Int32) < nI (pl - i * 31) by rw [show (0 : Int32) = nI 0 from rfl, nI_ltI (by decide) (by omega)]; omega)]
    by_cases h2 : 31 ≤ pl - i * 31
    · rw [if_pos (show (31 : Int32) ≤ nI (pl - i * 31) by rw [show (31 : Int32) = nI 31 from rfl, nI_leI (by decide) (by omega)]; exact h2)]
      rw [show min 31 (pl - 31 * i) = 31 by omega]
      rfl
    · rw [if_neg (show ¬ (31 : Int32) ≤ nI (pl - i * 31) by rw [show (31 : Int32) = nI 31 from rfl, nI_leI (by decide) (by omega)]; exact h2)]
      have h3 : pl - i * 31 < 31 := by omega
      have h4 : 2 ^ (pl - i * 31) ≤ 2 ^ 30 := p2_le (by omega)
      have h5 := p2_pos (pl - i * 31)
      rw [show (1 : Int32) = nI 1 from rfl, pk_shlN _ (pl - i * 31) (s_l _ (by omega)) (by omega), pk_sub (by omega), Nat.one_mul]
      rw [show min 31 (pl - 31 * i) = pl - i * 31 by omega]
  · rw [if_neg (show ¬ (0 : Int32) < nI pl - nI (i * 31) by
      rw [Int32.lt_iff_toInt_lt, es]
      have : (0 : Int32).toInt = 0 := rfl
      omega)]
    rw [show min 31 (pl - 31 * i) = 0 by omega]
    rfl
theorem cnt_le (pl i : Nat) : cnt pl i ≤ 31 := by unfold cnt; omega
theorem pk_tn31 {c : Nat} (h : c ≤ 31) : (nI (2 ^ c - 1)).toBitVec.toNat = 2 ^ c - 1 := by
  have h1 : 2 ^ c ≤ 2 ^ 31 := p2_le h
  exact pk_tn (by omega)
theorem lb_and {d pl i : Nat} (hd : d < 2147483648) (hp : pl < 2000) (hi : i < 33) : nI d &&& RE_lowestBits (nI pl - nI i * (31 : Int32)) = nI (d % 2 ^ cnt pl i) := by
  rw [lb_mask hp hi, pk_andN (by omega) (cnt pl i) (pk_tn31 (cnt_le pl i))]
theorem nI_z {n : Nat} (h : n < 2147483648) : nI n = 0 ↔ n = 0 := by
  rw [show (0 : Int32) = nI 0 from rfl]
  exact nI_eq (by omega) (by decide)
theorem hbl_loop (n : Nat) : ∀ (N k pl : Nat) (st : rn_S), k + n = 33 → n < N → pl < 2000 → ok33 (rn_ex st) →
    ((∀ i, k ≤ i → i < 33 → xd (rn_ex st) i % 2 ^ cnt pl i = 0) → RE_hasBelow_8 N (nI pl) (nI k) st = 0) ∧ (¬ (∀ i, k ≤ i → i < 33 → xd (rn_ex st) i % 2 ^ cnt pl i = 0) → RE_hasBelow_8 N (nI pl) (nI k) st = 1) := by
  induction n with
  | zero =>
    intro N k pl st hk hN hp hok
    obtain ⟨N, rfl⟩ : ∃ M, N = M + 1 := ⟨N - 1, by omega⟩
    have hk : k = 33 := by omega
    subst hk
    rw [RE_hasBelow_8, if_pos (by decide)]
    exact ⟨fun _ => rfl, fun h => absurd (fun i h1 h2 => by omega) h⟩
  | succ n ih =>
    intro N k pl st hk hN hp hok
    obtain ⟨N, rfl⟩ : ∃ M, N = M + 1 := ⟨N - 1, by omega⟩
    have hk33 : k < 33 := by omega
    rw [RE_hasBelow_8, if_neg (ge33 hk33)]
    simp only [nm, nI_clamp (show k < 2 ^ 31 by omega), nI_1]
    rw [nI_xd hok hk33, lb_and (xd_lt k) hp hk33]
    have hlt : xd (rn_ex st) k % 2 ^ cnt pl k < 2147483648 := Nat.lt_of_le_of_lt (Nat.mod_le _ _) (xd_lt k)
    by_cases h0 : xd (rn_ex st) k % 2 ^ cnt pl k = 0
    · rw [if_pos ((nI_z hlt).mpr h0)]
      have h9 := ih N (k + 1) pl st (by omega) (by omega) hp hok
      refine ⟨fun h => h9.1 (fun i h1 h2 => h i (by omega) h2), fun h => h9.2 (fun h8 => h (fun i h1 h2 => ?_))⟩
      by_cases e : i = k
      · subst e; exact h0
      · exact h8 i (by omega) h2
    · rw [if_neg (fun h => h0 ((nI_z hlt).mp h))]
      exact ⟨fun h => absurd (h k (Nat.le_refl _) hk33) h0, fun _ => rfl⟩
theorem cnt_lo {pl i : Nat} (h : i < pl / 31) : cnt pl i = 31 := by unfold cnt; omega
theorem cnt_at {pl : Nat} : cnt pl (pl / 31) = pl % 31 := by unfold cnt; omega
theorem cnt_hi {pl i : Nat} (h : pl / 31 < i) : cnt pl i = 0 := by unfold cnt; omega
theorem xv_mod {f : Nat → Int32} {pl : Nat} (hp : pl < 1023) : xv f % 2 ^ pl = dv B31 (xd f) (pl / 31) + B31 ^ (pl / 31) * (xd f (pl / 31) % 2 ^ (pl % 31)) := by
  have hq : pl / 31 < 33 := by omega
  have hr : pl % 31 < 31 := Nat.mod_lt _ (by decide)
  have h1 := dv_mod (B := B31) (f := xd f) (k := pl / 31) (n := 33) (by omega) (fun i _ => xd_lt i)
  rw [pl_pow pl, Nat.mod_mul]
  have h2 : xv f % B31 ^ (pl / 31) = dv B31 (xd f) (pl / 31) := h1
  rw [h2, ← xv_dig hq, Nat.mod_mod_of_dvd]
  exact Nat.pow_dvd_pow 2 (by omega)
theorem xv_mod0 {f : Nat → Int32} {pl : Nat} (hp : pl < 1023) : xv f % 2 ^ pl = 0 ↔ ∀ i, 0 ≤ i → i < 33 → xd f i % 2 ^ cnt pl i = 0 := by
  have hq : pl / 31 < 33 := by omega
  rw [xv_mod hp]
  have hB : 0 < B31 ^ (pl / 31) := Nat.pow_pos (by decide)
  refine ⟨fun h i _ hi => ?_, fun h => ?_⟩
  · have h1 : dv B31 (xd f) (pl / 31) = 0 := by omega
    have h2 : B31 ^ (pl / 31) * (xd f (pl / 31) % 2 ^ (pl % 31)) = 0 := by omega
    rcases Nat.lt_trichotomy i (pl / 31) with h3 | h3 | h3
    · rw [cnt_lo h3, (dv_zero_iff (B := B31) (by decide)).mp h1 i h3]
    · subst h3
      rw [cnt_at]
      rcases Nat.mul_eq_zero.mp h2 with h4 | h4
      · omega
      · exact h4
    · rw [cnt_hi h3]
      exact Nat.mod_one _
  · have h1 : dv B31 (xd f) (pl / 31) = 0 := dv_zero (fun i hi => by
      have h2 := h i (Nat.zero_le _) (by omega)
      rw [cnt_lo hi, Nat.mod_eq_of_lt (xd_lt i)] at h2
      exact h2)
    have h3 := h (pl / 31) (Nat.zero_le _) hq
    rw [cnt_at] at h3
    rw [h1, h3]
    omega
theorem ex_hasBelow {st : rn_S} (hok : ok33 (rn_ex st)) {w : Int32} {pl : Nat} (hw : w.toInt + 589 = pl) (hp : pl < 1023) : RE_hasBelow st w = if xv (rn_ex st) % 2 ^ pl = 0 then 0 else 1 := by
  unfold RE_hasBelow
  simp only [nm, pl_sub hw (by omega)]
  have h := hbl_loop 33 34 0 pl st (by omega) (by omega) (by omega) hok
  by_cases h0 : xv (rn_ex st) % 2 ^ pl = 0
  · rw [if_pos h0]
    exact h.1 ((xv_mod0 hp).mp h0)
  · rw [if_neg h0]
    exact h.2 (fun h1 => h0 ((xv_mod0 hp).mpr h1))
-- cutBelow
theorem bv_cut (x m : BitVec 32) : (x &&& (m ^^^ BitVec.allOnes 32)) + (x &&& m) = x := by
  rw [BitVec.add_eq_or_of_and_eq_zero]
  · apply BitVec.eq_of_getLsbD_eq
    intro i hi
    simp only [BitVec.getLsbD_or, BitVec.getLsbD_and, BitVec.getLsbD_xor, BitVec.getLsbD_allOnes, hi, decide_true]
    cases x.getLsbD i <;> cases m.getLsbD i <;> rfl
  · apply BitVec.eq_of_getLsbD_eq
    intro i hi
    simp only [BitVec.getLsbD_and, BitVec.getLsbD_xor, BitVec.getLsbD_allOnes, hi, decide_true, BitVec.getLsbD_zero]
    cases x.getLsbD i <;> cases m.getLsbD i <;> rfl
theorem i_cut (x m : Int32) : (x &&& (m ^^^ (-1 : Int32))) + (x &&& m) = x := by
  apply Int32.toBitVec_inj.mp
  exact bv_cut x.toBitVec m.toBitVec
theorem lb_cut {d pl i : Nat} (hd : d < 2147483648) (hp : pl < 2000) (hi : i < 33) : nI d &&& (RE_lowestBits (nI pl - nI i * (31 : Int32)) ^^^ (-1 : Int32)) = nI (d - d % 2 ^ cnt pl i) := by
  have h1 := i_cut (nI d) (RE_lowestBits (nI pl - nI i * (31 : Int32)))
  rw [lb_and hd hp hi] at h1
  have h2 : d % 2 ^ cnt pl i ≤ d := Nat.mod_le _ _
  have h3 : nI (d - d % 2 ^ cnt pl i) + nI (d % 2 ^ cnt pl i) = nI d := by rw [nI_add, Nat.sub_add_cancel h2]
  have h4 := h1.trans h3.symm
  have h5 : ∀ a b c : Int32, a + c = b + c → a = b := fun a b c h => by
    have := congrArg (fun z => z - c) h
    simpa using this
  exact h5 _ _ _ h4
