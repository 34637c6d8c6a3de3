/-! splitSign, isAbovePower, storeInto of the exact row -/
theorem ex_top32 {f : Nat → Int32} (hok : ok33 f) : (f 32 = 0 ↔ xv f < 2 ^ 992) := by
  have h1 : xv f = dv B31 (xd f) 32 + xd f 32 * B31 ^ 32 := by rw [xv_def, dv]
  have h2 : dv B31 (xd f) 32 < B31 ^ 32 := dv_lt (fun i _ => xd_lt i)
  have h3 : B31 ^ 32 = 2 ^ 992 := b31_pow 32
  rw [h3] at h1 h2
  refine ⟨fun h => ?_, fun h => ?_⟩
  · have h4 : xd f 32 = 0 := by unfold xd; rw [h]; rfl
    rw [h1, h4, Nat.zero_mul, Nat.add_zero]
    exact h2
  · rcases Nat.eq_zero_or_pos (xd f 32) with h4 | h4
    · rw [nI_xd hok (by omega), h4]
      rfl
    · have h5 : 1 * 2 ^ 992 ≤ xd f 32 * 2 ^ 992 := Nat.mul_le_mul_right _ h4
      rw [Nat.one_mul] at h5
      rw [h1] at h
      exact absurd h (Nat.not_lt_of_le (Nat.le_trans h5 (Nat.le_add_left _ _)))
/-- the sign of a whole number, as an int -/
def sgn (z : Int) : Int32 := if z < 0 then -1 else if z = 0 then 0 else 1
theorem sgn_0 : sgn 0 = 0 := rfl
theorem sgn_pos {z : Int} (h : 0 < z) : sgn z = 1 := by
  unfold sgn
  rw [if_neg (by omega), if_neg (by omega)]
theorem sgn_neg {z : Int} (h : z < 0) : sgn z = -1 := by
  unfold sgn
  rw [if_pos h]
theorem two1023 : (2 : Nat) ^ 992 + 2 ^ 992 ≤ 2 ^ 1023 := by
  have h : (2 : Nat) ^ 993 ≤ 2 ^ 1023 := p2_le (by decide)
  rw [Nat.pow_succ] at h
  omega
theorem ex_split {st : rn_S} (hok : ok33 (rn_ex st)) {Z co : Int} (h1 : -((2 ^ 992 : Nat) : Int) < Z) (h2 : Z < ((2 ^ 992 : Nat) : Int)) (hE : (xv (rn_ex st) : Int) + co * ((2 ^ 1023 : Nat) : Int) = Z) :
    ∃ f, RE_splitSign st = (sgn Z, rn_setx st f) ∧ ok33 f ∧ (xv f : Int) = Z.natAbs := by
  have hlt := xv_lt (rn_ex st)
  rw [B33] at hlt
  have h99 := two1023
  generalize hM : (2 ^ 1023 : Nat) = M at *
  generalize hP : (2 ^ 992 : Nat) = P at *
  unfold RE_splitSign
  rw [show (32 : Int32).toNatClampNeg = 32 from rfl]
  rcases Int.lt_or_le Z 0 with hz | hz
  · have hE2 : (xv (rn_ex st) : Int) = Z + M := by
      refine modz (M := M) (co := co + 1) (Int.natCast_nonneg _) (Int.ofNat_lt.mpr hlt) (by omega) (by omega) ?_
      rw [Int.add_mul, Int.one_mul]
      omega
    rw [if_neg (fun h => by
      have h3 := (ex_top32 hok).mp h
      rw [hP] at h3
      omega)]
    obtain ⟨f, a1, a2, co2, a3⟩ := ex_turn hok
    refine ⟨f, ?_, a2, ?_⟩
    · rw [nm_e0, a1]
      unfold sgn
      rw [if_pos hz]
    · have hlt2 := xv_lt f
      rw [B33, hM] at hlt2
      rw [B33i, hM] at a3
      have h5 : (xv f : Int) = -Z := by
        refine modz (M := M) (co := co2 + 1) (Int.natCast_nonneg _) (Int.ofNat_lt.mpr hlt2) (by omega) (by omega) ?_
        rw [Int.add_mul, Int.one_mul]
        omega
      omega
  · have hE2 : (xv (rn_ex st) : Int) = Z := modz (M := M) (co := co) (Int.natCast_nonneg _) (Int.ofNat_lt.mpr hlt) hz (by omega) hE
    rw [if_pos ((ex_top32 hok).mpr (by rw [hP]; omega))]
    refine ⟨rn_ex st, ?_, hok, by omega⟩
    rw [nm_e0, sx_id]
    have ht := ex_top hok
    have e589 : (-589 : Int32).toInt = -589 := rfl
    by_cases h0 : Z = 0
    · have h3 := ht.1 (by omega)
      rw [if_neg (show ¬ (-589 : Int32) ≤ RE_topWeight st by rw [Int32.le_iff_toInt_le]; omega), h0, sgn_0]
    · obtain ⟨T, hT⟩ := hb_ex (V := xv (rn_ex st)) (by omega)
      have h3 := ht.2 T hT
      rw [if_pos (show (-589 : Int32) ≤ RE_topWeight st by rw [Int32.le_iff_toInt_le]; omega), sgn_pos (by omega)]
theorem ex_above {st : rn_S} (hok : ok33 (rn_ex st)) {w : Int32} {pl : Nat} (hw : w.toInt + 589 = pl) (hp : pl < 1023) : RE_isAbovePower st w = if 2 ^ pl < xv (rn_ex st) then 1 else 0 := by
  have ht := ex_top hok
  have hh := ex_hasBelow hok hw hp
  unfold RE_isAbovePower RE_isAbovePower_23
  rw [nm_e0]
  rcases Nat.eq_zero_or_pos (xv (rn_ex st)) with h0 | h0
  · have h1 := ht.1 h0
    rw [if_neg (by rw [Int32.lt_iff_toInt_lt]; omega), if_neg (fun h => by rw [h] at h1; omega), if_neg (by rw [h0]; exact Nat.not_lt_zero _)]
  · obtain ⟨T, hT⟩ := hb_ex h0
    have h1 := ht.2 T hT
    rcases Nat.lt_trichotomy T pl with h2 | h2 | h2
    · have h3 := p2_le (show T + 1 ≤ pl from h2)
      have h4 := hT.2
      rw [if_neg (by rw [Int32.lt_iff_toInt_lt]; omega), if_neg (fun h => by rw [h] at h1; omega), if_neg (Nat.not_lt_of_le (Nat.le_trans (Nat.le_of_lt h4) h3))]
    · subst h2
      have he : RE_topWeight st = w := Int32.toInt_inj.mp (by omega)
      rw [he, if_neg (by rw [Int32.lt_iff_toInt_lt]; omega), if_pos rfl, nm_e0, hh]
      have h3 : xv (rn_ex st) % 2 ^ T = xv (rn_ex st) - 2 ^ T := by
        have h4 := hT.1
        have h5 := hT.2
        rw [Nat.pow_succ] at h5
        rw [Nat.mod_eq_sub_mod h4, Nat.mod_eq_of_lt (by omega)]
      have h4 := hT.1
      by_cases h5 : xv (rn_ex st) % 2 ^ T = 0
      · rw [if_pos h5, if_pos rfl, if_neg (by omega)]
      · rw [if_neg h5, if_neg (by decide), if_pos (by omega)]
    · have h3 := p2_lt h2
      have h4 := hT.1
      rw [if_pos (by rw [Int32.lt_iff_toInt_lt]; omega), if_pos (Nat.lt_of_lt_of_le h3 h4)]
-- storeInto
def rn_setl (st : rn_S) (v : Nat) (g : Nat → Int32) : rn_S := (st.1, st.2.1, st.2.2.1, st.2.2.2.1, (fun w => if w = v then g else st.2.2.2.2.1 w), st.2.2.2.2.2)
theorem sl_lbs (st : rn_S) (v j : Nat) (x : Int32) : rn_lbs st v j x = rn_setl st v (upd (rn_lb st v) j x) := rfl
theorem sl_lb (st : rn_S) (v : Nat) (g : Nat → Int32) : rn_lb (rn_setl st v g) v = g := by
  show (if v = v then g else _) = g
  rw [if_pos rfl]
theorem sl_ex (st : rn_S) (v : Nat) (g : Nat → Int32) : rn_ex (rn_setl st v g) = rn_ex st := rfl
theorem sl_sl (st : rn_S) (v : Nat) (g h : Nat → Int32) : rn_setl (rn_setl st v g) v h = rn_setl st v h := by
  unfold rn_setl
  simp only [Prod.mk.injEq, true_and, and_true]
  funext w
  by_cases e : w = v
  · rw [if_pos e, if_pos e]
  · rw [if_neg e, if_neg e, if_neg e]
theorem sl_id (st : rn_S) (v : Nat) : rn_setl st v (rn_lb st v) = st := by
  unfold rn_setl rn_lb
  have : (fun w => if w = v then st.2.2.2.2.1 v else st.2.2.2.2.1 w) = st.2.2.2.2.1 := by
    funext w
    by_cases e : w = v
    · subst e; rw [if_pos rfl]
    · rw [if_neg e]
  rw [this]
/-- two limbs side by side, shifted down: the digit of the shifted number -/
theorem pair_ok {a b r : Nat} (ha : a < 2147483648) (hb : b < 2147483648) (hr : r < 31) :
    (((((nI b).toInt64 <<< ((31 : Int32).toInt64 &&& 63)) ||| (nI a).toInt64) >>> ((nI r).toInt64 &&& 63)).toInt32 &&& (2147483647 : Int32)) = nI ((b * 2147483648 + a) / 2 ^ r % 2147483648) := by
  have e1 : (nI b).toInt64 = lN b := nI_l (by omega)
  have e2 : (nI a).toInt64 = lN a := nI_l (by omega)
  rw [e1, e2]
  have e3 : (lN b <<< ((31 : Int32).toInt64 &&& 63)) ||| lN a = lN (b * 2147483648 + a) := by
    apply Int64.toBitVec_inj.mp
    have h1 : ((lN b <<< ((31 : Int32).toInt64 &&& 63)) ||| lN a).toBitVec = (BitVec.ofNat 64 b <<< 31) ||| BitVec.ofNat 64 a := rfl
    have h2 : (lN (b * 2147483648 + a)).toBitVec = BitVec.ofNat 64 (b * 2147483648 + a) := rfl
    rw [h1, h2]
    apply BitVec.eq_of_toNat_eq
    rw [BitVec.toNat_or, BitVec.toNat_shiftLeft, BitVec.toNat_ofNat, BitVec.toNat_ofNat, BitVec.toNat_ofNat, Nat.shiftLeft_eq]
    rw [Nat.mod_eq_of_lt (show b < 2 ^ 64 by omega), Nat.mod_eq_of_lt (show a < 2 ^ 64 by omega), Nat.mod_eq_of_lt (show b * 2 ^ 31 < 2 ^ 64 by omega), Nat.mod_eq_of_lt (show b * 2147483648 + a < 2 ^ 64 by omega)]
    rw [show (2147483648 : Nat) = 2 ^ 31 from rfl, Nat.mul_comm, Nat.two_pow_add_eq_or_of_lt (show a < 2 ^ 31 from ha)]
  rw [e3]
  have hN : b * 2147483648 + a < 2 ^ 62 := by omega
  generalize b * 2147483648 + a = n at hN
  have e4 : (lN n >>> ((nI r).toInt64 &&& 63)).toInt = n / 2 ^ r := by
    have h1 : ((nI r).toInt64 &&& 63).toBitVec.smod 64 = BitVec.ofNat 64 r := by
      have h9 : ∀ r, r < 31 → ((nI r).toInt64 &&& 63).toBitVec.smod 64 = BitVec.ofNat 64 r := by decide +kernel
      exact h9 r hr
    have h2 : (lN n >>> ((nI r).toInt64 &&& 63)).toInt = ((lN n).toBitVec.sshiftRight' (((nI r).toInt64 &&& 63).toBitVec.smod 64)).toInt := rfl
    rw [h2, h1, BitVec.sshiftRight', BitVec.toInt_sshiftRight, Int.shiftRight_eq_div_pow]
    have h3 : (lN n).toBitVec.toInt = n := pk_lT (by omega)
    rw [h3, BitVec.toNat_ofNat, Nat.mod_eq_of_lt (show r < 2 ^ 64 by omega)]
    rfl
  apply Int32.toInt_inj.mp
  rw [cy_lo, e4, nI_toInt (by have := Nat.mod_lt (n / 2 ^ r) (show 0 < 2147483648 by decide); omega)]
  rw [Int.natCast_emod, Int.natCast_ediv, Int.natCast_pow]
  rfl
