/-! The exact row as a whole number: 33 digits to the base 2^31; loops with a carry -/
abbrev B31 : Nat := 2147483648
def rn_setx (st : rn_S) (f : Nat → Int32) : rn_S := (st.1, st.2.1, st.2.2.1, st.2.2.2.1, st.2.2.2.2.1, f, st.2.2.2.2.2.2)
theorem sx_exs (st : rn_S) (j : Nat) (x : Int32) : rn_exs st j x = rn_setx st (upd (rn_ex st) j x) := rfl
theorem sx_ex (st : rn_S) (f : Nat → Int32) : rn_ex (rn_setx st f) = f := rfl
theorem sx_sx (st : rn_S) (f g : Nat → Int32) : rn_setx (rn_setx st f) g = rn_setx st g := rfl
theorem sx_id (st : rn_S) : rn_setx st (rn_ex st) = st := rfl
def ok33 (f : Nat → Int32) : Prop := ∀ i, i < 33 → 0 ≤ (f i).toInt
def xd (f : Nat → Int32) : Nat → Nat := fun i => (f i).toInt.toNat
def xv (f : Nat → Int32) : Nat := dv B31 (xd f) 33
theorem xd_lt {f : Nat → Int32} (i : Nat) : xd f i < B31 := by
  have h := ar_hi (f i)
  show (f i).toInt.toNat < 2147483648
  omega
theorem xd_int {f : Nat → Int32} (h : ok33 f) {i : Nat} (hi : i < 33) : ((xd f i : Nat) : Int) = (f i).toInt := by
  have := h i hi
  show (((f i).toInt.toNat : Nat) : Int) = (f i).toInt
  omega
theorem xv_lt (f : Nat → Int32) : xv f < B31 ^ 33 := dv_lt (fun i _ => xd_lt i)
theorem nI_of0 {x : Int32} (h : 0 ≤ x.toInt) : x = nI x.toInt.toNat := by
  apply Int32.toInt_inj.mp
  have h1 := ar_hi x
  rw [nI_toInt (by omega)]
  omega
theorem nI_xd {f : Nat → Int32} (h : ok33 f) {i : Nat} (hi : i < 33) : f i = nI (xd f i) := nI_of0 (h i hi)
-- a long's 31 low bits and what is above
theorem cy_lo (z : Int64) : (z.toInt32 &&& (2147483647 : Int32)).toInt = z.toInt % 2147483648 := by
  rw [pk_and z.toInt32 (m := 2147483647) 31 (by decide), nI_toInt (Nat.mod_lt _ (by decide))]
  have h1 : z.toInt32.toBitVec.toNat = z.toBitVec.toNat % 2 ^ 32 := by
    show (z.toBitVec.signExtend 32).toNat = _
    rw [BitVec.signExtend_eq_setWidth_of_le _ (by decide), BitVec.toNat_setWidth]
  rw [h1]
  have h2 : z.toInt = z.toBitVec.toInt := rfl
  rw [h2, BitVec.toInt_eq_toNat_bmod, Int.bmod_def]
  have h3 := z.toBitVec.isLt
  split <;> omega
theorem cy_hi (z : Int64) : (z >>> ((31 : Int32).toInt64 &&& 63)).toInt = z.toInt / 2147483648 := by
  have h1 : (z >>> ((31 : Int32).toInt64 &&& 63)).toInt = (z.toBitVec.sshiftRight 31).toInt := rfl
  rw [h1, BitVec.toInt_sshiftRight, Int.shiftRight_eq_div_pow]
  rfl
theorem cy_lo0 (z : Int64) : 0 ≤ (z.toInt32 &&& (2147483647 : Int32)).toInt := by
  rw [cy_lo]
  omega
-- sums of digits from a place on
def sz (g : Nat → Int) : Nat → Nat → Int
  | _, 0 => 0
  | k, n + 1 => g k * (B31 : Int) ^ k + sz g (k + 1) n
theorem sz_congr {g h : Nat → Int} {n : Nat} : ∀ {k : Nat}, (∀ i, k ≤ i → i < k + n → g i = h i) → sz g k n = sz h k n := by
  induction n with
  | zero => intro k _; rfl
  | succ n ih =>
    intro k hh
    rw [sz, sz, hh k (by omega) (by omega), ih (fun i h1 h2 => hh i (by omega) (by omega))]
theorem sz_dv {f : Nat → Nat} {n : Nat} : ∀ {k : Nat}, (dv B31 f (k + n) : Int) = dv B31 f k + sz (fun i => (f i : Int)) k n := by
  induction n with
  | zero => intro k; simp [sz]
  | succ n ih =>
    intro k
    have h1 := ih (k := k + 1)
    rw [show k + 1 + n = k + (n + 1) by omega] at h1
    rw [h1, sz, dv, Int.natCast_add, Int.natCast_mul, Int.natCast_pow]
    omega
theorem sz_xv {f : Nat → Int32} (h : ok33 f) {k n : Nat} (hk : k + n = 33) : (xv f : Int) = dv B31 (xd f) k + sz (fun i => (f i).toInt) k n := by
  have h1 := sz_dv (f := xd f) (n := n) (k := k)
  rw [hk] at h1
  have h2 : sz (fun i => ((xd f i : Nat) : Int)) k n = sz (fun i => (f i).toInt) k n := sz_congr (fun i h1 h2 => xd_int h (by omega))
  rw [← h2]
  exact h1
theorem cy_step {c d lo hi b : Int} (h1 : lo = (c + d) % 2147483648) (h2 : hi = (c + d) / 2147483648) : lo * b + hi * (b * 2147483648) = c * b + d * b := by
  have h3 : lo + 2147483648 * hi = c + d := by rw [h1, h2]; exact Int.emod_add_mul_ediv _ _
  have h4 : lo * b + hi * (b * 2147483648) = (lo + 2147483648 * hi) * b := by
    rw [Int.add_mul, Int.mul_comm b, ← Int.mul_assoc, Int.mul_comm hi]
  rw [h4, h3, Int.add_mul]
