/-! Whole numbers by their digits to a base -/
def dv (B : Nat) (f : Nat → Nat) : Nat → Nat
  | 0 => 0
  | n + 1 => dv B f n + f n * B ^ n
theorem dv_congr {B : Nat} {f g : Nat → Nat} {n : Nat} (h : ∀ i, i < n → f i = g i) : dv B f n = dv B g n := by
  induction n with
  | zero => rfl
  | succ n ih => rw [dv, dv, ih (fun i hi => h i (by omega)), h n (by omega)]
theorem dv_lt {B : Nat} {f : Nat → Nat} {n : Nat} (h : ∀ i, i < n → f i < B) : dv B f n < B ^ n := by
  induction n with
  | zero => exact Nat.one_pos
  | succ n ih =>
    have h1 := ih (fun i hi => h i (by omega))
    have h2 := h n (by omega)
    have h3 : f n * B ^ n ≤ (B - 1) * B ^ n := Nat.mul_le_mul_right _ (by omega)
    have h4 : (B - 1) * B ^ n + B ^ n = B ^ (n + 1) := by
      rw [Nat.pow_succ, Nat.mul_comm (B ^ n) B, ← Nat.succ_mul]
      congr 1
      omega
    rw [dv]
    omega
theorem dv_split {B : Nat} {f : Nat → Nat} (k n : Nat) : dv B f (k + n) = dv B f k + B ^ k * dv B (fun i => f (k + i)) n := by
  induction n with
  | zero => simp [dv]
  | succ n ih =>
    rw [← Nat.add_assoc, dv, dv, ih, Nat.mul_add, Nat.pow_add]
    rw [Nat.mul_left_comm (B ^ k), Nat.mul_comm (B ^ k) (B ^ n), Nat.add_assoc]
theorem dv_mod {B : Nat} {f : Nat → Nat} {k n : Nat} (hk : k ≤ n) (h : ∀ i, i < n → f i < B) : dv B f n % B ^ k = dv B f k := by
  obtain ⟨m, rfl⟩ := Nat.exists_eq_add_of_le hk
  rw [dv_split, Nat.add_mul_mod_self_left, Nat.mod_eq_of_lt (dv_lt (fun i hi => h i (by omega)))]
theorem dv_div {B : Nat} {f : Nat → Nat} {k n : Nat} (hB : 0 < B) (hk : k ≤ n) (h : ∀ i, i < n → f i < B) : dv B f n / B ^ k = dv B (fun i => f (k + i)) (n - k) := by
  obtain ⟨m, rfl⟩ := Nat.exists_eq_add_of_le hk
  rw [dv_split, Nat.add_mul_div_left _ _ (Nat.pow_pos hB), Nat.div_eq_of_lt (dv_lt (fun i hi => h i (by omega))), Nat.zero_add, Nat.add_sub_cancel_left]
theorem dv_one {B : Nat} {f : Nat → Nat} : dv B f 1 = f 0 := by simp [dv]
theorem dv_digit {B : Nat} {f : Nat → Nat} {k n : Nat} (hB : 0 < B) (hk : k < n) (h : ∀ i, i < n → f i < B) : dv B f n / B ^ k % B = f k := by
  rw [dv_div hB (by omega) h]
  have h2 := dv_mod (B := B) (f := fun i => f (k + i)) (k := 1) (n := n - k) (by omega) (fun i hi => h _ (by omega))
  rw [Nat.pow_one, dv_one] at h2
  exact h2
theorem dv_zero {B : Nat} {f : Nat → Nat} {n : Nat} (h : ∀ i, i < n → f i = 0) : dv B f n = 0 := by
  induction n with
  | zero => rfl
  | succ n ih => rw [dv, ih (fun i hi => h i (by omega)), h n (by omega), Nat.zero_mul]
theorem dv_zero_iff {B : Nat} {f : Nat → Nat} {n : Nat} (hB : 0 < B) : dv B f n = 0 ↔ ∀ i, i < n → f i = 0 := by
  refine ⟨fun h => ?_, dv_zero⟩
  induction n with
  | zero => exact fun i hi => absurd hi (Nat.not_lt_zero _)
  | succ n ih =>
    rw [dv] at h
    have h1 : dv B f n = 0 := by omega
    have h2 : f n * B ^ n = 0 := by omega
    have h3 : f n = 0 := by
      rcases Nat.mul_eq_zero.mp h2 with h4 | h4
      · exact h4
      · exact absurd h4 (Nat.ne_of_gt (Nat.pow_pos hB))
    intro i hi
    by_cases hin : i = n
    · subst hin; exact h3
    · exact ih h1 i (by omega)
theorem dv_le {B : Nat} {f : Nat → Nat} {k n : Nat} (hk : k < n) : f k * B ^ k ≤ dv B f n := by
  obtain ⟨m, rfl⟩ := Nat.exists_eq_add_of_le (show k + 1 ≤ n by omega)
  rw [dv_split, dv]
  omega
/-- the same number from two rows of digits: the digits are the same -/
theorem dv_inj {B : Nat} {f g : Nat → Nat} {n : Nat} (hB : 0 < B) (hf : ∀ i, i < n → f i < B) (hg : ∀ i, i < n → g i < B) (h : dv B f n = dv B g n) : ∀ i, i < n → f i = g i := fun i hi => by
  rw [← dv_digit hB hi hf, ← dv_digit hB hi hg, h]
/-- powers of 2 -/
theorem p2_pos (k : Nat) : 0 < 2 ^ k := Nat.pow_pos (by decide)
theorem p2_le {a b : Nat} (h : a ≤ b) : 2 ^ a ≤ 2 ^ b := Nat.pow_le_pow_right (by decide) h
theorem p2_lt {a b : Nat} (h : a < b) : 2 ^ a < 2 ^ b := Nat.pow_lt_pow_right (by decide) h
/-- the highest bit: its place is one -/
def hb_at (V h : Nat) : Prop := 2 ^ h ≤ V ∧ V < 2 ^ (h + 1)
theorem hb_one {V h k : Nat} (h1 : hb_at V h) (h2 : hb_at V k) : h = k := by
  rcases Nat.lt_trichotomy h k with h3 | h3 | h3
  · have := p2_le (show h + 1 ≤ k from h3)
    have a1 := h1.2
    have a2 := h2.1
    omega
  · exact h3
  · have := p2_le (show k + 1 ≤ h from h3)
    have a1 := h2.2
    have a2 := h1.1
    omega
theorem hb_ex {V : Nat} (h : 0 < V) : ∃ h, hb_at V h := ⟨V.log2, Nat.log2_self_le (by omega), Nat.lt_log2_self⟩
theorem hb_mul {V h k : Nat} (h1 : hb_at V h) : hb_at (V * 2 ^ k) (h + k) := by
  refine ⟨?_, ?_⟩
  · rw [Nat.pow_add]
    exact Nat.mul_le_mul_right _ h1.1
  · rw [show h + k + 1 = (h + 1) + k by omega, Nat.pow_add]
    exact Nat.mul_lt_mul_of_pos_right h1.2 (p2_pos k)
theorem hb_div {V h k : Nat} (h1 : hb_at V h) (hk : k ≤ h) : hb_at (V / 2 ^ k) (h - k) := by
  refine ⟨?_, ?_⟩
  · rw [Nat.le_div_iff_mul_le (p2_pos k), ← Nat.pow_add, Nat.sub_add_cancel hk]
    exact h1.1
  · rw [Nat.div_lt_iff_lt_mul (p2_pos k), ← Nat.pow_add, show h - k + 1 + k = h + 1 by omega]
    exact h1.2
