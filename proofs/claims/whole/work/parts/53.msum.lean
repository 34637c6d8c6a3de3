/-! The reference's sumWith: the row and another register, added or taken away -/
theorem nb_lt {f g : Nat → Int32} (hf : isb f) (hg : isb g) {k : Nat} (hk : k < 1024) (h : ∀ i, k < i → i < 1024 → f i = g i) (hd : f k ≠ g k) : (f k ≤ g k → rv f < rv g) ∧ (¬ f k ≤ g k → rv g < rv f) := by
  have e1 : ∀ F : Nat → Int32, isb F → rv F = dv 2 (xd F) k + 2 ^ k * (xd F k + 2 * (rv F / 2 ^ (k + 1))) := by
    intro F hF
    have h1 := Nat.div_add_mod (rv F) (2 ^ k)
    have h2 := rv_bit hF hk
    have h3 : rv F / 2 ^ (k + 1) = rv F / 2 ^ k / 2 := by rw [Nat.pow_succ, Nat.div_div_eq_div_mul]
    rw [rv_mod hF (by omega)] at h1
    rw [h3, ← h2]
    have h4 : rv F / 2 ^ k % 2 + 2 * (rv F / 2 ^ k / 2) = rv F / 2 ^ k := by omega
    rw [h4]
    omega
  have e2 : rv f / 2 ^ (k + 1) = rv g / 2 ^ (k + 1) := by
    rw [rv_def, rv_def, dv_div (by decide) (by omega) (fun i hi => xd_b hf hi), dv_div (by decide) (by omega) (fun i hi => xd_b hg hi)]
    refine dv_congr (fun i hi => ?_)
    unfold xd
    rw [h _ (by omega) (by omega)]
  have hf2 := e1 f hf
  have hg2 := e1 g hg
  rw [e2] at hf2
  have l1 : dv 2 (xd f) k < 2 ^ k := dv_lt (fun i hi => xd_b hf (by omega))
  have l2 : dv 2 (xd g) k < 2 ^ k := dv_lt (fun i hi => xd_b hg (by omega))
  rw [Nat.mul_add] at hf2 hg2
  have hxf : f k = nI (xd f k) := xd_n hf hk
  have hxg : g k = nI (xd g k) := xd_n hg hk
  rcases hf k hk with a | a <;> rcases hg k hk with b | b
  · exact absurd (a.trans b.symm) hd
  · have x1 : xd f k = 0 := by unfold xd; rw [a]; rfl
    have x2 : xd g k = 1 := by unfold xd; rw [b]; rfl
    rw [x1] at hf2
    rw [x2] at hg2
    rw [a, b]
    exact ⟨fun _ => by omega, fun h9 => absurd (by decide) h9⟩
  · have x1 : xd f k = 1 := by unfold xd; rw [a]; rfl
    have x2 : xd g k = 0 := by unfold xd; rw [b]; rfl
    rw [x1] at hf2
    rw [x2] at hg2
    rw [a, b]
    exact ⟨fun h9 => absurd h9 (by decide), fun _ => by omega⟩
  · exact absurd (a.trans b.symm) hd
theorem rv_eq {f g : Nat → Int32} (h : ∀ i, i < 1024 → f i = g i) : rv f = rv g := by
  rw [rv_def, rv_def]
  exact dv_congr (fun i hi => by unfold xd; rw [h i hi])
/-- -1, 0 or 1 as a is below, the same as or above b -/
def cmp3 (a b : Nat) : Int32 := if a < b then -1 else if a = b then 0 else 1
theorem cr_loop (k : Nat) : ∀ (N : Nat) (ms : rm_S), k < N → k ≤ 1024 → isb (ms 6) → isb (ms 7) → (∀ i, k ≤ i → i < 1024 → ms 6 i = ms 7 i) → RM_compareRows_4 N (nI k - (1 : Int32)) ms = some (cmp3 (rv (ms 6)) (rv (ms 7))) := by
  induction k with
  | zero =>
    intro N ms hN hk h6 h7 hz
    obtain ⟨N, rfl⟩ : ∃ M, N = M + 1 := ⟨N - 1, by omega⟩
    have he : rv (ms 6) = rv (ms 7) := rv_eq (fun i hi => hz i (Nat.zero_le _) hi)
    rw [RM_compareRows_4, if_pos (by decide), he]
    unfold cmp3
    rw [if_neg (Nat.lt_irrefl _), if_pos rfl]
  | succ k ih =>
    intro N ms hN hk h6 h7 hz
    obtain ⟨N, rfl⟩ : ∃ M, N = M + 1 := ⟨N - 1, by omega⟩
    have ho : ob_in (nI k) 1024 = true := ob_nI (by omega) (by decide)
    have hc : (nI k).toNatClampNeg = k := nI_clamp (by omega)
    have hn : ¬ nI k < 0 := nI_pos (by omega)
    rw [sub1, RM_compareRows_4, if_neg hn, if_pos ho, if_pos ho, hc]
    by_cases h0 : ms 6 k = ms 7 k
    · rw [if_pos h0, nm_e0, show nI k + (-1 : Int32) = nI k - (1 : Int32) from (Int32.sub_eq_add_neg _ _).symm]
      exact ih N ms (by omega) (by omega) h6 h7 (fun i h1 h2 => by
        by_cases e : i = k
        · rw [e]; exact h0
        · exact hz i (by omega) h2)
    · have hlt := nb_lt h6 h7 (show k < 1024 by omega) (fun i h1 h2 => hz i (by omega) h2) h0
      rw [if_neg h0, if_pos ho, if_pos ho]
      unfold cmp3
      by_cases h1 : ms 6 k ≤ ms 7 k
      · rw [if_pos h1, if_pos (hlt.1 h1)]
      · have h2 := hlt.2 h1
        rw [if_neg h1, if_neg (by omega), if_neg (by omega)]
theorem rm_cmpRows {ms : rm_S} (h6 : isb (ms 6)) (h7 : isb (ms 7)) : RM_compareRows ms = some (cmp3 (rv (ms 6)) (rv (ms 7))) := by
  unfold RM_compareRows
  have h := cr_loop 1024 2000 ms (by omega) (by omega) h6 h7 (fun i h1 h2 => by omega)
  rw [show nI 1024 - (1 : Int32) = 1023 from by decide] at h
  exact h
-- sums with signs
def pz (g : Nat → Int) : Nat → Int
  | 0 => 0
  | n + 1 => pz g n + g n * 2 ^ n
theorem pz_dv {a b : Nat → Nat} {x y : Int} (n : Nat) : pz (fun i => x * a i + y * b i) n = x * dv 2 a n + y * dv 2 b n := by
  induction n with
  | zero => simp [pz, dv]
  | succ n ih =>
    have e : ((2 ^ n : Nat) : Int) = 2 ^ n := Int.natCast_pow 2 n
    rw [pz, ih, dv, dv, Int.natCast_add, Int.natCast_add, Int.natCast_mul, Int.natCast_mul, e, Int.mul_add, Int.mul_add, Int.add_mul, ← Int.mul_assoc, ← Int.mul_assoc]
    omega
theorem i_and1 (x : Int32) : x &&& (1 : Int32) = nI (x.toInt % 2).toNat := by
  have h1 : (x &&& (1 : Int32)) = nI (x.toBitVec.toNat % 2 ^ 1) := pk_and x (m := 1) 1 (by decide)
  rw [h1]
  congr 1
  have h3 : x.toInt = x.toBitVec.toInt := rfl
  rw [h3, BitVec.toInt_eq_toNat_bmod, Int.bmod_def]
  have h4 := x.toBitVec.isLt
  split <;> omega
theorem i_shr1 (x : Int32) : (x >>> ((1 : Int32) &&& 31)).toInt = x.toInt / 2 := by
  rw [pk_shr x ((1 : Int32) &&& 31) 1 (by decide), Int.shiftRight_eq_div_pow]
  rfl
/-- what is added at place k: by the flag 'which' -/
def wg (w : Int32) (a b : Nat → Int32) (k : Nat) : Int := if w = 2 then (a k).toInt + (b k).toInt else if w < 0 then (b k).toInt - (a k).toInt else (a k).toInt - (b k).toInt
def wr (w L1 L3 : Int32) : Int32 := if w = 0 then 0 else if w = -1 then L3 else L1
theorem isb_int {f : Nat → Int32} (h : isb f) {k : Nat} (hk : k < 1024) : 0 ≤ (f k).toInt ∧ (f k).toInt ≤ 1 := by
  rcases h k hk with h | h <;> rw [h] <;> decide
theorem sw_loop (n : Nat) : ∀ (N k : Nat) (L1 L3 w c : Int32) (st : rm_S) (a : Nat → Int32), k + n = 1024 → n < N → isb a → isb (st 7) → (∀ i, k ≤ i → i < 1024 → st 6 i = a i) → c.toInt = pz (wg w a (st 7)) k / 2 ^ k → -2 ≤ c.toInt → c.toInt ≤ 2 →
    ∃ f, RM_sumWith_98 N L1 L3 w c (nI k) st = some (wr w L1 L3, rm_setr st 6 f) ∧ (∀ i, i < k → f i = st 6 i) ∧ (∀ i, k ≤ i → i < 1024 → f i = nI ((wg w a (st 7) i + pz (wg w a (st 7)) i / 2 ^ i) % 2).toNat) := by
  induction n with
  | zero =>
    intro N k L1 L3 w c st a hk hN ha h7 h6 hc hc1 hc2
    obtain ⟨N, rfl⟩ : ∃ M, N = M + 1 := ⟨N - 1, by omega⟩
    have hk : k = 1024 := by omega
    subst hk
    refine ⟨st 6, ?_, fun _ _ => rfl, fun i h1 h2 => by omega⟩
    rw [RM_sumWith_98, if_pos (by decide), rs_id]
    unfold wr
    by_cases h0 : w = 0
    · rw [if_pos h0, if_pos h0]
    · rw [if_neg h0, if_neg h0]
      by_cases h1 : w = -1
      · rw [if_pos h1, if_pos h1]
      · rw [if_neg h1, if_neg h1]
  | succ n ih =>
    intro N k L1 L3 w c st a hk hN ha h7 h6 hc hc1 hc2
    obtain ⟨N, rfl⟩ : ∃ M, N = M + 1 := ⟨N - 1, by omega⟩
    have hk2 : k < 1024 := by omega
    have ho : ob_in (nI k) 1024 = true := ob_nI hk2 (by decide)
    have hcl : (nI k).toNatClampNeg = k := nI_clamp (by omega)
    have ia := isb_int ha hk2
    have ib := isb_int h7 hk2
    have h6k := h6 k (Nat.le_refl _) hk2
    have hstep : ∃ x : Int32, x.toInt = wg w a (st 7) k + c.toInt ∧ RM_sumWith_98 (N + 1) L1 L3 w c (nI k) st = RM_sumWith_177 (RM_sumWith_98 N) L1 L3 w (nI k) x st := by
      rw [RM_sumWith_98, if_neg (ge1024 hk2)]
      unfold wg
      by_cases h2 : w = 2
      · refine ⟨st 6 k + st 7 k + c, ?_, by rw [if_pos h2, if_pos ho, if_pos ho, hcl]⟩
        have e1 : (st 6 k + st 7 k).toInt = (a k).toInt + (st 7 k).toInt := by rw [h6k, ar_add (by omega) (by omega)]
        rw [if_pos h2, ar_add (by omega) (by omega), e1]
      · by_cases h3 : w < 0
        · refine ⟨st 7 k - st 6 k + c, ?_, by rw [if_neg h2, if_pos h3, if_pos ho, if_pos ho, hcl]⟩
          have e1 : (st 7 k - st 6 k).toInt = (st 7 k).toInt - (a k).toInt := by rw [h6k, ar_sub (by omega) (by omega)]
          rw [if_neg h2, if_pos h3, ar_add (by omega) (by omega), e1]
        · refine ⟨st 6 k - st 7 k + c, ?_, by rw [if_neg h2, if_neg h3, if_pos ho, if_pos ho, hcl]⟩
          have e1 : (st 6 k - st 7 k).toInt = (a k).toInt - (st 7 k).toInt := by rw [h6k, ar_sub (by omega) (by omega)]
          rw [if_neg h2, if_neg h3, ar_add (by omega) (by omega), e1]
    obtain ⟨x, hx, hst⟩ := hstep
    have hwg : -1 ≤ wg w a (st 7) k ∧ wg w a (st 7) k ≤ 2 := by
      unfold wg
      split
      · omega
      · split <;> omega
    have hpz : pz (wg w a (st 7)) (k + 1) / 2 ^ (k + 1) = x.toInt / 2 := by
      have hp : (0 : Int) < 2 ^ k := Int.pow_pos (by decide)
      rw [pz, Int.pow_succ, ← Int.ediv_ediv_of_nonneg (Int.le_of_lt hp), Int.add_mul_ediv_right _ _ (Int.ne_of_gt hp), ← hc, hx, Int.add_comm]
    obtain ⟨f, a1, a2, a3⟩ := ih N (k + 1) L1 L3 w (x >>> ((1 : Int32) &&& 31)) (rm_up st 6 k (nI (x.toInt % 2).toNat)) a (by omega) (by omega) ha (by rw [ru_rs, rs_ne (show 7 ≠ 6 by decide)]; exact h7) (fun i h1 h2 => by rw [ru_rs, rs_at, upd_ne (by omega)]; exact h6 i (by omega) h2) (by rw [i_shr1, ru_rs, rs_ne (show 7 ≠ 6 by decide), hpz]) (by rw [i_shr1]; omega) (by rw [i_shr1]; omega)
    refine ⟨f, ?_, fun i hi => ?_, fun i h1 h2 => ?_⟩
    · rw [hst]
      unfold RM_sumWith_177
      rw [if_pos ho, nm_e0, nm_e0, nm_e0, nI_1, hcl, i_and1, a1, ru_rs, rs_rs]
    · rw [a2 i (by omega), ru_rs, rs_at, upd_ne (by omega)]
    · by_cases e : i = k
      · subst e
        rw [a2 i (by omega), ru_rs, rs_at, upd_same, hx, hc]
      · rw [a3 i (by omega) h2, ru_rs, rs_ne (show 7 ≠ 6 by decide)]
/-- the bits that the loop leaves are those of the sum -/
theorem pz_bits {g : Nat → Int} {f : Nat → Int32} (hf : ∀ i, i < 1024 → f i = nI ((g i + pz g i / 2 ^ i) % 2).toNat) (h0 : 0 ≤ pz g 1024) (h1 : pz g 1024 < ((2 ^ 1024 : Nat) : Int)) : isb f ∧ (rv f : Int) = pz g 1024 := by
  have hb : isb f := fun k hk => by
    rw [hf k hk]
    rcases (show ((g k + pz g k / 2 ^ k) % 2).toNat = 0 ∨ ((g k + pz g k / 2 ^ k) % 2).toNat = 1 by omega) with h | h <;> rw [h]
    · exact Or.inl rfl
    · exact Or.inr rfl
  refine ⟨hb, ?_⟩
  have key : ∀ n, n ≤ 1024 → (dv 2 (xd f) n : Int) + pz g n / 2 ^ n * 2 ^ n = pz g n := by
    intro n
    induction n with
    | zero => intro _; simp [dv, pz]
    | succ n ih =>
      intro hn
      have h2 := ih (by omega)
      have hx : (xd f n : Int) = (g n + pz g n / 2 ^ n) % 2 := by
        rw [xd_nI (hf n (by omega)) (by omega)]
        omega
      have hp : (0 : Int) < 2 ^ n := Int.pow_pos (by decide)
      have hq : pz g (n + 1) / 2 ^ (n + 1) = (g n + pz g n / 2 ^ n) / 2 := by
        rw [pz, Int.pow_succ, ← Int.ediv_ediv_of_nonneg (Int.le_of_lt hp), Int.add_mul_ediv_right _ _ (Int.ne_of_gt hp), Int.add_comm]
      rw [hq, dv, Int.natCast_add, Int.natCast_mul, Int.natCast_pow, hx, pz, Int.pow_succ]
      have e : ((2 : Nat) : Int) = 2 := rfl
      rw [e]
      generalize (2 : Int) ^ n = P at *
      generalize pz g n / P = C at *
      have h3 : (g n + C) % 2 * P + (g n + C) / 2 * (P * 2) = (g n + C) * P := by
        have h4 : (g n + C) = (g n + C) % 2 + 2 * ((g n + C) / 2) := by omega
        have h5 : (g n + C) * P = ((g n + C) % 2 + 2 * ((g n + C) / 2)) * P := by rw [← h4]
        rw [h5, Int.add_mul]
        congr 1
        rw [Int.mul_comm P 2, ← Int.mul_assoc, Int.mul_comm ((g n + C) / 2) 2]
      rw [Int.add_mul] at h3
      omega
  have h2 := key 1024 (Nat.le_refl _)
  have h3 : pz g 1024 / 2 ^ 1024 = 0 := by
    apply Int.ediv_eq_zero_of_lt h0
    rw [Int.natCast_pow] at h1
    exact h1
  rw [h3, Int.zero_mul, Int.add_zero] at h2
  rw [rv_def]
  exact h2
