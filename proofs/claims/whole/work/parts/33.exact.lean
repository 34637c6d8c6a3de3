/-! clear, addPower, gather, turnSign of the exact row, as whole numbers -/
theorem sz_add {g h : Nat → Int} {n : Nat} : ∀ {k : Nat}, sz (fun i => g i + h i) k n = sz g k n + sz h k n := by
  induction n with
  | zero => intro k; rfl
  | succ n ih =>
    intro k
    rw [sz, sz, sz, ih, Int.add_mul]
    omega
theorem sz_mul {g : Nat → Int} {a : Int} {n : Nat} : ∀ {k : Nat}, sz (fun i => a * g i) k n = a * sz g k n := by
  induction n with
  | zero => intro k; simp [sz]
  | succ n ih =>
    intro k
    rw [sz, sz, ih, Int.mul_add, Int.mul_assoc]
theorem sz_neg {g : Nat → Int} {n : Nat} : ∀ {k : Nat}, sz (fun i => -g i) k n = -sz g k n := by
  induction n with
  | zero => intro k; simp [sz]
  | succ n ih =>
    intro k
    rw [sz, sz, ih, Int.neg_mul]
    omega
theorem sz_shift {h : Nat → Int} {q n : Nat} : ∀ {j : Nat}, sz (fun i => h (i - q)) (q + j) n = (B31 : Int) ^ q * sz h j n := by
  induction n with
  | zero => intro j; simp [sz]
  | succ n ih =>
    intro j
    have h1 := ih (j := j + 1)
    rw [← Nat.add_assoc] at h1
    rw [sz, sz, h1, Nat.add_sub_cancel_left, Int.pow_add, Int.mul_add]
    congr 1
    rw [Int.mul_left_comm]
theorem sz_app {h : Nat → Int} {n m : Nat} : ∀ {k : Nat}, sz h k (n + m) = sz h k n + sz h (k + n) m := by
  induction n with
  | zero => intro k; simp [sz]
  | succ n ih =>
    intro k
    rw [show n + 1 + m = (n + m) + 1 by omega, sz, sz, ih, show k + 1 + n = k + (n + 1) by omega]
    omega
theorem sz_zero {h : Nat → Int} {n : Nat} : ∀ {k : Nat}, (∀ i, k ≤ i → i < k + n → h i = 0) → sz h k n = 0 := by
  induction n with
  | zero => intro k _; rfl
  | succ n ih =>
    intro k hh
    rw [sz, hh k (by omega) (by omega), ih (fun i h1 h2 => hh i (by omega) (by omega))]
    simp
theorem sz_dv0 {f : Nat → Nat} {n : Nat} : sz (fun i => (f i : Int)) 0 n = dv B31 f n := by
  have h := sz_dv (f := f) (n := n) (k := 0)
  rw [Nat.zero_add] at h
  rw [h]
  simp [dv]
theorem modz {a b co M : Int} (ha : 0 ≤ a) (ha2 : a < M) (hb : 0 ≤ b) (hb2 : b < M) (h : a + co * M = b) : a = b := by
  have h1 : (a + co * M) % M = a % M := Int.add_mul_emod_self_right a co M
  rw [h, Int.emod_eq_of_lt hb hb2, Int.emod_eq_of_lt ha ha2] at h1
  exact h1.symm
theorem pw31 (pl : Nat) : (2 : Int) ^ pl = (2 : Int) ^ (pl % 31) * (B31 : Int) ^ (pl / 31) := by
  have h : (2 : Int) ^ pl = (2 : Int) ^ (pl % 31 + 31 * (pl / 31)) := by rw [Nat.mod_add_div]
  rw [h, Int.pow_add, Int.pow_mul]
  rfl
-- places of weights
theorem pl_sub {w : Int32} {pl : Nat} (h : w.toInt + 589 = pl) (hp : pl < 2000) : w - (-589 : Int32) = nI pl := by
  apply Int32.toInt_inj.mp
  have e : (-589 : Int32).toInt = -589 := rfl
  rw [ar_sub (by omega) (by omega), nI_toInt (by omega), e]
  omega
theorem pl_div {pl : Nat} (hp : pl < 2000) : nI pl / (31 : Int32) = nI (pl / 31) := pk_div (by omega) (by decide) (by decide)
theorem pl_rem {pl : Nat} (hp : pl < 2000) : nI pl - nI pl / (31 : Int32) * (31 : Int32) = nI (pl % 31) := pk_rem (by omega) (by decide) (by decide)
theorem pl_rem2 {pl : Nat} (hp : pl < 2000) : nI pl - nI (pl / 31) * (31 : Int32) = nI (pl % 31) := by rw [← pl_div hp]; exact pl_rem hp
theorem sh_pos : ∀ c, c < 31 → ((1 : Int32).toInt64 <<< ((nI c).toInt64 &&& 63)).toInt = 2 ^ c := by decide +kernel
theorem sh_neg : ∀ c, c < 31 → ((-1 : Int32).toInt64 <<< ((nI c).toInt64 &&& 63)).toInt = -2 ^ c := by decide +kernel
theorem sh_sg {s : Int32} (hs : s = 1 ∨ s = -1) {c : Nat} (hc : c < 31) : (s.toInt64 <<< ((nI c).toInt64 &&& 63)).toInt = s.toInt * 2 ^ c := by
  rcases hs with rfl | rfl
  · rw [sh_pos c hc, show (1 : Int32).toInt = 1 from rfl, Int.one_mul]
  · rw [sh_neg c hc, show (-1 : Int32).toInt = -1 from rfl, Int.neg_one_mul]
theorem p2i_le {c : Nat} (hc : c < 31) : (1 : Int) ≤ 2 ^ c ∧ (2 : Int) ^ c ≤ 1073741824 := by
  have h1 : 2 ^ c ≤ 2 ^ 30 := p2_le (by omega)
  have h2 := p2_pos c
  have h3 : ((2 ^ c : Nat) : Int) = 2 ^ c := Int.natCast_pow 2 c
  omega
theorem sg_b {s : Int32} (hs : s = 1 ∨ s = -1) {c : Nat} (hc : c < 31) : -1073741824 ≤ s.toInt * 2 ^ c ∧ s.toInt * 2 ^ c ≤ 1073741824 := by
  have h := p2i_le hc
  rcases hs with rfl | rfl
  · rw [show (1 : Int32).toInt = 1 from rfl]; omega
  · rw [show (-1 : Int32).toInt = -1 from rfl]; omega
theorem mx0 (q : Nat) (hq : q < 2147483648) : (if (0 : Int32) < nI q then nI q else 0) = nI q := by
  rcases Nat.eq_zero_or_pos q with h | h
  · subst h; rfl
  · rw [if_pos]
    rw [show (0 : Int32) = nI 0 from rfl, nI_ltI (by decide) (by omega)]
    exact h
theorem ex_addPower {st : rn_S} (hok : ok33 (rn_ex st)) {w s : Int32} {pl : Nat} (hw : w.toInt + 589 = pl) (hp : pl < 1023) (hs : s = 1 ∨ s = -1) :
    ∃ f, RE_addPower st w s = rn_setx st f ∧ ok33 f ∧ ∃ co : Int, (xv f : Int) + co * (B31 : Int) ^ 33 = xv (rn_ex st) + s.toInt * 2 ^ pl := by
  have hr : pl % 31 < 31 := Nat.mod_lt _ (by decide)
  have hq : pl / 31 < 33 := by omega
  unfold RE_addPower
  simp only [nm, pl_sub hw (by omega), pl_div (show pl < 2000 by omega), pl_rem2 (show pl < 2000 by omega), mx0 (pl / 31) (by omega)]
  have hb := sg_b hs hr
  have hc := sh_sg hs hr
  obtain ⟨f, co, e1, e2, e3, e4⟩ := ap_loop (33 - pl / 31) 34 (pl / 31) (s.toInt64 <<< ((nI (pl % 31)).toInt64 &&& 63)) st (by omega) (by omega) hok (by omega) (by omega)
  refine ⟨f, e1, e2, co, ?_⟩
  have h1 := sz_xv e2 (k := pl / 31) (n := 33 - pl / 31) (by omega)
  have h2 := sz_xv hok (k := pl / 31) (n := 33 - pl / 31) (by omega)
  have h3 : dv B31 (xd f) (pl / 31) = dv B31 (xd (rn_ex st)) (pl / 31) := dv_congr (fun i hi => by unfold xd; rw [e3 i hi])
  rw [hc, Int.mul_assoc, ← pw31] at e4
  rw [h1, h2, h3]
  omega
/-- the limbs of a value, as a whole number -/
def lv_n (st : rn_S) (v : Nat) : Nat := dv B31 (fun i => (rn_lb st v i).toInt.toNat) (rn_len v)
theorem sz_ga {st : rn_S} {v q n : Nat} (hv : ∀ i, i < rn_len v → 0 ≤ (rn_lb st v i).toInt) (hn : rn_len v ≤ n) : sz (ga_l st v q) q n = (B31 : Int) ^ q * lv_n st v := by
  have h1 : sz (ga_l st v q) q n = (B31 : Int) ^ q * sz (fun i => if rn_len v ≤ i then 0 else (rn_lb st v i).toInt) 0 n := sz_shift (h := fun i => if rn_len v ≤ i then 0 else (rn_lb st v i).toInt) (q := q) (n := n) (j := 0)
  obtain ⟨d, rfl⟩ := Nat.exists_eq_add_of_le hn
  rw [h1, sz_app, sz_zero (n := d) (fun i h2 _ => if_pos (by omega)), Int.add_zero]
  congr 1
  rw [lv_n, ← sz_dv0]
  refine sz_congr (fun i _ h2 => ?_)
  have h3 : i < rn_len v := by omega
  have h4 := hv i h3
  rw [if_neg (by omega)]
  omega
theorem ex_gather {st : rn_S} (hok : ok33 (rn_ex st)) {v : Nat} (hv : ∀ i, i < rn_len v → 0 ≤ (rn_lb st v i).toInt) (hk : rn_kd st v = 3) {s : Int32} {pl : Nat} (hw : (rn_lw st v).toInt + 589 = pl) (hp : pl / 31 + rn_len v ≤ 33) (hs : s = 1 ∨ s = -1) :
    ∃ f, RE_gather st v s = rn_setx st f ∧ ok33 f ∧ ∃ co : Int, (xv f : Int) + co * (B31 : Int) ^ 33 = xv (rn_ex st) + s.toInt * (lv_n st v * 2 ^ pl) := by
  have hr : pl % 31 < 31 := Nat.mod_lt _ (by decide)
  have hl := nk_len v
  have hp2 : pl < 2000 := by omega
  unfold RE_gather
  rw [if_pos hk]
  simp only [nm, pl_sub hw (by omega), pl_div hp2, pl_rem2 hp2, mx0 (pl / 31) (by omega)]
  have hb := sg_b hs hr
  have hc := sh_sg hs hr
  obtain ⟨f, co, e1, e2, e3, e4⟩ := ga_loop (33 - pl / 31) 34 (pl / 31) v (pl / 31) (s.toInt64 <<< ((nI (pl % 31)).toInt64 &&& 63)) 0 st (by omega) (by omega) (Nat.le_refl _) hok hv (by omega) (by omega) (by decide) (by decide)
  refine ⟨f, e1, e2, co, ?_⟩
  have h1 := sz_xv e2 (k := pl / 31) (n := 33 - pl / 31) (by omega)
  have h2 := sz_xv hok (k := pl / 31) (n := 33 - pl / 31) (by omega)
  have h3 : dv B31 (xd f) (pl / 31) = dv B31 (xd (rn_ex st)) (pl / 31) := dv_congr (fun i hi => by unfold xd; rw [e3 i hi])
  rw [hc, sz_add, sz_mul, sz_ga hv (by omega), show (0 : Int64).toInt = 0 from rfl, Int.zero_mul] at e4
  have h5 : s.toInt * 2 ^ (pl % 31) * ((B31 : Int) ^ (pl / 31) * (lv_n st v : Int)) = s.toInt * ((lv_n st v : Int) * 2 ^ pl) := by
    rw [pw31 pl, Int.mul_assoc, ← Int.mul_assoc (2 ^ (pl % 31)), Int.mul_comm (2 ^ (pl % 31) * _)]
  rw [h5] at e4
  rw [h1, h2, h3]
  omega
theorem ex_turn {st : rn_S} (hok : ok33 (rn_ex st)) : ∃ f, RE_turnSign st = rn_setx st f ∧ ok33 f ∧ ∃ co : Int, (xv f : Int) + co * (B31 : Int) ^ 33 = -(xv (rn_ex st) : Int) := by
  unfold RE_turnSign
  obtain ⟨f, co, e1, e2, e3, e4⟩ := ts_loop 33 34 0 0 st (by omega) (by omega) hok (by decide) (by decide)
  refine ⟨f, e1, e2, co, ?_⟩
  have h1 := sz_xv e2 (k := 0) (n := 33) (by omega)
  have h2 := sz_xv hok (k := 0) (n := 33) (by omega)
  rw [sz_neg, show (0 : Int64).toInt = 0 from rfl, Int.zero_mul] at e4
  rw [show dv B31 (xd f) 0 = 0 from rfl] at h1
  rw [show dv B31 (xd (rn_ex st)) 0 = 0 from rfl] at h2
  omega
theorem fx_loop (n : Nat) : ∀ (N k : Nat) (st : rn_S), k + n = 33 → n < N → (∀ j, j < k → rn_ex st j = 0) → ∃ f, JA_fill_exl_5 N 0 (nI k) 33 st = rn_setx st f ∧ ∀ j, j < 33 → f j = 0 := by
  induction n with
  | zero =>
    intro N k st hk hN h
    obtain ⟨N, rfl⟩ : ∃ M, N = M + 1 := ⟨N - 1, by omega⟩
    have hk : k = 33 := by omega
    subst hk
    exact ⟨rn_ex st, by rw [JA_fill_exl_5, if_pos (by decide), sx_id], h⟩
  | succ n ih =>
    intro N k st hk hN h
    obtain ⟨N, rfl⟩ : ∃ M, N = M + 1 := ⟨N - 1, by omega⟩
    have hk33 : k < 33 := by omega
    rw [JA_fill_exl_5, if_neg (ge33 hk33)]
    simp only [nm, nI_clamp (show k < 2 ^ 31 by omega), nI_1]
    obtain ⟨f, e1, e2⟩ := ih N (k + 1) (rn_exs st k 0) (by omega) (by omega) (fun j hj => by
      rw [sx_exs, sx_ex]
      by_cases e : j = k
      · subst e; rw [upd_same]
      · rw [upd_ne e]; exact h j (by omega))
    exact ⟨f, by rw [e1, sx_exs, sx_sx], e2⟩
theorem ex_clear (st : rn_S) : ∃ f, RE_clear st = rn_setx st f ∧ ok33 f ∧ xv f = 0 := by
  unfold RE_clear JA_fill_exl
  simp only [nm]
  obtain ⟨f, e1, e2⟩ := fx_loop 33 34 0 st (by omega) (by omega) (fun j hj => absurd hj (Nat.not_lt_zero _))
  refine ⟨f, e1, fun i hi => by rw [e2 i hi]; decide, dv_zero (fun i hi => by unfold xd; rw [e2 i hi]; rfl)⟩
