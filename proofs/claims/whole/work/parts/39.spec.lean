/-! The rounding that both sides do: p the precision, h the weight of the highest bit, q the p + 1 highest bits, m whether there is more below -/
def sp_gr (mode s : Int32) : Bool := mode == 4 || (mode == 2 && s == 1) || (mode == 3 && s == -1)
def sp_odd (p : Nat) (h : Int) (q : Nat) : Bool := if p = 1 then (h + 1) % 2 != 0 else q / 2 % 2 == 1
def sp_ix (q : Nat) (m : Bool) : Bool := q % 2 == 1 || m
def sp_up (p : Nat) (mode s : Int32) (h : Int) (q : Nat) (m : Bool) : Bool := sp_ix q m && (if mode = 0 then (q % 2 == 1 && (m || sp_odd p h q)) else sp_gr mode s)
def sp_N (p : Nat) (mode s : Int32) (h : Int) (q : Nat) (m : Bool) : Nat := q / 2 + (sp_up p mode s h q m).toNat
def sp_e (p : Nat) (mode s : Int32) (h : Int) (q : Nat) (m : Bool) : Int := if sp_N p mode s h q m = 2 ^ p then h + 2 else h + 1
def sp_small (p : Nat) (h : Int) (q : Nat) (m : Bool) : Bool := decide (h < -202) || (decide (h = -202) && (decide (q = 2 ^ p) && !m))
def sp_zero (p : Nat) (mode s : Int32) (h : Int) (q : Nat) (m : Bool) : Bool := if mode = 0 then sp_small p h q m else !(sp_gr mode s)
/-- kind, size (93 bits), exponent, order -/
def sp (p : Nat) (mode s : Int32) (h : Int) (q : Nat) (m : Bool) : Int32 × Nat × Int × Int32 :=
  if 200 < sp_e p mode s h q m then (if mode = 0 ∨ sp_gr mode s = true then (1, 0, 0, s) else (3, (2 ^ p - 1) * 2 ^ (93 - p), 200, -s))
  else if sp_e p mode s h q m < -200 then (if sp_zero p mode s h q m = true then (2, 0, 0, -s) else (3, 2 ^ 92, -200, s))
  else (3, (if sp_N p mode s h q m = 2 ^ p then 2 ^ 92 else sp_N p mode s h q m * 2 ^ (93 - p)), sp_e p mode s h q m, if sp_ix q m = true then (if sp_up p mode s h q m = true then s else -s) else 0)
/-- register v of the class gets a value, and nothing else of the registers changes -/
def put_c (st t : rn_S) (v : Nat) (k s : Int32) (e : Int) (X : Nat) : Prop :=
  rn_pr t = rn_pr st ∧ rn_kd t = upd (rn_kd st) v k ∧ rn_sg t = upd (rn_sg st) v s ∧ (∀ w, w ≠ v → rn_lw t w = rn_lw st w ∧ rn_lb t w = rn_lb st w) ∧
  (k = 3 → (rn_lw t v).toInt + 93 = e ∧ (∀ i, i < 3 → 0 ≤ (rn_lb t v i).toInt) ∧ dv B31 (fun i => (rn_lb t v i).toInt.toNat) 3 = X)
def ismode (mode : Int32) : Prop := mode = 0 ∨ mode = 1 ∨ mode = 2 ∨ mode = 3 ∨ mode = 4
def issign (s : Int32) : Prop := s = 1 ∨ s = -1
theorem mo_4 {mode s : Int32} (hm : ismode mode) (hs : issign s) : (RN_modeOnSize mode s = 4) ↔ sp_gr mode s = true := by
  rcases hm with h | h | h | h | h <;> rcases hs with h2 | h2 <;> subst h <;> subst h2 <;> decide
theorem mo_0 {mode s : Int32} (hm : ismode mode) (hs : issign s) : (RN_modeOnSize mode s = 0) ↔ mode = 0 := by
  rcases hm with h | h | h | h | h <;> rcases hs with h2 | h2 <;> subst h <;> subst h2 <;> decide
theorem mo_1 {mode s : Int32} (hm : ismode mode) (hs : issign s) : (RN_modeOnSize mode s = 1) ↔ ¬ (mode = 0 ∨ sp_gr mode s = true) := by
  rcases hm with h | h | h | h | h <;> rcases hs with h2 | h2 <;> subst h <;> subst h2 <;> decide
theorem be_kd (st : rn_S) (v : Nat) (k s : Int32) : rn_kd (RV_become st v k s) = upd (rn_kd st) v k := rfl
theorem be_sg (st : rn_S) (v : Nat) (k s : Int32) : rn_sg (RV_become st v k s) = upd (rn_sg st) v s := rfl
theorem be_pr (st : rn_S) (v : Nat) (k s : Int32) : rn_pr (RV_become st v k s) = rn_pr st := rfl
theorem be_lw (st : rn_S) (v : Nat) (k s : Int32) : rn_lw (RV_become st v k s) = rn_lw st := rfl
theorem be_lb (st : rn_S) (v : Nat) (k s : Int32) : rn_lb (RV_become st v k s) = rn_lb st := rfl
theorem be_ex (st : rn_S) (v : Nat) (k s : Int32) : rn_ex (RV_become st v k s) = rn_ex st := rfl
theorem put_be {st t0 : rn_S} {f : Nat → Int32} {v : Nat} {k s : Int32} {e : Int} {X : Nat} (ht : t0 = rn_setx st f) (hk : k ≠ 3) : put_c st (RV_become t0 v k s) v k s e X := by
  subst ht
  exact ⟨rfl, rfl, rfl, fun w _ => ⟨rfl, rfl⟩, fun h => absurd h hk⟩
/-- what storeInto leaves -/
theorem put_into {st : rn_S} {f : Nat → Int32} (hok : ok33 f) {v : Nat} {s : Int32} {T : Nat} (hT : hb_at (xv f) T) (h1 : 92 ≤ T) (h2 : T < 1023) :
    put_c st (RE_storeInto (rn_setx st f) v s) v 3 s (T - 588) (xv f / 2 ^ (T - 92)) := by
  obtain ⟨g, lw, a1, a2, a3⟩ := ex_into (st := rn_setx st f) (v := v) (s := s) hok hT h1 h2
  rw [a1]
  rw [sx_ex] at a3
  refine ⟨rfl, rfl, rfl, fun w hw => ⟨?_, ?_⟩, fun _ => ⟨?_, ?_, ?_⟩⟩
  · show upd (rn_lw st) v lw w = rn_lw st w
    rw [upd_ne hw]
  · show (if w = v then g else rn_lb st w) = rn_lb st w
    rw [if_neg hw]
  · show (upd (rn_lw st) v lw v).toInt + 93 = _
    rw [upd_same, a2]
    omega
  · intro i hi
    show 0 ≤ ((if v = v then g else rn_lb st v) i).toInt
    rw [if_pos rfl, a3 i hi, nI_toInt (by have := Nat.mod_lt (xv f / 2 ^ (T - 92) / B31 ^ i) (show 0 < 2147483648 by decide); omega)]
    omega
  · have h3 : (fun i => (rn_lb (RV_become (rn_lws (rn_setl (rn_setx st f) v g) v lw) v 3 s) v i).toInt.toNat) = fun i => (g i).toInt.toNat := by
      funext i
      show ((if v = v then g else rn_lb st v) i).toInt.toNat = _
      rw [if_pos rfl]
    rw [h3]
    refine into_n ?_ a3
    have h4 := (hb_div hT (show T - 92 ≤ T by omega)).2
    rw [show T - (T - 92) + 1 = 93 by omega] at h4
    exact h4
