/-! The three loops with a carry: addPower, gather, turnSign -/
theorem i33 : ¬ ((33 : Int32) ≤ nI 0) := by decide
theorem ge33 {k : Nat} (h : k < 33) : ¬ (33 : Int32) ≤ nI k := by
  rw [show (33 : Int32) = nI 33 from rfl, nI_leI (by decide) (by omega)]
  omega
theorem ge33t {k : Nat} (h : 33 ≤ k) (h2 : k < 2147483648) : (33 : Int32) ≤ nI k := by
  rw [show (33 : Int32) = nI 33 from rfl, nI_leI (by decide) (by omega)]
  omega
theorem upd_same {f : Nat → Int32} {k : Nat} {x : Int32} : upd f k x k = x := pk_us
theorem upd_ne {f : Nat → Int32} {k j : Nat} {x : Int32} (h : j ≠ k) : upd f k x j = f j := pk_un h
theorem ok_upd {f : Nat → Int32} {k : Nat} {x : Int32} (h : ok33 f) (hx : 0 ≤ x.toInt) : ok33 (upd f k x) := fun i hi => by
  by_cases e : i = k
  · subst e; rw [upd_same]; exact hx
  · rw [upd_ne e]; exact h i hi
theorem sz_upd {f : Nat → Int32} {k n : Nat} {x : Int32} : sz (fun i => (upd f k x i).toInt) (k + 1) n = sz (fun i => (f i).toInt) (k + 1) n := sz_congr (fun i h1 _ => by
  show (upd f k x i).toInt = (f i).toInt
  rw [upd_ne (by omega)])
theorem cy_fin {c d lo hi fk S S1 co b B33 : Int} (hk : fk = lo) (h1 : lo = (c + d) % 2147483648) (h2 : hi = (c + d) / 2147483648) (h3 : S + co * B33 = hi * (b * 2147483648) + S1) : fk * b + S + co * B33 = c * b + (d * b + S1) := by
  have h4 := cy_step (b := b) h1 h2
  rw [hk]
  omega
theorem ap_loop (n : Nat) : ∀ (N k : Nat) (c : Int64) (st : rn_S), k + n = 33 → n < N → ok33 (rn_ex st) → -4294967296 ≤ c.toInt → c.toInt ≤ 4294967296 →
    ∃ (f : Nat → Int32) (co : Int), RE_addPower_25 N c (nI k) st = rn_setx st f ∧ ok33 f ∧ (∀ j, j < k → f j = rn_ex st j) ∧ sz (fun i => (f i).toInt) k n + co * (B31 : Int) ^ 33 = c.toInt * (B31 : Int) ^ k + sz (fun i => (rn_ex st i).toInt) k n := by
  induction n with
  | zero =>
    intro N k c st hk hN hok h1 h2
    obtain ⟨N, rfl⟩ : ∃ M, N = M + 1 := ⟨N - 1, by omega⟩
    have hk : k = 33 := by omega
    subst hk
    refine ⟨rn_ex st, c.toInt, ?_, hok, fun _ _ => rfl, ?_⟩
    · rw [RE_addPower_25, if_pos (by decide), sx_id]
    · simp only [sz]
      omega
  | succ n ih =>
    intro N k c st hk hN hok h1 h2
    obtain ⟨N, rfl⟩ : ∃ M, N = M + 1 := ⟨N - 1, by omega⟩
    have hk33 : k < 33 := by omega
    rw [RE_addPower_25, if_neg (ge33 hk33)]
    by_cases hc : lg_cmp c 0 = 0
    · rw [if_pos hc]
      have hc0 : c = 0 := (lg_cmp_eq c 0).mp hc
      subst hc0
      refine ⟨rn_ex st, 0, (sx_id st).symm, hok, fun _ _ => rfl, ?_⟩
      rw [show (0 : Int64).toInt = 0 from rfl]
      omega
    · rw [if_neg hc]
      simp only [nm, nI_clamp (show k < 2 ^ 31 by omega), nI_1]
      have hd := hok k hk33
      have hd2 := ar_hi (rn_ex st k)
      have e50 : (c + (rn_ex st k).toInt64).toInt = c.toInt + (rn_ex st k).toInt := by
        rw [ar_ladd (by rw [Int32.toInt_toInt64]; omega) (by rw [Int32.toInt_toInt64]; omega), Int32.toInt_toInt64]
      generalize c + (rn_ex st k).toInt64 = x50 at e50 ⊢
      have elo := cy_lo x50
      have ehi := cy_hi x50
      have hlo0 := cy_lo0 x50
      generalize hlo : x50.toInt32 &&& (2147483647 : Int32) = lo at elo hlo0 ⊢
      generalize hhi : x50 >>> ((31 : Int32).toInt64 &&& 63) = hi at ehi ⊢
      rw [e50] at elo ehi
      obtain ⟨f, co, e1, e2, e3, e4⟩ := ih N (k + 1) hi (rn_exs st k lo) (by omega) (by omega) (ok_upd hok hlo0) (by omega) (by omega)
      refine ⟨f, co, ?_, e2, ?_, ?_⟩
      · rw [e1, sx_exs, sx_sx]
      · intro j hj
        rw [e3 j (by omega), sx_exs, sx_ex, upd_ne (by omega)]
      · rw [sx_exs, sx_ex, sz_upd] at e4
        have hfk : f k = lo := by rw [e3 k (by omega), sx_exs, sx_ex, upd_same]
        rw [Int.pow_succ] at e4
        simp only [sz]
        exact cy_fin (by rw [hfk]) elo ehi e4
theorem ts_loop (n : Nat) : ∀ (N k : Nat) (c : Int64) (st : rn_S), k + n = 33 → n < N → ok33 (rn_ex st) → -4294967296 ≤ c.toInt → c.toInt ≤ 4294967296 →
    ∃ (f : Nat → Int32) (co : Int), RE_turnSign_4 N c (nI k) st = rn_setx st f ∧ ok33 f ∧ (∀ j, j < k → f j = rn_ex st j) ∧ sz (fun i => (f i).toInt) k n + co * (B31 : Int) ^ 33 = c.toInt * (B31 : Int) ^ k + sz (fun i => -(rn_ex st i).toInt) k n := by
  induction n with
  | zero =>
    intro N k c st hk hN hok h1 h2
    obtain ⟨N, rfl⟩ : ∃ M, N = M + 1 := ⟨N - 1, by omega⟩
    have hk : k = 33 := by omega
    subst hk
    refine ⟨rn_ex st, c.toInt, ?_, hok, fun _ _ => rfl, ?_⟩
    · rw [RE_turnSign_4, if_pos (by decide), sx_id]
    · simp only [sz]
      omega
  | succ n ih =>
    intro N k c st hk hN hok h1 h2
    obtain ⟨N, rfl⟩ : ∃ M, N = M + 1 := ⟨N - 1, by omega⟩
    have hk33 : k < 33 := by omega
    rw [RE_turnSign_4, if_neg (ge33 hk33)]
    simp only [nm, nI_clamp (show k < 2 ^ 31 by omega), nI_1]
    have hd := hok k hk33
    have hd2 := ar_hi (rn_ex st k)
    have e50 : (c - (rn_ex st k).toInt64).toInt = c.toInt + -(rn_ex st k).toInt := by
      rw [ar_lsub (by rw [Int32.toInt_toInt64]; omega) (by rw [Int32.toInt_toInt64]; omega), Int32.toInt_toInt64]
      omega
    generalize c - (rn_ex st k).toInt64 = x50 at e50 ⊢
    have elo := cy_lo x50
    have ehi := cy_hi x50
    have hlo0 := cy_lo0 x50
    generalize hlo : x50.toInt32 &&& (2147483647 : Int32) = lo at elo hlo0 ⊢
    generalize hhi : x50 >>> ((31 : Int32).toInt64 &&& 63) = hi at ehi ⊢
    rw [e50] at elo ehi
    obtain ⟨f, co, e1, e2, e3, e4⟩ := ih N (k + 1) hi (rn_exs st k lo) (by omega) (by omega) (ok_upd hok hlo0) (by omega) (by omega)
    refine ⟨f, co, ?_, e2, ?_, ?_⟩
    · rw [e1, sx_exs, sx_sx]
    · intro j hj
      rw [e3 j (by omega), sx_exs, sx_ex, upd_ne (by omega)]
    · have h5 : sz (fun i => -(rn_ex (rn_exs st k lo) i).toInt) (k + 1) n = sz (fun i => -(rn_ex st i).toInt) (k + 1) n := sz_congr (fun i h1 _ => by
        show -(upd (rn_ex st) k lo i).toInt = -(rn_ex st i).toInt
        rw [upd_ne (by omega)])
      rw [h5] at e4
      have hfk : f k = lo := by rw [e3 k (by omega), sx_exs, sx_ex, upd_same]
      rw [Int.pow_succ] at e4
      simp only [sz]
      exact cy_fin (by rw [hfk]) elo ehi e4
/-- the limb that gather takes at place i of the row -/
def ga_l (st : rn_S) (v q : Nat) (i : Nat) : Int := if rn_len v ≤ i - q then 0 else (rn_lb st v (i - q)).toInt
theorem ga_loop (n : Nat) : ∀ (N k v q : Nat) (fac c : Int64) (st : rn_S), k + n = 33 → n < N → q ≤ k → ok33 (rn_ex st) → (∀ i, i < rn_len v → 0 ≤ (rn_lb st v i).toInt) → -1073741824 ≤ fac.toInt → fac.toInt ≤ 1073741824 → -4294967296 ≤ c.toInt → c.toInt ≤ 4294967296 →
    ∃ (f : Nat → Int32) (co : Int), RE_gather_44 N v (nI q) fac c (nI k) st = rn_setx st f ∧ ok33 f ∧ (∀ j, j < k → f j = rn_ex st j) ∧ sz (fun i => (f i).toInt) k n + co * (B31 : Int) ^ 33 = c.toInt * (B31 : Int) ^ k + sz (fun i => (rn_ex st i).toInt + fac.toInt * ga_l st v q i) k n := by
  induction n with
  | zero =>
    intro N k v q fac c st hk hN hq hok hv f1 f2 h1 h2
    obtain ⟨N, rfl⟩ : ∃ M, N = M + 1 := ⟨N - 1, by omega⟩
    have hk : k = 33 := by omega
    subst hk
    refine ⟨rn_ex st, c.toInt, ?_, hok, fun _ _ => rfl, ?_⟩
    · rw [RE_gather_44, if_pos (by decide), sx_id]
    · simp only [sz]
      omega
  | succ n ih =>
    intro N k v q fac c st hk hN hq hok hv f1 f2 h1 h2
    obtain ⟨N, rfl⟩ : ∃ M, N = M + 1 := ⟨N - 1, by omega⟩
    have hk33 : k < 33 := by omega
    have hlen := nk_len v
    have hb : ∃ w : Int32, w.toInt = ga_l st v q k ∧ 0 ≤ w.toInt ∧ RE_gather_44 (N + 1) v (nI q) fac c (nI k) st = RE_gather_78 (RE_gather_44 N) v (nI q) fac c (nI k) w st := by
      rw [RE_gather_44, if_neg (ge33 hk33), pk_sub hq]
      unfold ga_l
      by_cases hl : rn_len v ≤ k - q
      · rw [if_pos hl, if_pos ((nI_leI (by omega) (by omega)).mpr hl)]
        exact ⟨0, rfl, by decide, rfl⟩
      · rw [if_neg hl, if_neg (fun h => hl ((nI_leI (by omega) (by omega)).mp h)), nI_clamp (by omega)]
        exact ⟨_, rfl, hv _ (by omega), rfl⟩
    obtain ⟨w, hw, hw0, hstep⟩ := hb
    rw [hstep]
    have hw1 := ar_hi w
    unfold RE_gather_78
    simp only [nm, nI_clamp (show k < 2 ^ 31 by omega), nI_1]
    have hd := hok k hk33
    have hd2 := ar_hi (rn_ex st k)
    have hm1 : fac.toInt * w.toInt ≤ 1073741824 * 2147483648 := Int.le_trans (Int.mul_le_mul_of_nonneg_right f2 hw0) (Int.mul_le_mul_of_nonneg_left (by omega) (by decide))
    have hm2 : -(1073741824 * 2147483648) ≤ fac.toInt * w.toInt := by
      have a1 : -1073741824 * w.toInt ≤ fac.toInt * w.toInt := Int.mul_le_mul_of_nonneg_right f1 hw0
      omega
    have em : (fac * w.toInt64).toInt = fac.toInt * w.toInt := by
      rw [ar_lmul (by rw [Int32.toInt_toInt64]; omega) (by rw [Int32.toInt_toInt64]; omega), Int32.toInt_toInt64]
    have es : ((rn_ex st k).toInt64 + fac * w.toInt64).toInt = (rn_ex st k).toInt + fac.toInt * w.toInt := by
      rw [ar_ladd (by rw [Int32.toInt_toInt64, em]; omega) (by rw [Int32.toInt_toInt64, em]; omega), Int32.toInt_toInt64, em]
    have e50 : (c + ((rn_ex st k).toInt64 + fac * w.toInt64)).toInt = c.toInt + ((rn_ex st k).toInt + fac.toInt * w.toInt) := by
      rw [ar_ladd (by rw [es]; omega) (by rw [es]; omega), es]
    generalize c + ((rn_ex st k).toInt64 + fac * w.toInt64) = x50 at e50 ⊢
    have elo := cy_lo x50
    have ehi := cy_hi x50
    have hlo0 := cy_lo0 x50
    generalize hlo : x50.toInt32 &&& (2147483647 : Int32) = lo at elo hlo0 ⊢
    generalize hhi : x50 >>> ((31 : Int32).toInt64 &&& 63) = hi at ehi ⊢
    rw [e50] at elo ehi
    obtain ⟨f, co, e1, e2, e3, e4⟩ := ih N (k + 1) v q fac hi (rn_exs st k lo) (by omega) (by omega) (by omega) (ok_upd hok hlo0) hv f1 f2 (by omega) (by omega)
    refine ⟨f, co, ?_, e2, ?_, ?_⟩
    · rw [e1, sx_exs, sx_sx]
    · intro j hj
      rw [e3 j (by omega), sx_exs, sx_ex, upd_ne (by omega)]
    · have h5 : sz (fun i => (rn_ex (rn_exs st k lo) i).toInt + fac.toInt * ga_l (rn_exs st k lo) v q i) (k + 1) n = sz (fun i => (rn_ex st i).toInt + fac.toInt * ga_l st v q i) (k + 1) n := sz_congr (fun i h1 _ => by
        show (upd (rn_ex st) k lo i).toInt + fac.toInt * ga_l st v q i = _
        rw [upd_ne (by omega)])
      rw [h5] at e4
      have hfk : f k = lo := by rw [e3 k (by omega), sx_exs, sx_ex, upd_same]
      rw [Int.pow_succ] at e4
      simp only [sz]
      rw [hw] at elo ehi
      exact cy_fin (by rw [hfk]) elo ehi e4
