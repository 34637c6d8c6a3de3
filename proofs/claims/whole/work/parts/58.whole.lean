/-! whole: alike -/
theorem lN_int {n : Nat} (hn : n < 2 ^ 64) : (lN n).toInt = if n < 2 ^ 63 then (n : Int) else (n : Int) - 2 ^ 64 := by
  have h1 : (lN n).toInt = (BitVec.ofNat 64 n).toInt := rfl
  rw [h1, BitVec.toInt_eq_toNat_cond, BitVec.toNat_ofNat, Nat.mod_eq_of_lt hn]
  by_cases h : n < 2 ^ 63
  · rw [if_pos h, if_pos (by omega)]
  · rw [if_neg h, if_neg (by omega)]
    rfl
theorem lN_or {a b i : Nat} (hi : i < 64) (hb : b < 2 ^ i) (ha : a * 2 ^ i + b < 2 ^ 64) {sh : Int64} (hsh : (sh.toBitVec.smod 64).toNat = i) : (lN a <<< sh) ||| lN b = lN (a * 2 ^ i + b) := by
  have hp := p2_pos i
  have ha1 : a * 2 ^ i < 2 ^ 64 := by omega
  have ha2 : a < 2 ^ 64 := Nat.lt_of_le_of_lt (Nat.le_mul_of_pos_right a hp) ha1
  have hb2 : b < 2 ^ 64 := by omega
  apply Int64.toBitVec_inj.mp
  have h1 : ((lN a <<< sh) ||| lN b).toBitVec = (BitVec.ofNat 64 a <<< (sh.toBitVec.smod 64)) ||| BitVec.ofNat 64 b := rfl
  have h2 : (lN (a * 2 ^ i + b)).toBitVec = BitVec.ofNat 64 (a * 2 ^ i + b) := rfl
  rw [h1, h2]
  apply BitVec.eq_of_toNat_eq
  rw [BitVec.toNat_or, BitVec.shiftLeft_eq', BitVec.toNat_shiftLeft, hsh, BitVec.toNat_ofNat, BitVec.toNat_ofNat, BitVec.toNat_ofNat, Nat.shiftLeft_eq]
  rw [Nat.mod_eq_of_lt ha2, Nat.mod_eq_of_lt hb2, Nat.mod_eq_of_lt ha1, Nat.mod_eq_of_lt ha]
  rw [Nat.mul_comm, Nat.two_pow_add_eq_or_of_lt hb]
theorem lN_orc (x y : Int64) : x ||| y = y ||| x := by
  apply Int64.toBitVec_inj.mp
  exact BitVec.or_comm _ _
theorem wp_ok {st : rn_S} (hok : ok33 (rn_ex st)) {N : Nat} (hN : xv (rn_ex st) / 2 ^ 589 = N) (hb : N < 2 ^ 64) : RE_wholePart st = lN N := by
  have hB : (0 : Nat) < B31 := by decide
  have hd : ∀ k, k < 33 → rn_ex st k = nI (xv (rn_ex st) / 2 ^ (31 * k) % 2147483648) := fun k hk => by
    have h1 := dv_digit (B := B31) (f := xd (rn_ex st)) (k := k) (n := 33) hB hk (fun i _ => xd_lt i)
    rw [b31_pow, ← xv_def] at h1
    have h2 : xv (rn_ex st) / 2 ^ (31 * k) % 2147483648 = xd (rn_ex st) k := h1
    rw [h2]
    exact nI_of0 (hok k hk)
  have d19 : rn_ex st 19 = nI (N % 2147483648) := by rw [hd 19 (by decide), ← hN]
  have d20 : rn_ex st 20 = nI (N / 2 ^ 31 % 2147483648) := by rw [hd 20 (by decide), ← hN, Nat.div_div_eq_div_mul, ← Nat.pow_add]
  have d21 : rn_ex st 21 = nI (N / 2 ^ 62) := by
    rw [hd 21 (by decide), ← hN, Nat.div_div_eq_div_mul, ← Nat.pow_add, Nat.mod_eq_of_lt]
    have h3 : xv (rn_ex st) / 2 ^ (31 * 21) = N / 2 ^ 62 := by rw [← hN, Nat.div_div_eq_div_mul, ← Nat.pow_add]
    rw [h3]
    omega
  unfold RE_wholePart
  rw [show (19 : Int32).toNatClampNeg = 19 from rfl, show (20 : Int32).toNatClampNeg = 20 from rfl, show (21 : Int32).toNatClampNeg = 21 from rfl, d19, d20, d21, nI_l (by omega), nI_l (by omega), nI_l (by omega)]
  rw [lN_orc (lN (N % 2147483648)), lN_or (i := 31) (by decide) (by omega) (by omega) (by decide), lN_orc, lN_or (i := 62) (by decide) (by omega) (by omega) (by decide)]
  rw [show N / 2 ^ 62 * 2 ^ 62 + (N / 2 ^ 31 % 2147483648 * 2 ^ 31 + N % 2147483648) = N by omega]
/-- the reference's whole part -/
theorem w84 (k : Nat) : ∀ (M : Nat) (mode s : Int32) (ms : rm_S), k < M → k ≤ 64 → isb (ms 6) → rv (ms 6) / 2 ^ 600 < 2 ^ 64 →
    RM_whole_84 M mode s (lN (rv (ms 6) / 2 ^ (600 + k))) (nI k - (1 : Int32)) ms = RM_whole_131 mode s (lN (rv (ms 6) / 2 ^ 600)) (nI (rv (ms 6) / 2 ^ 599 % 2)) ms := by
  induction k with
  | zero =>
    intro M mode s ms hM hk h6 hV
    obtain ⟨M, rfl⟩ : ∃ N, M = N + 1 := ⟨M - 1, by omega⟩
    rw [RM_whole_84, if_pos (by decide), if_pos (by decide), show (599 : Int32).toNatClampNeg = 599 from rfl, Nat.add_zero, xd_n h6 (show 599 < 1024 by decide), rv_bit h6 (show 599 < 1024 by decide)]
    have hx := xd_b h6 (show 599 < 1024 by decide)
    by_cases h : xd (ms 6) 599 = 1
    · rw [h, if_pos (by decide)]; rfl
    · rw [show xd (ms 6) 599 = 0 by omega, if_neg (by decide)]; rfl
  | succ k ih =>
    intro M mode s ms hM hk h6 hV
    obtain ⟨M, rfl⟩ : ∃ N, M = N + 1 := ⟨M - 1, by omega⟩
    have e6 : (600 : Int32) + nI k = nI (600 + k) := by rw [show (600 : Int32) = nI 600 from rfl, nI_add]
    have hx := xd_b h6 (show 600 + k < 1024 by omega)
    have hb := rv_bit h6 (show 600 + k < 1024 by omega)
    rw [sub1, RM_whole_84, if_neg (nI_pos (by omega)), e6, if_pos (ob_nI (by omega) (by decide)), nI_clamp (by omega), nm_e0, nm_e0, xd_n h6 (show 600 + k < 1024 by omega), nI_l (by omega)]
    have hle : rv (ms 6) / 2 ^ (600 + k) ≤ rv (ms 6) / 2 ^ 600 := Nat.div_le_div_left (p2_le (by omega)) (p2_pos _)
    have hdd : rv (ms 6) / 2 ^ (600 + (k + 1)) = rv (ms 6) / 2 ^ (600 + k) / 2 := by rw [Nat.div_div_eq_div_mul, ← Nat.pow_succ]; rfl
    rw [lN_or (i := 1) (by decide) (by omega) (by rw [hdd]; omega) (by decide)]
    rw [show rv (ms 6) / 2 ^ (600 + (k + 1)) * 2 ^ 1 + xd (ms 6) (600 + k) = rv (ms 6) / 2 ^ (600 + k) by rw [hdd]; omega]
    rw [show nI k + (-1 : Int32) = nI k - (1 : Int32) from (Int32.sub_eq_add_neg _ _).symm]
    exact ih M mode s ms (by omega) (by omega) h6 hV
theorem lt63 {N : Nat} (hN : N < 2 ^ 64) : (lg_cmp (lN N) 0 < 0) ↔ ¬ N < 2 ^ 63 := by
  rw [lg_cmp_lt, Int64.lt_iff_toInt_lt, lN_int hN, show (0 : Int64).toInt = 0 from rfl]
  by_cases h : N < 2 ^ 63
  · rw [if_pos h]; omega
  · rw [if_neg h]; omega
theorem ge63 {N : Nat} (hN : N < 2 ^ 64) : (0 ≤ lg_cmp (lN N) 0) ↔ N < 2 ^ 63 := by
  rw [lg_cmp_ge, Int64.le_iff_toInt_le, lN_int hN, show (0 : Int64).toInt = 0 from rfl]
  by_cases h : N < 2 ^ 63
  · rw [if_pos h]; omega
  · rw [if_neg h]; omega
def wres (s : Int32) (N : Nat) : Int64 := if N < 2 ^ 63 then (if s = 1 then lN N else -(lN N)) else (if s = 1 then 9223372036854775807 else -9223372036854775808)
theorem w238 {s : Int32} (hs : issign s) (z : Int64) (ms : rm_S) : RM_whole_238 s z ms = some (if s = 1 then z else -z, ms) := by
  unfold RM_whole_238
  rcases hs with h | h <;> rw [h] <;> rfl
theorem w219 {s : Int32} (hs : issign s) (ms : rm_S) : RM_whole_219 s ms = some (if s = 1 then 9223372036854775807 else -9223372036854775808, ms) := by
  unfold RM_whole_219
  rw [nm_e0]
  rcases hs with h | h <;> rw [h] <;> rfl
theorem w196 {s : Int32} (hs : issign s) {N : Nat} (hN : N < 2 ^ 64) (up : Bool) (ms : rm_S) : RM_whole_196 s (lN N) (if up = true then 1 else 0) ms = some (wres s (N + up.toNat), ms) := by
  unfold RM_whole_196
  by_cases h : N < 2 ^ 63
  · rw [if_neg (fun h9 => (lt63 hN).mp h9 h)]
    cases up
    · rw [show (if false = true then (1 : Int32) else 0) = 0 from rfl, if_pos rfl]
      unfold RM_whole_224 wres
      rw [if_pos rfl, w238 hs, show N + false.toNat = N from rfl, if_pos h]
    · rw [if_pos rfl, if_neg (by decide), show N + true.toNat = N + 1 from rfl]
      by_cases h2 : N = 2 ^ 63 - 1
      · rw [if_pos ((lg_cmp_eq _ _).mpr (by rw [h2]; rfl)), w219 hs]
        unfold wres
        rw [if_neg (show ¬ N + 1 < 2 ^ 63 by omega)]
      · have h3 : ¬ lg_cmp (lN N) 9223372036854775807 = 0 := fun h9 => h2 (by
          have h8 := congrArg Int64.toInt ((lg_cmp_eq _ _).mp h9)
          rw [lN_int hN, if_pos h, show (9223372036854775807 : Int64).toInt = 9223372036854775807 from rfl] at h8
          omega)
        rw [if_neg h3]
        unfold RM_whole_224 wres
        have h4 : lN N + 1 = lN (N + 1) := by
          apply Int64.toInt_inj.mp
          rw [ar_ladd, lN_int hN, lN_int (show N + 1 < 2 ^ 64 by omega), if_pos h, if_pos (show N + 1 < 2 ^ 63 by omega)]
          · rfl
          · rw [lN_int hN, if_pos h, show (1 : Int64).toInt = 1 from rfl]; omega
          · rw [lN_int hN, if_pos h, show (1 : Int64).toInt = 1 from rfl]; omega
        rw [if_neg (by decide), w238 hs, if_pos (show N + 1 < 2 ^ 63 by omega), h4]
  · rw [if_pos ((lt63 hN).mpr h), w219 hs]
    unfold wres
    rw [if_neg (show ¬ N + up.toNat < 2 ^ 63 by omega)]
def wup (mode s : Int32) (N b : Nat) (m : Bool) : Bool := (b == 1 || m) && (if mode = 0 then (b == 1 && (m || N % 2 == 1)) else sp_gr mode s)
theorem lN_and1 (N : Nat) (hN : N < 2 ^ 64) : lN N &&& (1 : Int64) = lN (N % 2) := by
  apply Int64.toBitVec_inj.mp
  have h1 : (lN N &&& (1 : Int64)).toBitVec = BitVec.ofNat 64 N &&& 1#64 := rfl
  have h2 : (lN (N % 2)).toBitVec = BitVec.ofNat 64 (N % 2) := rfl
  rw [h1, h2]
  apply BitVec.eq_of_toNat_eq
  rw [BitVec.toNat_and, BitVec.toNat_ofNat, BitVec.toNat_ofNat, BitVec.toNat_ofNat, Nat.mod_eq_of_lt hN, Nat.mod_eq_of_lt (show N % 2 < 2 ^ 64 by omega)]
  show N &&& (2 ^ 1 - 1) = N % 2
  rw [Nat.and_two_pow_sub_one_eq_mod]
theorem w131 {mode s : Int32} (hm : ismode mode) (hs : issign s) {ms : rm_S} (h6 : isb (ms 6)) {N b : Nat} {m : Bool} (hN : N < 2 ^ 64) (hb : b < 2) (hmm : decide (rv (ms 6) % 2 ^ 599 ≠ 0) = m) : RM_whole_131 mode s (lN N) (nI b) ms = some (wres s (N + (wup mode s N b m).toNat), ms) := by
  rw [← w196 hs hN]
  unfold RM_whole_131
  rw [show (599 : Int32) = nI 599 from rfl, rm_any h6 (by decide), ob1_some]
  have g := gr_m hm hs
  have hr : (if rv (ms 6) % 2 ^ 599 = 0 then (0 : Int32) else 1) = if m = true then 1 else 0 := by
    rw [← hmm]
    by_cases h : rv (ms 6) % 2 ^ 599 = 0
    · rw [if_pos h, if_neg (by simp [h])]
    · rw [if_neg h, if_pos (by simp [h])]
  rw [hr, lN_and1 N hN]
  unfold RM_whole_165 RM_whole_169 RM_whole_183 RM_whole_195 wup
  rw [nm_e0, g]
  have hn2 : (lg_cmp (lN (N % 2)) 1 = 0) ↔ N % 2 = 1 := by
    rw [lg_cmp_eq]
    refine ⟨fun h => ?_, fun h => by rw [h]; rfl⟩
    have h8 := congrArg Int64.toInt h
    rw [lN_int (by omega), if_pos (by omega), show (1 : Int64).toInt = 1 from rfl] at h8
    omega
  have hb2 : b = 0 ∨ b = 1 := by omega
  by_cases h0 : mode = 0
  · rw [if_pos h0, if_pos h0]
    rcases hb2 with h | h <;> subst h
    · cases m <;> rfl
    · by_cases h2 : N % 2 = 1
      · rw [if_neg (by decide), if_pos (hn2.mpr h2), h2]
        cases m <;> rfl
      · rw [if_neg (by decide), if_neg (fun h => h2 (hn2.mp h)), show N % 2 = 0 by omega]
        cases m <;> rfl
  · rw [if_neg h0, if_neg h0]
    generalize sp_gr mode s = q
    rcases hb2 with h | h <;> subst h <;> cases m <;> cases q <;> rfl
/-- the class's rounding to a whole number -/
theorem cl_w {st : rn_S} {f : Nat → Int32} (hok : ok33 f) {mode s : Int32} (hm : ismode mode) (hs : issign s) {v E N : Nat} (hsg : rn_sg st v = s) (hE : xv f = E) (hN : E / 2 ^ 589 = N) (hN2 : N < 2 ^ 63) : ∃ t, RN_whole_114 v (if N % 2 = 1 then 1 else 0) (RN_modeOnSize mode s) 0 (rn_setx st f) = (wres s (N + (wup mode s N (E / 2 ^ 588 % 2) (decide (E % 2 ^ 588 ≠ 0))).toNat), t) ∧ same_c st t := by
  have hx : rn_ex (rn_setx st f) = f := rfl
  have hE2 : E < 2 ^ 652 := by
    have h1 : E < (N + 1) * 2 ^ 589 := by
      rw [← hN, Nat.mul_comm]
      exact Nat.lt_mul_div_succ E (p2_pos 589)
    have h2 : (N + 1) * 2 ^ 589 ≤ 2 ^ 63 * 2 ^ 589 := Nat.mul_le_mul_right _ hN2
    rw [← Nat.pow_add] at h2
    exact Nat.lt_of_lt_of_le h1 h2
  obtain ⟨r1, r2, r3⟩ := ex_round (st := rn_setx st f) (w := 0) (mode := RN_modeOnSize mode s) (tie := if N % 2 = 1 then 1 else 0) (pl := 589) (by rw [hx]; exact hok) (by decide) (by decide) (by decide) (by rw [hx, hE]; exact Nat.lt_trans hE2 (p2_lt (by decide)))
  rw [hx, hE] at r1 r2 r3
  have hw0 : ∀ (t : rn_S) (g : Nat → Int32) (o : Int32) (K : Nat), t = rn_setx st g → ok33 g → xv g / 2 ^ 589 = K → K ≤ 2 ^ 63 → RE_roundAt (rn_setx st f) 0 (RN_modeOnSize mode s) (if N % 2 = 1 then 1 else 0) = (o, t) → RN_whole_114 v (if N % 2 = 1 then 1 else 0) (RN_modeOnSize mode s) 0 (rn_setx st f) = (wres s K, t) ∧ same_c st t := by
    intro t g o K ht hg hK hK2 hr
    subst ht
    refine ⟨?_, same_sx st g⟩
    unfold RN_whole_114
    rw [bd_eq hr, nm_e0, wp_ok (st := rn_setx st g) hg hK (by omega), show rn_sg (rn_setx st g) v = s from hsg]
    unfold wres
    rcases hs with h | h <;> rw [h]
    · rw [if_pos (by decide), if_pos rfl, if_pos rfl]
      by_cases h2 : K < 2 ^ 63
      · rw [if_pos h2, if_pos ((ge63 (by omega)).mpr h2)]
      · rw [if_neg h2, if_neg (fun h9 => h2 ((ge63 (by omega)).mp h9))]
    · rw [if_neg (show ¬ (0 : Int32) ≤ -1 by decide), if_neg (show ¬ (-1 : Int32) = 1 by decide), if_neg (show ¬ (-1 : Int32) = 1 by decide)]
      by_cases h2 : K < 2 ^ 63
      · rw [if_pos h2]
      · rw [if_neg h2, show K = 2 ^ 63 by omega]
        rfl
  have hmod := q_mod E 588
  have hmod0 := q_mod0 E 588
  by_cases h0 : E % 2 ^ 589 = 0
  · have hup : wup mode s N (E / 2 ^ 588 % 2) (decide (E % 2 ^ 588 ≠ 0)) = false := by
      obtain ⟨h1, h2⟩ := hmod0.mp h0
      unfold wup
      rw [h1, h2]
      rfl
    rw [hup]
    exact ⟨_, hw0 _ f 0 N rfl hok (by rw [hE, hN]) (by omega) (r1 h0)⟩
  · have hcut : (E - E % 2 ^ 589) / 2 ^ 589 = N := by
      rw [← hN]
      have h9 := Nat.div_add_mod E (2 ^ 589)
      have h8 : E - E % 2 ^ 589 = 2 ^ 589 * (E / 2 ^ 589) := by omega
      rw [h8, Nat.mul_div_cancel_left _ (p2_pos 589)]
    have hcut2 : (E - E % 2 ^ 589 + 2 ^ 589) / 2 ^ 589 = N + 1 := by
      rw [Nat.add_div_right _ (p2_pos 589), hcut]
    have hg : rd_g E 589 (RN_modeOnSize mode s) (if N % 2 = 1 then 1 else 0) ↔ wup mode s N (E / 2 ^ 588 % 2) (decide (E % 2 ^ 588 ≠ 0)) = true := by
      unfold rd_g wup
      rw [mo_4 hm hs, mo_0 hm hs, show 589 - 1 = 588 from rfl]
      have hbm : ¬ (E / 2 ^ 588 % 2 = 0 ∧ E % 2 ^ 588 = 0) := fun h => h0 (hmod0.mpr h)
      have hb2 : E / 2 ^ 588 % 2 < 2 := Nat.mod_lt _ (by decide)
      generalize E / 2 ^ 588 % 2 = b at hbm hb2
      generalize E % 2 ^ 588 = m at hbm
      have hix : (b == 1 || decide (m ≠ 0)) = true := by
        rcases (show b = 0 ∨ b = 1 by omega) with h | h
        · have : m ≠ 0 := fun h9 => hbm ⟨h, h9⟩
          simp [this]
        · simp [h]
      rw [hix, Bool.true_and]
      by_cases hm0 : mode = 0
      · have hsp : sp_gr mode s = false := by
          rw [hm0]
          rcases hs with h | h <;> rw [h] <;> rfl
        rw [hsp, if_pos hm0]
        by_cases hn : N % 2 = 1
        · simp [hm0, hn]
        · simp [hm0, hn]
      · rw [if_neg hm0]
        simp [hm0]
    by_cases hgu : rd_g E 589 (RN_modeOnSize mode s) (if N % 2 = 1 then 1 else 0)
    · obtain ⟨g, a1, a2, a3⟩ := r3 h0 hgu
      rw [hg.mp hgu]
      exact ⟨_, hw0 _ g 1 (N + 1) rfl a2 (by rw [a3, hcut2]) (by omega) a1⟩
    · obtain ⟨g, a1, a2, a3⟩ := r2 h0 hgu
      rw [show wup mode s N (E / 2 ^ 588 % 2) (decide (E % 2 ^ 588 ≠ 0)) = false from Bool.eq_false_iff.mpr (fun h => hgu (hg.mpr h))]
      exact ⟨_, hw0 _ g (-1) N rfl a2 (by rw [a3, hcut]) (by omega) a1⟩
theorem op_whole (st : rn_S) (ms : rm_S) (x m : Int32) (hR : Rel st ms) : ∃ r t u, RN_whole st x m = (r, t) ∧ RM_whole ms x m = some (r, u) ∧ Rel t u := by
  rcases tgt_cases x m with ⟨v, hv, e, hm, t1, t2, t3⟩ | ⟨t1, t2⟩
  · subst e
    obtain ⟨p, a1, a2, a3, a4, a5, a6, a7, a8, a9, a10⟩ := hR v hv
    have ho : ob_in (nI v) 8 = true := ob_nI hv (by decide)
    have hc : (nI v).toNatClampNeg = v := nI_clamp (by omega)
    by_cases x0 : rn_kd st v = 0
    · have x0' : ms 2 v = 0 := a5 ▸ x0
      exact ⟨0, st, ms, by simp only [RN_whole, nm_e0, t1, i10, if_false, hc, x0, if_true], by simp only [RM_whole, nm_e0, t2, t3, i10, if_false, ho, hc, x0', if_true], hR⟩
    · have x0' : ¬ ms 2 v = 0 := a5 ▸ x0
      have sx := a9 x0
      by_cases x2 : rn_kd st v = 2
      · have x2' : ms 2 v = 2 := a5 ▸ x2
        exact ⟨0, st, ms, by simp only [RN_whole, nm_e0, t1, i10, if_false, hc, x2, k20, if_true], by simp only [RM_whole, nm_e0, t2, t3, i10, if_false, ho, hc, x2', k20, if_true], hR⟩
      · have x2' : ¬ ms 2 v = 2 := a5 ▸ x2
        have hbey : RN_whole_51 v st = (if rn_sg st v = 1 then 9223372036854775807 else -9223372036854775808, st) := by
          unfold RN_whole_51
          rcases sx with h | h <;> rw [h] <;> rfl
        have hbey2 : ∀ u, RM_whole_63 (rn_sg st v) u = some (if rn_sg st v = 1 then 9223372036854775807 else -9223372036854775808, u) := by
          intro u
          unfold RM_whole_63
          rw [nm_e0]
          rcases sx with h | h <;> rw [h] <;> rfl
        by_cases x1 : rn_kd st v = 1
        · have x1' : ms 2 v = 1 := a5 ▸ x1
          exact ⟨_, st, ms, by simp only [RN_whole, nm_e0, t1, i10, if_false, hc, x1, k10, k12, if_true]; exact hbey, by simp only [RM_whole, nm_e0, t2, t3, i10, if_false, ho, hc, x1', k10, k12, if_true, ← a6]; exact hbey2 ms, hR⟩
        · have x1' : ¬ ms 2 v = 1 := a5 ▸ x1
          have x3 : rn_kd st v = 3 := by
            rcases a7 with h | h | h | h
            · exact absurd h x0
            · exact absurd h x1
            · exact absurd h x2
            · exact h
          obtain ⟨e, X, hg⟩ := a10 x3
          have hg0 := hg
          obtain ⟨b1, b2, b3, b4, b5, b6, b7, b8, b9, b10⟩ := hg0
          have hex : (RV_exponent st v).toInt = e := by
            have e93 : (93 : Int32).toInt = 93 := rfl
            unfold RV_exponent
            rw [ar_add (by omega) (by omega), e93]
            omega
          have e63 : (63 : Int32).toInt = 63 := rfl
          have e64 : (64 : Int32).toInt = 64 := rfl
          by_cases h64 : e ≤ 64
          · have c64 : ms 4 v ≤ 64 := Int32.le_iff_toInt_le.mpr (by omega)
            obtain ⟨pl, hpl⟩ : ∃ pl : Nat, (pl : Int) = e + 496 := ⟨(e + 496).toNat, by omega⟩
            -- the reference
            obtain ⟨m1, d1, d2, d3, -⟩ := rm_clear_ok ms
            have hg1 : reg3 st m1 v p e X := ⟨b1, by rw [d2.2.2.2.1]; exact b2, b3, b4, b5, b6, b7, b8, b9, by rw [d2.2.2.2.2]; exact b10⟩
            obtain ⟨f6, k1, k2, k3⟩ := rm_put_ok (sh := pl + 11) hv a1 a2 (by rw [d2.1]; exact a4) hg1 (fun i hi => (d3 i hi).1) (by omega)
            have hm6 : rm_setr m1 6 f6 6 = f6 := rs_at _ _ _
            have hV : rv f6 = X * 2 ^ pl * 2 ^ 11 := by rw [k3, Nat.pow_add, Nat.mul_assoc]
            have hEb : X * 2 ^ pl < 2 ^ (93 + pl) := by rw [Nat.pow_add]; exact Nat.mul_lt_mul_of_pos_right b6 (p2_pos _)
            have hEl : 2 ^ (92 + pl) ≤ X * 2 ^ pl := by rw [Nat.pow_add]; exact Nat.mul_le_mul_right _ b5
            generalize hEE : X * 2 ^ pl = E at hV hEb hEl
            have q600 : rv f6 / 2 ^ 600 = E / 2 ^ 589 := by rw [hV, show (2 : Nat) ^ 600 = 2 ^ 589 * 2 ^ 11 from (Nat.pow_add 2 589 11), Nat.mul_div_mul_right _ _ (p2_pos 11)]
            have q599 : rv f6 / 2 ^ 599 = E / 2 ^ 588 := by rw [hV, show (2 : Nat) ^ 599 = 2 ^ 588 * 2 ^ 11 from (Nat.pow_add 2 588 11), Nat.mul_div_mul_right _ _ (p2_pos 11)]
            have q599m : rv f6 % 2 ^ 599 = E % 2 ^ 588 * 2 ^ 11 := by rw [hV, show (2 : Nat) ^ 599 = 2 ^ 588 * 2 ^ 11 from (Nat.pow_add 2 588 11), Nat.mul_mod_mul_right]
            have hNb : E / 2 ^ 589 < 2 ^ 64 := by
              rw [Nat.div_lt_iff_lt_mul (p2_pos 589), ← Nat.pow_add]
              exact Nat.lt_of_lt_of_le hEb (p2_le (by omega))
            have hdec : decide (rv f6 % 2 ^ 599 ≠ 0) = decide (E % 2 ^ 588 ≠ 0) := by
              rw [q599m]
              by_cases h : E % 2 ^ 588 = 0
              · rw [h, Nat.zero_mul]
              · have h9 : E % 2 ^ 588 * 2 ^ 11 ≠ 0 := Nat.mul_ne_zero h (by decide)
                rw [decide_eq_true h9, decide_eq_true h]
            have hw := w84 64 2000 m (rn_sg st v) (rm_setr m1 6 f6) (by omega) (by omega) (by rw [hm6]; exact k2) (by rw [hm6, q600]; exact hNb)
            rw [hm6, q600, q599, w131 hm sx (ms := rm_setr m1 6 f6) (m := decide (E % 2 ^ 588 ≠ 0)) (by rw [hm6]; exact k2) hNb (Nat.mod_lt _ (by decide)) (by rw [hm6]; exact hdec)] at hw
            have hz : rv f6 / 2 ^ (600 + 64) = 0 := by
              rw [← Nat.add_comm 64 600, Nat.add_comm, Nat.pow_add, ← Nat.div_div_eq_div_mul, q600]
              exact Nat.div_eq_of_lt hNb
            rw [hz, show nI 64 - (1 : Int32) = 63 from by decide, show lN 0 = 0 from rfl] at hw
            have hmod : RM_whole ms (nI v) m = some (wres (rn_sg st v) (E / 2 ^ 589 + (wup m (rn_sg st v) (E / 2 ^ 589) (E / 2 ^ 588 % 2) (decide (E % 2 ^ 588 ≠ 0))).toNat), rm_setr m1 6 f6) := by
              simp only [RM_whole, nm_e0, t2, t3, i10, if_false, ho, hc, x0', x1', x2', if_true, c64, d1, ob1_some, k1, ← a6]
              exact hw
            by_cases h63 : e ≤ 63
            · have c63 : RV_exponent st v ≤ 63 := Int32.le_iff_toInt_le.mpr (by omega)
              obtain ⟨f0, c1, c2, c3⟩ := ex_clear st
              obtain ⟨f, g1, g2, g3⟩ := cl_gather1 (st := st) c2 c3 (ms := ms) hv x3 hg hpl
              rw [hEE] at g3
              have hN2 : E / 2 ^ 589 < 2 ^ 63 := by
                rw [Nat.div_lt_iff_lt_mul (p2_pos 589), ← Nat.pow_add]
                exact Nat.lt_of_lt_of_le hEb (p2_le (by omega))
              obtain ⟨t, y1, y2⟩ := cl_w (st := st) (v := v) g2 hm sx rfl g3 rfl hN2
              have hbit : RE_bit (rn_setx st f) 0 = nI (E / 2 ^ 589 % 2) := by
                rw [ex_bit (st := rn_setx st f) (pl := 589) g2 (by decide) (by decide)]
                rw [show xv (rn_ex (rn_setx st f)) = E from g3]
              refine ⟨_, t, _, ?_, hmod, rel_same hR y2 (same_6 d2 f6)⟩
              simp only [RN_whole, nm_e0, t1, i10, if_false, hc, x0, x1, x2, c63, if_true, c1, g1, hbit, show rn_sg (rn_setx st f) v = rn_sg st v from rfl]
              rw [← y1]
              by_cases h1 : E / 2 ^ 589 % 2 = 1
              · rw [if_pos ((nI2 (by omega)).mpr h1), if_pos h1]
              · rw [if_neg (fun h => h1 ((nI2 (by omega)).mp h)), if_neg h1]
            · have c63 : ¬ RV_exponent st v ≤ 63 := fun h => absurd (Int32.le_iff_toInt_le.mp h) (by omega)
              have hN2 : ¬ E / 2 ^ 589 < 2 ^ 63 := by
                rw [Nat.div_lt_iff_lt_mul (p2_pos 589), ← Nat.pow_add]
                intro h
                exact absurd (Nat.lt_of_le_of_lt hEl h) (Nat.not_lt.mpr (p2_le (by omega)))
              refine ⟨_, st, _, ?_, hmod, rel_same hR ⟨rfl, fun w _ => ⟨rfl, rfl, rfl, rfl⟩⟩ (same_6 d2 f6)⟩
              simp only [RN_whole, nm_e0, t1, i10, if_false, hc, x0, x1, x2, c63]
              rw [hbey]
              unfold wres
              rw [if_neg (show ¬ E / 2 ^ 589 + (wup m (rn_sg st v) (E / 2 ^ 589) (E / 2 ^ 588 % 2) (decide (E % 2 ^ 588 ≠ 0))).toNat < 2 ^ 63 from fun h => hN2 (Nat.lt_of_le_of_lt (Nat.le_add_right _ _) h))]
          · have c64 : ¬ ms 4 v ≤ 64 := fun h => absurd (Int32.le_iff_toInt_le.mp h) (by omega)
            have c63 : ¬ RV_exponent st v ≤ 63 := fun h => absurd (Int32.le_iff_toInt_le.mp h) (by omega)
            exact ⟨_, st, ms, by simp only [RN_whole, nm_e0, t1, i10, if_false, hc, x0, x1, x2, c63]; exact hbey, by simp only [RM_whole, nm_e0, t2, t3, i10, if_false, ho, hc, x0', x1', x2', c64, if_true, ← a6]; exact hbey2 ms, hR⟩
  · refine ⟨0, st, ms, by simp only [RN_whole, nm_e0, t1, if_true], ?_, hR⟩
    rcases t2 with t2 | ⟨t2, t3⟩
    · simp only [RM_whole, nm_e0, t2, if_true]
    · simp only [RM_whole, nm_e0, t2, t3, i10, if_false, if_true]
