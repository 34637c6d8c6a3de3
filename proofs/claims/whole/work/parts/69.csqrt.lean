/-! sqrt: alike -/
/-- the bit of the stretched number that is the j-th from its top -/
def sb (X a j : Nat) : Nat := if j < a then 0 else if j - a < 93 then X / 2 ^ (92 - (j - a)) % 2 else 0
theorem sb_lt (X a j : Nat) : sb X a j < 2 := by
  unfold sb
  split
  · omega
  · split
    · omega
    · omega
theorem sb_ok {X a K j : Nat} (hX : X < 2 ^ 93) (ha : a < 2) (hK : 100 ≤ K) (hj : j < K) : X * 2 ^ (K - 93 - a) / 2 ^ (K - 1 - j) % 2 = sb X a j := by
  unfold sb
  by_cases h1 : j < a
  · rw [if_pos h1, Nat.div_eq_of_lt]
    have h2 : X * 2 ^ (K - 93 - a) < 2 ^ 93 * 2 ^ (K - 93 - a) := Nat.mul_lt_mul_of_pos_right hX (p2_pos _)
    rw [← Nat.pow_add] at h2
    exact Nat.lt_of_lt_of_le h2 (p2_le (by omega))
  · rw [if_neg h1]
    by_cases h2 : j - a < 93
    · rw [if_pos h2, show K - 1 - j = K - 93 - a + (92 - (j - a)) by omega, (dg_sh _ _ _).1]
    · rw [if_neg h2, show K - 93 - a = K - 1 - j + 1 + (j - a - 93) by omega, Nat.pow_add, Nat.pow_succ, Nat.mul_assoc, Nat.mul_left_comm, Nat.mul_div_cancel_left _ (p2_pos _), Nat.mul_left_comm, Nat.mul_mod_right]
theorem sq_pair (S m : Nat) : S / 2 ^ m = 4 * (S / 2 ^ (m + 2)) + (2 * (S / 2 ^ (m + 1) % 2) + S / 2 ^ m % 2) := by
  have h1 := dv2s S m
  have h2 := dv2s S (m + 1)
  rw [show m + 1 + 1 = m + 2 from rfl] at h2
  omega
theorem sq1 {R Z A c : Nat} (h : R + Z * Z = A) (hd : 4 * Z + 1 ≤ 4 * R + c) (hc : c < 4) (hR : R ≤ 2 * Z) : (4 * R + c - (4 * Z + 1)) + (2 * Z + 1) * (2 * Z + 1) = 4 * A + c ∧ 4 * R + c - (4 * Z + 1) ≤ 2 * (2 * Z + 1) := by
  have e : (2 * Z + 1) * (2 * Z + 1) = 4 * (Z * Z) + 4 * Z + 1 := by
    have h := Nat.mul_mul_mul_comm 2 Z 2 Z
    rw [Nat.add_mul, Nat.mul_add, Nat.one_mul, Nat.mul_one, h]
    omega
  rw [e]
  generalize Z * Z = y at *
  omega
theorem sq0 {R Z A c : Nat} (h : R + Z * Z = A) (hd : ¬ 4 * Z + 1 ≤ 4 * R + c) : (4 * R + c) + (2 * Z + 0) * (2 * Z + 0) = 4 * A + c ∧ 4 * R + c ≤ 2 * (2 * Z + 0) := by
  have e : (2 * Z + 0) * (2 * Z + 0) = 4 * (Z * Z) := by
    exact Nat.mul_mul_mul_comm 2 Z 2 Z
  rw [e]
  generalize Z * Z = y at *
  omega
theorem ng {z : Int32} (h : z.toInt < 0) : z < 0 := Int32.lt_iff_toInt_lt.mpr h
theorem ps {z : Int32} {k : Nat} (h : z.toInt = k) (hk : k < 2147483648) : z = nI k := by
  apply Int32.toInt_inj.mp
  rw [h, nI_toInt (by omega)]
theorem bt_ok {st : rn_S} {v X a j : Nat} (hl : ∀ i, i < 3 → 0 ≤ (rn_lb st v i).toInt) (hX : dv B31 (fun i => (rn_lb st v i).toInt.toNat) 3 = X) {z : Int32} (hz : z.toInt = (j : Int) - a) (hj : j < 1000) : RV_bitFromTop st v z = nI (sb X a j) := by
  unfold sb
  by_cases h1 : j < a
  · rw [if_pos h1, RV_bitFromTop, if_pos (ng (by omega))]
    rfl
  · have e : z = nI (j - a) := ps (by omega) (by omega)
    rw [if_neg h1, e]
    by_cases h2 : j - a < 93
    · rw [if_pos h2]
      exact rv_bft hl hX h2
    · rw [if_neg h2, RV_bitFromTop, if_neg (nI_pos (by omega)), if_neg]
      · rfl
      · exact fun h => absurd ((nI_ltI (b := 93) (by omega) (by omega)).mp h) h2
theorem bo_all {st : rn_S} {ms : rm_S} {x p : Nat} {e : Int} {X a j : Nat} (hx : x < 8) (hp2 : p ≤ 93) (h1 : ms 1 x = nI p) (hg : reg3 st ms x p e X) {z : Int32} (hz : z.toInt = (j : Int) - a) (hj : j < 1000) : RM_bitOf ms (nI x) z = some (nI (sb X a j)) := by
  unfold sb
  by_cases k1 : j < a
  · rw [if_pos k1, RM_bitOf, if_pos (ng (by omega))]
    rfl
  · have e : z = nI (j - a) := ps (by omega) (by omega)
    rw [if_neg k1, e]
    by_cases h2 : j - a < 93
    · rw [if_pos h2]
      exact bo_ok hx hp2 h1 hg h2
    · rw [if_neg h2, RM_bitOf, if_neg (nI_pos (by omega)), if_pos (ob_nI hx (by decide)), nI_clamp (by omega), h1, if_pos ((nI_leI (by omega) (by omega)).mpr (by omega))]
      rfl
theorem tw {b c : Nat} (hb : b < 2) (hc : c < 2) : (2 : Int32) * nI b + nI c = nI (2 * b + c) := by
  have h : ∀ b, b < 2 → ∀ c, c < 2 → (2 : Int32) * nI b + nI c = nI (2 * b + c) := by decide +kernel
  exact h b hb c hc
theorem ix2 {i a : Nat} (hi : i < 1000) (ha : a < 2) : ((2 : Int32) * nI i - nI a).toInt = (2 * i : Nat) - (a : Int) ∧ ((2 : Int32) * nI i - nI a + 1).toInt = (2 * i + 1 : Nat) - (a : Int) ∧ ((2 : Int32) * nI i + 1 - nI a).toInt = (2 * i + 1 : Nat) - (a : Int) := by
  have e1 : (nI i).toInt = i := nI_toInt (by omega)
  have e2 : (nI a).toInt = a := nI_toInt (by omega)
  have e3 : (2 : Int32).toInt = 2 := by decide
  have e4 : (1 : Int32).toInt = 1 := by decide
  have e5 : ((2 : Int32) * nI i).toInt = 2 * i := by rw [ar_mul (by rw [e3, e1]; omega) (by rw [e3, e1]; omega), e3, e1]
  have e6 : ((2 : Int32) * nI i - nI a).toInt = 2 * i - a := by rw [ar_sub (by omega) (by omega), e5, e2]
  have e7 : ((2 : Int32) * nI i + 1).toInt = 2 * i + 1 := by rw [ar_add (by omega) (by omega), e5, e4]
  refine ⟨by rw [e6]; omega, ?_, ?_⟩
  · rw [ar_add (by omega) (by omega), e6, e4]
    omega
  · rw [ar_sub (by omega) (by omega), e7, e2]
    omega
theorem wr_loop {X a w v : Nat} {st0 : rn_S} (hv : v < 8) (hl : ∀ i, i < 3 → 0 ≤ (rn_lb st0 v i).toInt) (hX : dv B31 (fun i => (rn_lb st0 v i).toInt.toNat) 3 = X) (hX2 : X < 2 ^ 93) (ha : a < 2) (hw1 : 96 ≤ w) (hw2 : w ≤ 1000) {L3 : Int32} (hL : L3.toInt + 589 = w) (n : Nat) : ∀ (N i : Nat) (st : rn_S) (R Z : Nat), i + n = 96 → n < N → same_c st0 st → ok33 (rn_ex st) → xv (rn_ex st) = Z * 2 ^ (w - i + 1) → Z < 2 ^ i → wk st 0 R → wk st 2 Z → R + Z * Z = X * 2 ^ (192 - 93 - a) / 2 ^ (192 - 2 * i) → R ≤ 2 * Z →
    ∃ t, RN_workOutRoot_42 N v (nI a) L3 (nI i) st = t ∧ same_c st0 t ∧ ok33 (rn_ex t) ∧ ∃ Z R, R + Z * Z = X * 2 ^ (192 - 93 - a) ∧ R ≤ 2 * Z ∧ xv (rn_ex t) = (2 * Z + if R = 0 then 0 else 1) * 2 ^ (w - 96) := by
  induction n with
  | zero =>
    intro N i st R Z hi hN hs hok hx hq k0 k2 he hR
    obtain ⟨N, rfl⟩ : ∃ M, N = M + 1 := ⟨N - 1, by omega⟩
    have hi' : i = 96 := by omega
    subst hi'
    have e1 : (L3 - (96 : Int32)).toInt + 589 = ((w - 96 : Nat) : Int) := by
      rw [ar_sub (by rw [show (96 : Int32).toInt = 96 from rfl]; omega) (by rw [show (96 : Int32).toInt = 96 from rfl]; omega), show (96 : Int32).toInt = 96 from rfl]
      omega
    have hx2 : xv (rn_ex st) = 2 * Z * 2 ^ (w - 96) := by
      rw [hx, Nat.pow_succ, Nat.mul_comm (2 ^ (w - 96)), ← Nat.mul_assoc, Nat.mul_comm Z]
    have hf : (2 * Z + 1) * 2 ^ (w - 96) < 2 ^ 1023 := by
      have h1 : (2 * Z + 1) * 2 ^ (w - 96) < 2 ^ 97 * 2 ^ (w - 96) := Nat.mul_lt_mul_of_pos_right (by omega) (p2_pos _)
      rw [← Nat.pow_add] at h1
      exact Nat.lt_of_lt_of_le h1 (p2_le (by omega))
    obtain ⟨t, a1, a2, a3, a4⟩ := mk_ok hok k0 e1 (by omega) hx2 hf
    rw [show 192 - 2 * 96 = 0 from rfl, Nat.pow_zero, Nat.div_one] at he
    refine ⟨t, ?_, same_tr hs a2, a3, Z, R, he, hR, a4⟩
    rw [RN_workOutRoot_42, if_pos (by decide), nm_e0, a1]
  | succ n ih =>
    intro N i st R Z hi hN hs hok hx hq k0 k2 he hR
    obtain ⟨N, rfl⟩ : ∃ M, N = M + 1 := ⟨N - 1, by omega⟩
    have hn : ¬ (96 : Int32) ≤ nI i := fun h => absurd ((nI_leI (a := 96) (by omega) (by omega)).mp h) (by omega)
    have ei : (nI i).toInt = i := nI_toInt (by omega)
    have e1 : (L3 - nI i).toInt + 589 = ((w - i : Nat) : Int) := by
      rw [ar_sub (by omega) (by omega), ei]
      omega
    have ew : w - i = w - (i + 1) + 1 := by omega
    have hZ96 : Z < 2 ^ 96 := Nat.lt_of_lt_of_le hq (p2_le (by omega))
    obtain ⟨x1, x2, -⟩ := ix2 (i := i) (a := a) (by omega) ha
    have hls : rn_lb st v = rn_lb st0 v := (hs.2 v hv).2.2.2
    have y1 := bt_ok (st := st) (v := v) (X := X) (a := a) (j := 2 * i) (by rw [hls]; exact hl) (by rw [hls]; exact hX) x1 (by omega)
    have y2 := bt_ok (st := st) (v := v) (X := X) (a := a) (j := 2 * i + 1) (by rw [hls]; exact hl) (by rw [hls]; exact hX) x2 (by omega)
    have hb1 := sb_lt X a (2 * i)
    have hb2 := sb_lt X a (2 * i + 1)
    have z1 := sb_ok (K := 192) (j := 2 * i) hX2 ha (by decide) (by omega)
    have z2 := sb_ok (K := 192) (j := 2 * i + 1) hX2 ha (by decide) (by omega)
    have hp := sq_pair (X * 2 ^ (192 - 93 - a)) (192 - 2 * (i + 1))
    rw [show 192 - 2 * (i + 1) + 2 = 192 - 2 * i by omega, show 192 - 2 * (i + 1) + 1 = 192 - 1 - 2 * i by omega, z1, show 192 - 2 * (i + 1) = 192 - 1 - (2 * i + 1) by omega, z2, ← he, ← show 192 - 2 * (i + 1) = 192 - 1 - (2 * i + 1) by omega] at hp
    generalize sb X a (2 * i) = b1 at *
    generalize sb X a (2 * i + 1) = b2 at *
    obtain ⟨t1, p1, p2, p3⟩ := sh2_ok k0 (c := 2 * b1 + b2) (by omega) (by omega)
    obtain ⟨t2, p4, p5, p6⟩ := ws_ok (w := 1) (wk_fr p2 (by decide) k2)
    obtain ⟨t3, p7, p8, p9⟩ := sh2_ok p6 (c := 1) (by decide) (by omega)
    have w0 : wk t3 0 (4 * R + (2 * b1 + b2)) := wk_fr p8 (by decide) (wk_fr p5 (by decide) p3)
    have w2 : wk t3 2 Z := wk_fr p8 (by decide) (wk_fr p5 (by decide) (wk_fr p2 (by decide) k2))
    have s3 : same_c st0 t3 := same_tr hs (same_tr p2.1 (same_tr p5.1 p8.1))
    have x3 : rn_ex t3 = rn_ex st := by rw [p8.2.1, p5.2.1, p2.2.1]
    have e1' : (1 : Int32) = nI 1 := by decide
    have e0 : (0 : Int32) = nI 0 := zz_0
    rw [RN_workOutRoot_42, if_neg hn]
    simp only [nm_e0]
    rw [y1, y2, tw hb1 hb2, p1, p4]
    rw [← e1'] at p7
    rw [show RW_shift t2 1 2 1 = t3 from p7, re_ok w0 p9]
    by_cases hc : 4 * Z + 1 ≤ 4 * R + (2 * b1 + b2)
    · obtain ⟨t4, a1, a2, a3⟩ := le_ok (by decide) w0 p9 hc
      have hf : xv (rn_ex t4) + 2 ^ (w - i) < 2 ^ 1023 := by
        rw [a2.2.1, x3, hx]
        have h1 : (Z + 1) * 2 ^ (w - i + 1) ≤ 2 ^ i * 2 ^ (w - i + 1) := Nat.mul_le_mul_right _ hq
        rw [← Nat.pow_add, show i + (w - i + 1) = w + 1 by omega, Nat.add_mul, Nat.one_mul] at h1
        have h2 : 2 ^ (w - i) < 2 ^ (w - i + 1) := p2_lt (by omega)
        have h3 : 2 ^ (w + 1) ≤ 2 ^ 1023 := p2_le (by omega)
        omega
      obtain ⟨f, b1', b2', b3'⟩ := ex_addPos (st := t4) (by rw [a2.2.1, x3]; exact hok) e1 (by omega) hf
      have k0' : wk (rn_setx t4 f) 0 (4 * R + (2 * b1 + b2) - (4 * Z + 1)) := wk_sx f a3
      have k2' : wk (rn_setx t4 f) 2 Z := wk_sx f (wk_fr a2 (by decide) w2)
      obtain ⟨t5, c1, c2, c3⟩ := sh1_ok k2' (c := 1) (by decide) (by omega)
      obtain ⟨g1, g2⟩ := sq1 rfl hc (by omega) hR
      rw [if_pos hc, if_neg (by decide), a1, b1', RN_workOutRoot_143, if_neg (by decide), RN_workOutRoot_158, nm_e0, nm_e0, ← nI_succ]
      rw [← e1'] at c1
      rw [show RW_shift (rn_setx t4 f) 2 1 1 = t5 from c1]
      refine ih N (i + 1) t5 _ (2 * Z + 1) (by omega) (by omega) (same_tr s3 (same_tr a2.1 (same_tr (same_sx t4 f) c2.1))) (by rw [c2.2.1, sx_ex]; exact b2') ?_ (by rw [Nat.pow_succ]; omega) (wk_fr c2 (by decide) k0') c3 ?_ g2
      · rw [c2.2.1, sx_ex, b3', a2.2.1, x3, hx, ← ew, Nat.pow_succ, Nat.add_mul, Nat.one_mul, Nat.mul_comm (2 ^ (w - i)) 2, ← Nat.mul_assoc, Nat.mul_comm Z 2]
      · rw [g1, hp]
    · obtain ⟨t5, c1, c2, c3⟩ := sh1_ok w2 (c := 0) (by decide) (by omega)
      obtain ⟨g1, g2⟩ := sq0 (R := R) (Z := Z) (c := 2 * b1 + b2) rfl hc
      rw [if_neg hc, if_pos rfl, RN_workOutRoot_143, if_pos rfl, RN_workOutRoot_158, nm_e0, nm_e0, ← nI_succ]
      rw [← e0] at c1
      rw [c1]
      refine ih N (i + 1) t5 _ (2 * Z + 0) (by omega) (by omega) (same_tr s3 c2.1) (by rw [c2.2.1, x3]; exact hok) ?_ (by rw [Nat.pow_succ]; omega) (wk_fr c2 (by decide) w0) c3 ?_ g2
      · rw [c2.2.1, x3, hx, ← ew, Nat.pow_succ, Nat.add_zero, Nat.mul_comm (2 ^ (w - i)) 2, ← Nat.mul_assoc, Nat.mul_comm Z 2]
      · rw [g1, hp]
theorem ex_par (k : Nat) (hk : k < 401) : (nI k - (200 : Int32)) &&& (1 : Int32) = nI (k % 2) ∧ ((((nI k - (200 : Int32)) + nI (k % 2)) / (2 : Int32)) - (1 : Int32)).toInt = ((k + k % 2) / 2 : Nat) - (101 : Int) ∧ ((((nI k - (200 : Int32)) - (94 : Int32)) + nI (k % 2)) / (2 : Int32)).toInt = ((k + k % 2) / 2 : Nat) - (147 : Int) ∧ ((((nI k - (200 : Int32)) - (93 : Int32)) - ((nI k - (200 : Int32)) - (93 : Int32)) / (2 : Int32) * (2 : Int32) = 0) ↔ k % 2 = 1) := by
  have h : ∀ k, k < 401 → (nI k - (200 : Int32)) &&& (1 : Int32) = nI (k % 2) ∧ ((((nI k - (200 : Int32)) + nI (k % 2)) / (2 : Int32)) - (1 : Int32)).toInt = ((k + k % 2) / 2 : Nat) - (101 : Int) ∧ ((((nI k - (200 : Int32)) - (94 : Int32)) + nI (k % 2)) / (2 : Int32)).toInt = ((k + k % 2) / 2 : Nat) - (147 : Int) ∧ ((((nI k - (200 : Int32)) - (93 : Int32)) - ((nI k - (200 : Int32)) - (93 : Int32)) / (2 : Int32) * (2 : Int32) = 0) ↔ k % 2 = 1) := by decide +kernel
  exact h k hk
theorem ex_k {x : Int32} {e : Int} (h : x.toInt = e) (h1 : -200 ≤ e) (h2 : e ≤ 200) {k : Nat} (hk : (k : Int) = e + 200) : x = nI k - (200 : Int32) := by
  apply Int32.toInt_inj.mp
  have e1 : (nI k).toInt = k := nI_toInt (by omega)
  have e2 : (200 : Int32).toInt = 200 := by decide
  rw [ar_sub (by omega) (by omega), e1, e2, h]
  omega
theorem wr_ok {st : rn_S} {ms : rm_S} {x p : Nat} {e : Int} {X k : Nat} (hx : x < 8) (hg : reg3 st ms x p e X) (hk : (k : Int) = e + 200) :
    ∃ t, RN_workOutRoot st x = t ∧ same_c st t ∧ ok33 (rn_ex t) ∧ ∃ Z R, R + Z * Z = X * 2 ^ (192 - 93 - k % 2) ∧ R ≤ 2 * Z ∧ xv (rn_ex t) = (2 * Z + if R = 0 then 0 else 1) * 2 ^ ((k + k % 2) / 2 + 488 - 96) := by
  obtain ⟨c1, c2, c3, c4, c5, c6, c7, c8, c9, c10⟩ := hg
  have x1 : (RV_exponent st x).toInt = e := by
    rw [RV_exponent, ar_add (by rw [show (93 : Int32).toInt = 93 from rfl]; omega) (by rw [show (93 : Int32).toInt = 93 from rfl]; omega), show (93 : Int32).toInt = 93 from rfl]
    exact c1
  have x2 := ex_k x1 c3 c4 hk
  obtain ⟨p1, p2, -, -⟩ := ex_par k (by omega)
  obtain ⟨f0, y1, y2, y3⟩ := ex_clear st
  obtain ⟨t1, a1, a2, a3⟩ := wc_ok (rn_setx st f0) 0
  obtain ⟨t2, b1, b2, b3⟩ := wc_ok t1 2
  rw [RN_workOutRoot]
  simp only [nm_e0]
  rw [x2, p1, y1, a1, b1]
  refine wr_loop (X := X) (w := (k + k % 2) / 2 + 488) hx c8 c9 c6 (by omega) (by omega) (by omega) (by rw [p2]; omega) 96 97 0 t2 0 0 (by omega) (by omega) (same_tr (same_sx st f0) (same_tr a2.1 b2.1)) (by rw [b2.2.1, a2.2.1, sx_ex]; exact y2) (by rw [b2.2.1, a2.2.1, sx_ex, y3, Nat.zero_mul]) (by decide) (wk_fr b2 (by decide) a3) b3 ?_ (by omega)
  rw [Nat.div_eq_of_lt]
  have h2 : X * 2 ^ (192 - 93 - k % 2) < 2 ^ 93 * 2 ^ (192 - 93 - k % 2) := Nat.mul_lt_mul_of_pos_right c6 (p2_pos _)
  rw [← Nat.pow_add] at h2
  exact Nat.lt_of_lt_of_le h2 (p2_le (by omega))
