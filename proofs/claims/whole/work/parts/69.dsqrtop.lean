/-! sqrt: the reference, and the operation -/
theorem tr_69 {st : rn_S} {m0 : rm_S} {x p X a L : Nat} {e : Int} (hx : x < 8) (hp : p ≤ 93) (h1 : m0 1 x = nI p) (hg : reg3 st m0 x p e X) (ha : a < 2) (hL1 : 98 ≤ L) (hL2 : L < 1024) {L3 : Int32} (hL : L3.toInt + 646 = L) (n : Nat) : ∀ (N i : Nat) (ms : rm_S) (R Z : Nat), i + n = 98 → n < N → same_m m0 ms → isb (ms 6) → (∀ k, k ≤ L - i → ms 6 k = 0) → rv (ms 6) = Z * 2 ^ (L - i + 1) → Z < 2 ^ i → bw (ms 8) R → bw (ms 10) Z → R + Z * Z = X * 2 ^ (196 - 93 - a) / 2 ^ (196 - 2 * i) → R ≤ 2 * Z →
    ∃ u, RM_takeRoot_69 N (nI x) (nI a) L3 (nI i) ms = some u ∧ same_m m0 u ∧ isb (u 6) ∧ ∃ Z R, R + Z * Z = X * 2 ^ (196 - 93 - a) ∧ R ≤ 2 * Z ∧ rv (u 6) = (2 * Z + if R = 0 then 0 else 1) * 2 ^ (L - 98) := by
  have hX2 : X < 2 ^ 93 := hg.2.2.2.2.2.1
  have e646 : (646 : Int32).toInt = 646 := by decide
  have e548 : (548 : Int32).toInt = 548 := by decide
  induction n with
  | zero =>
    intro N i ms R Z hi hN hs hb hz hV hq h8 h10 he hR
    obtain ⟨N, rfl⟩ : ∃ M, N = M + 1 := ⟨N - 1, by omega⟩
    have hi' : i = 98 := by omega
    subst hi'
    have e1 : (548 : Int32) + L3 = nI (L - 98) := by
      apply ps
      · rw [ar_add (by omega) (by omega)]
        omega
      · omega
    have hV2 : rv (ms 6) = 2 * Z * 2 ^ (L - 98) := by
      rw [hV, Nat.pow_succ, Nat.mul_comm (2 ^ (L - 98)), ← Nat.mul_assoc, Nat.mul_comm Z]
    obtain ⟨f, a1, a2, a3⟩ := mk_row (R := R) hs hb (show L - 98 < 1024 by omega) (hz _ (by omega)) hV2
    rw [show 196 - 2 * 98 = 0 from rfl, Nat.pow_zero, Nat.div_one] at he
    refine ⟨rm_setr ms 6 f, ?_, same_r (by decide) hs f, by rw [rs_at]; exact a2, Z, R, he, hR, by rw [rs_at]; exact a3⟩
    rw [RM_takeRoot_69, if_pos (by decide), il_ok h8, ob1_some, e1]
    by_cases h : R = 0
    · rw [if_pos h] at a1
      rw [if_pos h, if_pos rfl, RM_takeRoot_190, if_pos (ob_nI (by omega) (by decide)), nm_e0, nI_clamp (by omega), a1]
    · rw [if_neg h] at a1
      rw [if_neg h, if_neg (by decide), RM_takeRoot_190, if_pos (ob_nI (by omega) (by decide)), nm_e0, nI_clamp (by omega), a1]
  | succ n ih =>
    intro N i ms R Z hi hN hs hb hz hV hq h8 h10 he hR
    obtain ⟨N, rfl⟩ : ∃ M, N = M + 1 := ⟨N - 1, by omega⟩
    have hn : ¬ (98 : Int32) ≤ nI i := fun h => absurd ((nI_leI (a := 98) (by omega) (by omega)).mp h) (by omega)
    have ei : (nI i).toInt = i := nI_toInt (by omega)
    have e1 : (646 : Int32) - nI i + L3 = nI (L - i) := by
      have k1 : ((646 : Int32) - nI i).toInt = 646 - i := by rw [ar_sub (by omega) (by omega), e646, ei]
      apply ps
      · rw [ar_add (by omega) (by omega), k1]
        omega
      · omega
    have ew : L - i = L - (i + 1) + 1 := by omega
    have hZ98 : Z < 2 ^ 98 := Nat.lt_of_lt_of_le hq (p2_le (by omega))
    obtain ⟨x1, -, x2⟩ := ix2 (i := i) (a := a) (by omega) ha
    have hg' : reg3 st ms x p e X := reg3_m hg hs.2.2.2.1 hs.2.2.2.2
    have h1' : ms 1 x = nI p := by rw [hs.1]; exact h1
    have y1 := bo_all (ms := ms) (X := X) (a := a) (j := 2 * i) hx hp h1' hg' x1 (by omega)
    have y2 := bo_all (ms := ms) (X := X) (a := a) (j := 2 * i + 1) hx hp h1' hg' x2 (by omega)
    have hb1 := sb_lt X a (2 * i)
    have hb2 := sb_lt X a (2 * i + 1)
    have z1 := sb_ok (K := 196) (j := 2 * i) hX2 ha (by decide) (by omega)
    have z2 := sb_ok (K := 196) (j := 2 * i + 1) hX2 ha (by decide) (by omega)
    have hpr := sq_pair (X * 2 ^ (196 - 93 - a)) (196 - 2 * (i + 1))
    rw [show 196 - 2 * (i + 1) + 2 = 196 - 2 * i by omega, show 196 - 2 * (i + 1) + 1 = 196 - 1 - 2 * i by omega, z1, show 196 - 2 * (i + 1) = 196 - 1 - (2 * i + 1) by omega, z2, ← he, ← show 196 - 2 * (i + 1) = 196 - 1 - (2 * i + 1) by omega] at hpr
    generalize sb X a (2 * i) = b1 at *
    generalize sb X a (2 * i + 1) = b2 at *
    obtain ⟨f1, p1, p2⟩ := db_ok (ms := ms) (R := R) (c := b1) h8 (by omega) hb1
    obtain ⟨f2, p3, p4⟩ := db_ok (ms := rm_setr ms 8 f1) (R := 2 * R + b1) (c := b2) (by rw [rs_at]; exact p2) (by omega) hb2
    rw [rs_rs] at p3
    obtain ⟨f3, p5, p6⟩ := tr_ok (ms := rm_setr ms 8 f2) (Z := Z) (by rw [rs_ne (by decide)]; exact h10) (by omega)
    rw [show 2 * (2 * R + b1) + b2 = 4 * R + (2 * b1 + b2) by omega] at p4
    have w8 : bw (rm_setr (rm_setr ms 8 f2) 9 f3 8) (4 * R + (2 * b1 + b2)) := by
      rw [rs_ne (by decide), rs_at]
      exact p4
    have w9 : bw (rm_setr (rm_setr ms 8 f2) 9 f3 9) (4 * Z + 1) := by
      rw [rs_at]
      exact p6
    have w10 : bw (rm_setr (rm_setr ms 8 f2) 9 f3 10) Z := by
      rw [rs_ne (by decide), rs_ne (by decide)]
      exact h10
    have w6 : rm_setr (rm_setr ms 8 f2) 9 f3 6 = ms 6 := by
      rw [rs_ne (by decide), rs_ne (by decide)]
    have s3 : same_m m0 (rm_setr (rm_setr ms 8 f2) 9 f3) := same_r (by decide) (same_r (by decide) hs _) _
    have e1' : (1 : Int32) = nI 1 := by decide
    have e0 : (0 : Int32) = nI 0 := zz_0
    rw [RM_takeRoot_69, if_neg hn, y1, ob1_some, y2, ob1_some, p1, ob1_some, p3, ob1_some, p5, ob1_some, rr_ok w8 w9, ob1_some]
    generalize rm_setr (rm_setr ms 8 f2) 9 f3 = m3 at *
    by_cases hc : 4 * Z + 1 ≤ 4 * R + (2 * b1 + b2)
    · obtain ⟨f4, a1, a2⟩ := tk_ok w8 w9 hc
      obtain ⟨c1, c2⟩ := bit_set (f := m3 6) (c := 1) (by rw [w6]; exact hb) (show L - i < 1024 by omega) (by rw [w6]; exact hz _ (by omega)) (by decide)
      obtain ⟨f5, d1, d2⟩ := gw_ok (ms := rm_setr (rm_setr m3 8 f4) 6 (upd (m3 6) (L - i) (nI 1))) (R := Z) (c := 1) (by rw [rs_ne (by decide), rs_ne (by decide)]; exact w10) (by omega) (by decide)
      obtain ⟨g1, g2⟩ := sq1 rfl hc (by omega) hR
      rw [if_pos hc, if_neg (by decide), a1, ob1_some, e1, if_pos (ob_nI (by omega) (by decide)), nm_e0, nI_clamp (by omega), RM_takeRoot_149, if_neg (by decide), RM_takeRoot_160, ru_rs, rs_ne (show (6 : Nat) ≠ 8 by decide), e1', d1, ob1_some, nm_e0, show nI i + nI 1 = nI (i + 1) from nI_add _ _]
      refine ih N (i + 1) _ _ (2 * Z + 1) (by omega) (by omega) (same_r (by decide) (same_r (by decide) (same_r (by decide) s3 _) _) _) ?_ ?_ ?_ (by rw [Nat.pow_succ]; omega) ?_ ?_ ?_ g2
      · rw [rs_ne (show (6 : Nat) ≠ 10 by decide), rs_at]
        exact c1
      · intro k hk
        rw [rs_ne (show (6 : Nat) ≠ 10 by decide), rs_at, upd_ne (by omega), w6]
        exact hz k (by omega)
      · rw [rs_ne (show (6 : Nat) ≠ 10 by decide), rs_at, c2, w6, hV, ← ew, Nat.pow_succ, Nat.add_mul, Nat.mul_comm (2 ^ (L - i)) 2, ← Nat.mul_assoc, Nat.mul_comm Z 2]
      · rw [rs_ne (show (8 : Nat) ≠ 10 by decide), rs_ne (show (8 : Nat) ≠ 6 by decide), rs_at]
        exact a2
      · rw [rs_at]
        exact d2
      · rw [g1, hpr]
    · obtain ⟨f5, d1, d2⟩ := gw_ok (ms := m3) (R := Z) (c := 0) w10 (by omega) (by decide)
      obtain ⟨g1, g2⟩ := sq0 (R := R) (Z := Z) (c := 2 * b1 + b2) rfl hc
      rw [if_neg hc, if_pos rfl, RM_takeRoot_149, if_pos rfl, RM_takeRoot_160, e0, d1, ob1_some, nm_e0, ← nI_succ]
      refine ih N (i + 1) _ _ (2 * Z + 0) (by omega) (by omega) (same_r (by decide) s3 _) ?_ ?_ ?_ (by rw [Nat.pow_succ]; omega) ?_ ?_ ?_ g2
      · rw [rs_ne (show (6 : Nat) ≠ 10 by decide), w6]
        exact hb
      · intro k hk
        rw [rs_ne (show (6 : Nat) ≠ 10 by decide), w6]
        exact hz k (by omega)
      · rw [rs_ne (show (6 : Nat) ≠ 10 by decide), w6, hV, ← ew, Nat.pow_succ, Nat.add_zero, Nat.mul_comm (2 ^ (L - i)) 2, ← Nat.mul_assoc, Nat.mul_comm Z 2]
      · rw [rs_ne (show (8 : Nat) ≠ 10 by decide)]
        exact w8
      · rw [rs_at]
        exact d2
      · rw [g1, hpr]
theorem tr_37 {m0 : rm_S} {L1 L2 L3 : Int32} (n : Nat) : ∀ (N k : Nat) (ms : rm_S), k + n = 104 → n < N → same_m m0 ms → ms 6 = m0 6 → (∀ i, i < k → ms 8 i = 0 ∧ ms 10 i = 0) →
    ∃ u, RM_takeRoot_37 N L1 L2 L3 (nI k) ms = RM_takeRoot_69 2000 L1 L2 L3 (nI 0) u ∧ same_m m0 u ∧ u 6 = m0 6 ∧ bw (u 8) 0 ∧ bw (u 10) 0 := by
  induction n with
  | zero =>
    intro N k ms hk hN hs h6 hz
    obtain ⟨N, rfl⟩ : ∃ M, N = M + 1 := ⟨N - 1, by omega⟩
    refine ⟨ms, ?_, hs, h6, ⟨p2_pos _, fun i hi => ?_⟩, ⟨p2_pos _, fun i hi => ?_⟩⟩
    · rw [RM_takeRoot_37, if_pos (le104 (by omega)), nI_0]
    · rw [Nat.zero_div, (hz i (by omega)).1]
      rfl
    · rw [Nat.zero_div, (hz i (by omega)).2]
      rfl
  | succ n ih =>
    intro N k ms hk hN hs h6 hz
    obtain ⟨N, rfl⟩ : ∃ M, N = M + 1 := ⟨N - 1, by omega⟩
    have ho : ob_in (nI k) 104 = true := ob_nI (by omega) (by decide)
    have hc : (nI k).toNatClampNeg = k := nI_clamp (by omega)
    rw [RM_takeRoot_37, if_neg (ge104 (by omega)), if_pos ho, nm_e0, if_pos ho, nm_e0, nm_e0, hc, ru_rs, ru_rs, ← nI_succ]
    refine ih N (k + 1) _ (by omega) (by omega) (same_r (by decide) (same_r (by decide) hs _) _) ?_ ?_
    · rw [rs_ne (by decide), rs_ne (by decide)]
      exact h6
    · intro i hi
      rw [rs_at, rs_ne (show (8 : Nat) ≠ 10 by decide), rs_at, rs_ne (show (10 : Nat) ≠ 8 by decide)]
      by_cases h : i = k
      · rw [h, upd_same, upd_same]
        exact ⟨rfl, rfl⟩
      · rw [upd_ne h, upd_ne h]
        exact hz i (by omega)
theorem rt_ok {st : rn_S} {m1 : rm_S} {x p : Nat} {e : Int} {X k : Nat} (hx : x < 8) (hp : p ≤ 93) (h1 : m1 1 x = nI p) (hg : reg3 st m1 x p e X) (hz : ∀ i, i < 1024 → m1 6 i = 0) (hk : (k : Int) = e + 200) :
    ∃ u, RM_takeRoot m1 (nI x) = some u ∧ same_m m1 u ∧ isb (u 6) ∧ ∃ Z R, R + Z * Z = X * 2 ^ (196 - 93 - k % 2) ∧ R ≤ 2 * Z ∧ rv (u 6) = (2 * Z + if R = 0 then 0 else 1) * 2 ^ ((k + k % 2) / 2 + 499 - 98) := by
  have hg' := hg
  obtain ⟨c1, c2, c3, c4, c5, c6, c7, c8, c9, c10⟩ := hg'
  have hox : ob_in (nI x) 8 = true := ob_nI hx (by decide)
  have hcx : (nI x).toNatClampNeg = x := nI_clamp (by omega)
  have x2 := ex_k c2 c3 c4 hk
  obtain ⟨-, -, p3, p4⟩ := ex_par k (by omega)
  have hT : RM_takeRoot m1 (nI x) = RM_takeRoot_19 (nI x) (nI (k % 2)) m1 := by
    unfold RM_takeRoot
    rw [if_pos hox, hcx, x2]
    by_cases h : k % 2 = 1
    · rw [if_pos (p4.mpr h), h]
      rfl
    · rw [if_neg (fun h' => h (p4.mp h')), show k % 2 = 0 by omega]
      rfl
  obtain ⟨u1, a1, a2, a3, a4, a5⟩ := tr_37 (m0 := m1) (L1 := nI x) (L2 := nI (k % 2)) (L3 := ((nI k - (200 : Int32)) - (94 : Int32) + nI (k % 2)) / (2 : Int32)) 104 2000 0 m1 (by omega) (by omega) ⟨rfl, rfl, rfl, rfl, rfl⟩ rfl (fun i hi => absurd hi (by omega))
  obtain ⟨z1, z2⟩ := rv_0 (f := u1 6) (by rw [a3]; exact hz)
  obtain ⟨u, b1, b2⟩ := tr_69 (L := (k + k % 2) / 2 + 499) (a := k % 2) hx hp h1 hg (by omega) (by omega) (by omega) (L3 := ((nI k - (200 : Int32)) - (94 : Int32) + nI (k % 2)) / (2 : Int32)) (by rw [p3]; omega) 98 2000 0 u1 0 0 (by omega) (by omega) a2 z1 (by rw [a3]; exact fun i hi => hz i (by omega)) (by rw [z2, Nat.zero_mul]) (by decide) a4 a5 (by
    rw [Nat.div_eq_of_lt]
    have h2 : X * 2 ^ (196 - 93 - k % 2) < 2 ^ 93 * 2 ^ (196 - 93 - k % 2) := Nat.mul_lt_mul_of_pos_right c6 (p2_pos _)
    rw [← Nat.pow_add] at h2
    exact Nat.lt_of_lt_of_le h2 (p2_le (by omega))) (by omega)
  refine ⟨u, ?_, b2⟩
  rw [hT, RM_takeRoot_19, if_pos hox, nm_e0, hcx, x2, ← nI_0, a1, b1]
theorem sq_bnd {R Z S : Nat} (h : R + Z * Z = S) (hR : R ≤ 2 * Z) : Z * Z ≤ S ∧ S < (Z + 1) * (Z + 1) ∧ (R = 0 ↔ Z * Z = S) := by
  have e : (Z + 1) * (Z + 1) = Z * Z + 2 * Z + 1 := by
    rw [Nat.add_mul, Nat.mul_add, Nat.one_mul, Nat.mul_one]
    omega
  rw [e]
  generalize Z * Z = y at *
  omega
theorem sq_top {Z S X a : Nat} (hS : S = X * 2 ^ (192 - 93 - a)) (ha : a < 2) (h1 : Z * Z ≤ S) (h2 : S < (Z + 1) * (Z + 1)) (x1 : 2 ^ 92 ≤ X) (x2 : X < 2 ^ 93) : hb_at Z 95 := by
  have k1 : 2 ^ 92 * 2 ^ (192 - 93 - a) ≤ S := by rw [hS]; exact Nat.mul_le_mul_right _ x1
  have k2 : S < 2 ^ 93 * 2 ^ (192 - 93 - a) := by rw [hS]; exact Nat.mul_lt_mul_of_pos_right x2 (p2_pos _)
  rw [← Nat.pow_add] at k1 k2
  have k3 : 2 ^ 190 ≤ S := Nat.le_trans (p2_le (by omega)) k1
  have k4 : S < 2 ^ 192 := Nat.lt_of_lt_of_le k2 (p2_le (by omega))
  refine ⟨?_, ?_⟩
  · refine Nat.le_of_not_lt (fun h => ?_)
    have h3 : (Z + 1) * (Z + 1) ≤ 2 ^ 95 * 2 ^ 95 := Nat.mul_le_mul h h
    rw [← Nat.pow_add] at h3
    exact absurd (Nat.lt_of_lt_of_le h2 (Nat.le_trans h3 k3)) (Nat.lt_irrefl _)
  · refine Nat.lt_of_not_le (fun h => ?_)
    have h3 : 2 ^ 96 * 2 ^ 96 ≤ Z * Z := Nat.mul_le_mul h h
    rw [← Nat.pow_add] at h3
    exact absurd (Nat.lt_of_le_of_lt (Nat.le_trans h3 h1) k4) (Nat.lt_irrefl _)
theorem both_sqrt {st : rn_S} {ms : rm_S} (hR : Rel st ms) {v x : Nat} (hv : v < 8) (hx : x < 8) (x3 : rn_kd st x = 3) {mode : Int32} (hm : ismode mode) :
    ∃ o t u, RN_storeExact (RN_workOutRoot st x) (nI v) 1 mode = (o, t) ∧ ob1 (RM_clear ms) (fun t92 => ob1 (RM_takeRoot t92 (nI x)) (fun t97 => ob2 (RM_round t97 (nI v) (1 : Int32) mode) (fun r104 t104 => some (r104, t104)))) = some (o, u) ∧ Rel t u := by
  obtain ⟨p, a1, a2, a3, a4, a5, a6, a7, a8, a9, a10⟩ := hR x hx
  obtain ⟨e, X, hg⟩ := a10 x3
  have hg' := hg
  obtain ⟨c1, c2, c3, c4, c5, c6, c7, c8, c9, c10⟩ := hg'
  obtain ⟨k, hk⟩ : ∃ k : Nat, (k : Int) = e + 200 := ⟨(e + 200).toNat, by omega⟩
  obtain ⟨t1, q1, q2, q3, Z, R, q4, q5, q6⟩ := wr_ok hx hg hk
  obtain ⟨m1, w1, w2, w3, -⟩ := rm_clear_ok ms
  obtain ⟨u1, r1, r2, r3, Z', R', r4, r5, r6⟩ := rt_ok hx a2 (by rw [w2.1]; exact a4) (reg3_m hg w2.2.2.2.1 w2.2.2.2.2) (fun i hi => (w3 i hi).1) hk
  obtain ⟨g1, g2, g3⟩ := sq_bnd q4 q5
  obtain ⟨g4, g5, g6⟩ := sq_bnd r4 r5
  have eS : X * 2 ^ (196 - 93 - k % 2) = 4 ^ 2 * (X * 2 ^ (192 - 93 - k % 2)) := by
    rw [show 196 - 93 - k % 2 = 4 + (192 - 93 - k % 2) by omega, Nat.pow_add, ← Nat.mul_assoc, Nat.mul_comm X, Nat.mul_assoc]
  rw [eS] at g4 g5 g6
  obtain ⟨e', f1, f2, f3⟩ := ds_q (G := fun z => z * z) (c := 4) (d := 2) (by decide) (fun a b h => Nat.mul_lt_mul'' h h) (fun z => Nat.mul_mul_mul_comm 2 z 2 z) g1 g2 g4 g5
  have ht := sq_top rfl (by omega) g1 g2 c5 c6
  have hR9 : Rel t1 u1 := rel_same hR q2 ⟨r2.1.trans w2.1, r2.2.1.trans w2.2.1, r2.2.2.1.trans w2.2.2.1, r2.2.2.2.1.trans w2.2.2.2.1, r2.2.2.2.2.trans w2.2.2.2.2⟩
  have s01 : ∀ n : Nat, ((if n = 0 then 0 else 1) = 0 ↔ n = 0) ∧ (if n = 0 then 0 else 1) < 2 := fun n => by
    by_cases h : n = 0
    · rw [if_pos h]
      omega
    · rw [if_neg h]
      omega
  obtain ⟨o, t2, u2, z1, z2, z3⟩ := both_digits hR9 hv (s := 1) (Or.inl rfl) hm q3 r3 (d := 2) (e := e') q6 r6 f2 f1 (by rw [(s01 R).1, (s01 R').1, g3, g6]; exact f3) (s01 R).2 (s01 R').2 ht (by decide) (by omega) (by omega)
  refine ⟨o, t2, u2, ?_, ?_, z3⟩
  · rw [q1]
    exact z1
  · rw [w1, ob1_some, r1, ob1_some, ob2_id]
    exact z2
theorem op_sqrt (st : rn_S) (ms : rm_S) (d x m : Int32) (hR : Rel st ms) : ∃ r t u, RN_sqrt st d x m = (r, t) ∧ RM_sqrt ms d x m = some (r, u) ∧ Rel t u := by
  rcases tgt_cases d m with ⟨v, hv, e, hm, t1, t2, t3⟩ | ⟨t1, t2⟩
  · rcases reg_cases x with ⟨w, hw, e2, r1, r2⟩ | ⟨r1, r2⟩
    · subst e
      subst e2
      have hc2 : (nI w).toNatClampNeg = w := nI_clamp (by omega)
      have ho2 : ob_in (nI w) 8 = true := ob_nI hw (by decide)
      obtain ⟨p', l1, l2, l3, l4, l5, l6, l7, l8, l9, l10⟩ := hR w hw
      have hN : RN_sqrt st (nI v) (nI w) m = if rn_kd st w = 0 then RN_storePlain st (nI v) (rn_kd st w) (rn_sg st w) else if rn_kd st w = 2 then RN_storePlain st (nI v) (rn_kd st w) (rn_sg st w) else if 0 ≤ rn_sg st w then (if rn_kd st w = 1 then RN_storePlain st (nI v) 1 (rn_sg st w) else RN_storeExact (RN_workOutRoot st w) (nI v) 1 m) else RN_storePlain st (nI v) 0 0 := by
        simp only [RN_sqrt, RN_sqrt_43, nm_e0, t1, r1, i10, if_false, hc2, bd_id]
      have hM : RM_sqrt ms (nI v) (nI w) m = if rn_kd st w = 2 then RM_keep ms (nI v) 2 (rn_sg st w) else if rn_kd st w = 0 then RM_keep ms (nI v) 0 0 else if 0 ≤ rn_sg st w then (if rn_kd st w = 1 then RM_keep ms (nI v) 1 1 else ob1 (RM_clear ms) (fun t92 => ob1 (RM_takeRoot t92 (nI w)) (fun t97 => ob2 (RM_round t97 (nI v) (1 : Int32) m) (fun r104 t104 => some (r104, t104))))) else RM_keep ms (nI v) 0 0 := by
        rw [l5, l6]
        simp only [RM_sqrt, RM_sqrt_65, nm_e0, t2, t3, r2, i10, if_false, ho2, if_true, hc2, ob2_id]
      rw [hN, hM]
      by_cases k0 : rn_kd st w = 0
      · rw [if_pos k0, k0, if_neg (show ¬ (0 : Int32) = 2 by decide), if_pos rfl, keep0 ms (nI v) (rn_sg st w)]
        obtain ⟨t, u, q1, q2, q3⟩ := both_plain hR hv (k := 0) (s := rn_sg st w) (Or.inl rfl) (fun h => absurd rfl h)
        exact ⟨0, t, u, q1, q2, q3⟩
      · rw [if_neg k0, if_neg k0]
        have hsg := l9 k0
        by_cases k2 : rn_kd st w = 2
        · rw [if_pos k2, if_pos k2, k2]
          obtain ⟨t, u, q1, q2, q3⟩ := both_plain hR hv (k := 2) (s := rn_sg st w) (Or.inr (Or.inr rfl)) (fun _ => hsg)
          exact ⟨0, t, u, q1, q2, q3⟩
        · rw [if_neg k2, if_neg k2]
          rcases hsg with hsg | hsg
          · rw [hsg, if_pos (show (0 : Int32) ≤ 1 by decide), if_pos (show (0 : Int32) ≤ 1 by decide)]
            by_cases k1 : rn_kd st w = 1
            · rw [if_pos k1, if_pos k1]
              obtain ⟨t, u, q1, q2, q3⟩ := both_plain hR hv (k := 1) (s := 1) (Or.inr (Or.inl rfl)) (fun _ => Or.inl rfl)
              exact ⟨0, t, u, q1, q2, q3⟩
            · rw [if_neg k1, if_neg k1]
              have x3 : rn_kd st w = 3 := by
                rcases l7 with h | h | h | h
                · exact absurd h k0
                · exact absurd h k1
                · exact absurd h k2
                · exact h
              exact both_sqrt hR hv hw x3 hm
          · rw [hsg, if_neg (show ¬ (0 : Int32) ≤ -1 by decide), if_neg (show ¬ (0 : Int32) ≤ -1 by decide)]
            obtain ⟨t, u, q1, q2, q3⟩ := both_plain hR hv (k := 0) (s := 0) (Or.inl rfl) (fun h => absurd rfl h)
            exact ⟨0, t, u, q1, q2, q3⟩
    · exact ⟨9, st, ms, by simp only [RN_sqrt, nm_e0, t1, r1, i10, if_false, if_true], by simp only [RM_sqrt, nm_e0, t2, r2, i10, if_false, if_true], hR⟩
  · refine ⟨9, st, ms, by simp only [RN_sqrt, nm_e0, t1, if_true], ?_, hR⟩
    rcases t2 with t2 | ⟨t2, t3⟩
    · simp only [RM_sqrt, nm_e0, t2, if_true]
    · rcases reg_cases x with ⟨w, hw, e2, r1, r2⟩ | ⟨r1, r2⟩
      · simp only [RM_sqrt, nm_e0, t2, t3, r2, i10, if_false, if_true]
      · simp only [RM_sqrt, nm_e0, t2, r2, i10, if_false, if_true]
