/-! mul: alike -/
theorem pk_alike {st : rn_S} {ms : rm_S} {x y : Nat} (hx : x < 8) (hy : y < 8) (h1 : iskind (ms 2 x)) (h2 : iskind (ms 2 y)) : RM_productKind ms (nI x) (nI y) = some (RN_productKind (ms 2 x) (ms 2 y)) := by
  have hox : ob_in (nI x) 8 = true := ob_nI hx (by decide)
  have hcx : (nI x).toNatClampNeg = x := nI_clamp (by omega)
  have hoy : ob_in (nI y) 8 = true := ob_nI hy (by decide)
  have hcy : (nI y).toNatClampNeg = y := nI_clamp (by omega)
  unfold RM_productKind
  rw [if_pos hox, nm_e0, if_pos hoy, nm_e0, hcx, hcy]
  rcases h1 with h | h | h | h <;> rcases h2 with h' | h' | h' | h' <;> rw [h, h'] <;> rfl
theorem pk_3 {k k' : Int32} (h1 : iskind k) (h2 : iskind k') : (RN_productKind k k' = 3 → k = 3 ∧ k' = 3) ∧ (RN_productKind k k' ≠ 0 → k ≠ 0 ∧ k' ≠ 0) ∧ iskind (RN_productKind k k') := by
  rcases h1 with h | h | h | h <;> rcases h2 with h' | h' | h' | h' <;> rw [h, h'] <;> unfold iskind <;> decide
theorem sgs_mul {s s' : Int32} (h : issign s) (h' : issign s') : issign (s * s') := by
  rcases h with h | h <;> rcases h' with h' | h' <;> rw [h, h'] <;> unfold issign <;> decide
theorem same_9 (st : rn_S) (k s l : Int32) (g : Nat → Int32) : same_c st (rn_setl (rn_lws (RV_become st 9 k s) 9 l) 9 g) := by
  refine ⟨rfl, fun w hw => ⟨?_, ?_, ?_, ?_⟩⟩
  · show upd (rn_kd st) 9 k w = _
    exact upd_ne (by omega)
  · show upd (rn_sg st) 9 s w = _
    exact upd_ne (by omega)
  · show upd (rn_lw st) 9 l w = _
    exact upd_ne (by omega)
  · show (if w = 9 then g else rn_lb st w) = _
    rw [if_neg (by omega)]
theorem same_b9 (st : rn_S) (k s : Int32) : same_c st (RV_become st 9 k s) := by
  refine ⟨rfl, fun w hw => ⟨?_, ?_, rfl, rfl⟩⟩
  · show upd (rn_kd st) 9 k w = _
    exact upd_ne (by omega)
  · show upd (rn_sg st) 9 s w = _
    exact upd_ne (by omega)
theorem hb_XY {X Y : Nat} (h1 : 2 ^ 92 ≤ X) (h2 : X < 2 ^ 93) (h3 : 2 ^ 92 ≤ Y) (h4 : Y < 2 ^ 93) : ∃ T, hb_at (X * Y) T ∧ 184 ≤ T ∧ T ≤ 185 := by
  have q1 : X * Y < 2 ^ 93 * 2 ^ 93 := Nat.mul_lt_mul'' h2 h4
  have q2 : 2 ^ 92 * 2 ^ 92 ≤ X * Y := Nat.mul_le_mul h1 h3
  rw [← Nat.pow_add] at q1 q2
  obtain ⟨T, hT⟩ := hb_ex (V := X * Y) (Nat.lt_of_lt_of_le (p2_pos _) q2)
  refine ⟨T, hT, ?_, ?_⟩
  · refine Nat.le_of_not_lt (fun h => ?_)
    exact absurd (Nat.lt_of_le_of_lt q2 (Nat.lt_of_lt_of_le hT.2 (p2_le (show T + 1 ≤ 92 + 92 by omega)))) (Nat.lt_irrefl _)
  · refine Nat.le_of_not_lt (fun h => ?_)
    exact absurd (Nat.lt_of_lt_of_le q1 (Nat.le_trans (p2_le (show 93 + 93 ≤ T by omega)) hT.1)) (Nat.lt_irrefl _)
/-- value 9 gathered into the empty row -/
theorem cl_gather9 {st : rn_S} {f0 : Nat → Int32} (hok : ok33 f0) (h0 : xv f0 = 0) {W pl : Nat} (hk : rn_kd st 9 = 3) (hl : ∀ l, l < 6 → 0 ≤ (rn_lb st 9 l).toInt) (hW : dv B31 (xd (rn_lb st 9)) 6 = W) (hpl : (rn_lw st 9).toInt + 589 = pl) (hp : pl ≤ 803) (hb : W < 2 ^ 186) :
    ∃ f, RE_gather (rn_setx st f0) 9 1 = rn_setx st f ∧ ok33 f ∧ xv f = W * 2 ^ pl := by
  have l6 : rn_len 9 = 6 := rfl
  obtain ⟨f, a1, a2, co, a3⟩ := ex_gather (st := rn_setx st f0) (v := 9) (s := 1) (pl := pl) hok (by rw [l6]; exact hl) hk hpl (by rw [l6]; omega) (Or.inl rfl)
  refine ⟨f, by rw [a1, sx_sx], a2, ?_⟩
  have hn : lv_n (rn_setx st f0) 9 = W := by
    unfold lv_n
    rw [l6]
    exact hW
  rw [hn, sx_ex, h0, show (1 : Int32).toInt = 1 from rfl, Int.one_mul, B33i] at a3
  have hlt := xv_lt f
  rw [B33] at hlt
  have hW2 : W * 2 ^ pl < 2 ^ 1023 := by
    have h3 : W * 2 ^ pl < 2 ^ 186 * 2 ^ pl := Nat.mul_lt_mul_of_pos_right hb (p2_pos pl)
    rw [← Nat.pow_add] at h3
    exact Nat.lt_of_lt_of_le h3 (p2_le (by omega))
  have e2 : ((0 : Nat) : Int) + (W : Int) * 2 ^ pl = ((W * 2 ^ pl : Nat) : Int) := by
    rw [Int.natCast_mul, Int.natCast_pow]
    show (0 : Int) + _ = _
    rw [Int.zero_add]
    rfl
  rw [e2] at a3
  exact Int.ofNat.inj (modz (Int.natCast_nonneg _) (Int.ofNat_lt.mpr hlt) (Int.natCast_nonneg _) (Int.ofNat_lt.mpr hW2) a3)
theorem both_mul {st : rn_S} {ms : rm_S} (hR : Rel st ms) {v x y : Nat} (hv : v < 8) (hx : x < 8) (hy : y < 8) {mode : Int32} (hm : ismode mode) :
    ∃ o t u, RN_storeValue (RV_takeProduct st 9 x y) (nI v) 9 (rn_sg (RV_takeProduct st 9 x y) 9) mode = (o, t) ∧ (if RN_productKind (ms 2 x) (ms 2 y) = 3 then ob1 (RM_clear ms) (fun t72 => ob1 (RM_putProduct t72 (nI x) (nI y)) (fun t78 => ob2 (RM_round t78 (nI v) (ms 3 x * ms 3 y) mode) (fun r87 t87 => some (r87, t87)))) else ob2 (RM_keep ms (nI v) (RN_productKind (ms 2 x) (ms 2 y)) (ms 3 x * ms 3 y)) (fun r67 t67 => some (r67, t67))) = some (o, u) ∧ Rel t u := by
  obtain ⟨p, a1, a2, a3, a4, a5, a6, a7, a8, a9, a10⟩ := hR x hx
  obtain ⟨p', b1, b2, b3, b4, b5, b6, b7, b8, b9, b10⟩ := hR y hy
  obtain ⟨k1, k2, k3⟩ := pk_3 a7 b7
  rw [← a5, ← b5, ← a6, ← b6]
  by_cases h3 : RN_productKind (rn_kd st x) (rn_kd st y) = 3
  · obtain ⟨x3, y3⟩ := k1 h3
    obtain ⟨e1, X, hg1⟩ := a10 x3
    obtain ⟨e2, Y, hg2⟩ := b10 y3
    have hg1' := hg1
    have hg2' := hg2
    obtain ⟨c1, c2, c3, c4, c5, c6, c7, c8, c9, c10⟩ := hg1'
    obtain ⟨d1, d2, d3, d4, d5, d6, d7, d8, d9, d10⟩ := hg2'
    have sx := a9 (by rw [x3]; decide)
    have sy := b9 (by rw [y3]; decide)
    obtain ⟨g, q1, q2, q3⟩ := tp_ok hx hy x3 y3 c8 d8 c9 d9
    obtain ⟨pl, hpl⟩ : ∃ pl : Nat, (pl : Int) = e1 + e2 + 403 := ⟨(e1 + e2 + 403).toNat, by omega⟩
    have hsm := same_9 st 3 (rn_sg st x * rn_sg st y) (rn_lw st x + rn_lw st y) g
    have hkd : rn_kd (RV_takeProduct st 9 x y) 9 = 3 := by rw [q1]; show upd (rn_kd st) 9 3 9 = 3; exact upd_same
    have hsg : rn_sg (RV_takeProduct st 9 x y) 9 = rn_sg st x * rn_sg st y := by rw [q1]; show upd (rn_sg st) 9 _ 9 = _; exact upd_same
    have hlw : (rn_lw (RV_takeProduct st 9 x y) 9).toInt + 589 = pl := by
      rw [q1]
      show (upd (rn_lw st) 9 (rn_lw st x + rn_lw st y) 9).toInt + 589 = pl
      rw [upd_same, ar_add (by omega) (by omega)]
      omega
    have hlb : rn_lb (RV_takeProduct st 9 x y) 9 = g := by rw [q1]; exact sl_lb _ _ _
    rw [← q1] at hsm
    rw [hsg]
    generalize RV_takeProduct st 9 x y = t9 at hsm hkd hlw hlb
    obtain ⟨f0, y1, y2, y3'⟩ := ex_clear t9
    have hXY : X * Y < 2 ^ 186 := by
      have := Nat.mul_lt_mul'' c6 d6
      rw [← Nat.pow_add] at this
      exact this
    obtain ⟨f, z1, z2, z3⟩ := cl_gather9 (st := t9) y2 y3' hkd (by rw [hlb]; exact q2) (by rw [hlb]; exact q3) hlw (by omega) hXY
    obtain ⟨m1, w1, w2, w3, -⟩ := rm_clear_ok ms
    have hm1 : ∀ r p e X, reg3 st ms r p e X → reg3 st m1 r p e X := by
      intro r p e X hg
      obtain ⟨c1, c2, c3, c4, c5, c6, c7, c8, c9, c10⟩ := hg
      exact ⟨c1, by rw [w2.2.2.2.1]; exact c2, c3, c4, c5, c6, c7, c8, c9, by rw [w2.2.2.2.2]; exact c10⟩
    obtain ⟨f6, v1, v2, v3⟩ := pp_ok (sh := pl + 11) hx hy a2 b2 (by rw [w2.1]; exact a4) (by rw [w2.1]; exact b4) (hm1 _ _ _ _ hg1) (hm1 _ _ _ _ hg2) (fun i hi => (w3 i hi).1) (by omega)
    obtain ⟨T, hT, hT1, hT2⟩ := hb_XY c5 c6 d5 d6
    have hm6 : rm_setr m1 6 f6 6 = f6 := rs_at _ _ _
    have hR9 : Rel (rn_setx t9 f) (rm_setr m1 6 f6) := rel_same (rel_same hR hsm ⟨rfl, rfl, rfl, rfl, rfl⟩) (same_sx t9 f) (same_6 w2 f6)
    obtain ⟨o, t, u, r1, r2, r3⟩ := both_exact hR9 hv (sgs_mul sx sy) hm (E := X * Y * 2 ^ pl) (T := T + pl) z2 z3 (by rw [hm6]; exact v2) (by rw [hm6, v3, Nat.pow_add, ← Nat.mul_assoc]) (hb_mul hT) (by omega) (by omega)
    refine ⟨o, t, u, ?_, ?_, r3⟩
    · unfold RN_storeValue
      rw [if_pos hkd, nm_e0, nm_e0, bd_id, y1, z1]
      exact r1
    · rw [if_pos h3, w1, ob1_some, v1, ob1_some, ob2_id]
      exact r2
  · have hk : RV_takeProduct st 9 x y = RV_become st 9 (RN_productKind (rn_kd st x) (rn_kd st y)) (rn_sg st x * rn_sg st y) := by
      unfold RV_takeProduct
      rw [nm_e0, nm_e0, if_neg]
      rw [be_kd, upd_same]
      exact h3
    have hkd : rn_kd (RV_takeProduct st 9 x y) 9 = RN_productKind (rn_kd st x) (rn_kd st y) := by rw [hk, be_kd, upd_same]
    have hsg : rn_sg (RV_takeProduct st 9 x y) 9 = rn_sg st x * rn_sg st y := by rw [hk, be_sg, upd_same]
    have hsm := same_b9 st (RN_productKind (rn_kd st x) (rn_kd st y)) (rn_sg st x * rn_sg st y)
    rw [← hk] at hsm
    obtain ⟨t, u, r1, r2, r3⟩ := both_plain (rel_same hR hsm ⟨rfl, rfl, rfl, rfl, rfl⟩) hv (k := RN_productKind (rn_kd st x) (rn_kd st y)) (s := rn_sg st x * rn_sg st y) (k012 k3 h3) (fun h => sgs_mul (a9 (k2 h).1) (b9 (k2 h).2))
    refine ⟨0, t, u, ?_, ?_, r3⟩
    · unfold RN_storeValue
      rw [hkd, if_neg h3, bd_id, hsg]
      exact r1
    · rw [if_neg h3, ob2_id]
      exact r2
theorem op_mul (st : rn_S) (ms : rm_S) (d x y m : Int32) (hR : Rel st ms) : ∃ r t u, RN_mul st d x y m = (r, t) ∧ RM_mul ms d x y m = some (r, u) ∧ Rel t u := by
  rcases tgt_cases d m with ⟨v, hv, e, hm, t1, t2, t3⟩ | ⟨t1, t2⟩
  · rcases reg_cases x with ⟨w, hw, e2, r1, r2⟩ | ⟨r1, r2⟩
    · rcases reg_cases y with ⟨z, hz, e3, r3, r4⟩ | ⟨r3, r4⟩
      · subst e
        subst e2
        subst e3
        obtain ⟨p, a1, a2, a3, a4, a5, a6, a7, a8, a9, a10⟩ := hR z hz
        have ho : ob_in (nI z) 8 = true := ob_nI hz (by decide)
        have hc : (nI z).toNatClampNeg = z := nI_clamp (by omega)
        have hc2 : (nI w).toNatClampNeg = w := nI_clamp (by omega)
        have ho2 : ob_in (nI w) 8 = true := ob_nI hw (by decide)
        obtain ⟨-, -, -, -, -, l5, -, l7, -⟩ := hR w hw
        have hpk := pk_alike (st := st) (ms := ms) hw hz (l5 ▸ l7) (a5 ▸ a7)
        obtain ⟨o, t, u, q1, q2, q3⟩ := both_mul hR hv hw hz hm
        refine ⟨o, t, u, ?_, ?_, q3⟩
        · simp only [RN_mul, nm_e0, t1, r1, r3, i10, if_false, hc, hc2, bd_id, q1]
        · simp only [RM_mul, nm_e0, t2, t3, r2, r4, i10, if_false, ho, ho2, if_true, hc, hc2, hpk, ob1_some]
          exact q2
      · exact ⟨9, st, ms, by simp only [RN_mul, nm_e0, t1, r1, r3, i10, if_false, if_true], by simp only [RM_mul, nm_e0, t2, r2, r4, i10, if_false, if_true], hR⟩
    · exact ⟨9, st, ms, by simp only [RN_mul, nm_e0, t1, r1, i10, if_false, if_true], by simp only [RM_mul, nm_e0, t2, r2, i10, if_false, if_true], hR⟩
  · refine ⟨9, st, ms, by simp only [RN_mul, nm_e0, t1, if_true], ?_, hR⟩
    rcases t2 with t2 | ⟨t2, t3⟩
    · simp only [RM_mul, nm_e0, t2, if_true]
    · rcases reg_cases x with ⟨w, hw, e2, r1, r2⟩ | ⟨r1, r2⟩
      · rcases reg_cases y with ⟨z, hz, e3, r3, r4⟩ | ⟨r3, r4⟩
        · simp only [RM_mul, nm_e0, t2, t3, r2, r4, i10, if_false, if_true]
        · simp only [RM_mul, nm_e0, t2, r2, r4, i10, if_false, if_true]
      · simp only [RM_mul, nm_e0, t2, r2, i10, if_false, if_true]
