/-! div: alike, the operation -/
theorem qu_top {q A Y X : Nat} (hA : A = X * 2 ^ 95) (h1 : q * Y ≤ A) (h2 : A < (q + 1) * Y) (x1 : 2 ^ 92 ≤ X) (x2 : X < 2 ^ 93) (y1 : 2 ^ 92 ≤ Y) (y2 : Y < 2 ^ 93) : ∃ t, hb_at q t ∧ 94 ≤ t ∧ t ≤ 95 := by
  have k1 : 2 ^ 92 * 2 ^ 95 ≤ A := by rw [hA]; exact Nat.mul_le_mul_right _ x1
  have k2 : A < 2 ^ 93 * 2 ^ 95 := by rw [hA]; exact Nat.mul_lt_mul_of_pos_right x2 (p2_pos _)
  have k3 : (q + 1) * Y ≤ (q + 1) * 2 ^ 93 := Nat.mul_le_mul_left _ (Nat.le_of_lt y2)
  have k4 : q * 2 ^ 92 ≤ q * Y := Nat.mul_le_mul_left _ y1
  have k5 : 2 ^ 94 ≤ q := by
    have : 2 ^ 94 * 2 ^ 93 < (q + 1) * 2 ^ 93 := by
      rw [← Nat.pow_add]
      rw [← Nat.pow_add] at k1
      exact Nat.lt_of_le_of_lt k1 (Nat.lt_of_lt_of_le h2 k3)
    have := Nat.lt_of_mul_lt_mul_right this
    omega
  have k6 : q < 2 ^ 96 := by
    have : q * 2 ^ 92 < 2 ^ 96 * 2 ^ 92 := by
      rw [← Nat.pow_add]
      rw [← Nat.pow_add] at k2
      exact Nat.lt_of_le_of_lt (Nat.le_trans k4 h1) k2
    exact Nat.lt_of_mul_lt_mul_right this
  obtain ⟨t, ht⟩ := hb_ex (V := q) (Nat.lt_of_lt_of_le (p2_pos _) k5)
  refine ⟨t, ht, ?_, ?_⟩
  · refine Nat.le_of_not_lt (fun h => ?_)
    exact absurd (Nat.lt_of_le_of_lt k5 (Nat.lt_of_lt_of_le ht.2 (p2_le (show t + 1 ≤ 94 by omega)))) (Nat.lt_irrefl _)
  · refine Nat.le_of_not_lt (fun h => ?_)
    exact absurd (Nat.lt_of_lt_of_le k6 (Nat.le_trans (p2_le (show 96 ≤ t by omega)) ht.1)) (Nat.lt_irrefl _)
theorem qu_half {R q Y A B : Nat} (h : R + 2 * q * Y = B) (hB : B = 2 * A) (hR : R < 2 * Y) : q * Y ≤ A ∧ A < (q + 1) * Y ∧ (R = 0 ↔ q * Y = A) := by
  have e1 : 2 * q * Y = 2 * (q * Y) := Nat.mul_assoc _ _ _
  rw [Nat.add_mul, Nat.one_mul]
  generalize q * Y = z at *
  omega
theorem both_div {st : rn_S} {ms : rm_S} (hR : Rel st ms) {v x y : Nat} (hv : v < 8) (hx : x < 8) (hy : y < 8) (x3 : rn_kd st x = 3) (y3 : rn_kd st y = 3) {s mode : Int32} (hs : issign s) (hm : ismode mode) :
    ∃ o t u, RN_storeExact (RN_workOutQuotient st x y) (nI v) s mode = (o, t) ∧ ob1 (RM_clear ms) (fun t137 => ob1 (RM_divide t137 (nI x) (nI y)) (fun t143 => ob2 (RM_round t143 (nI v) s mode) (fun r152 t152 => some (r152, t152)))) = some (o, u) ∧ Rel t u := by
  obtain ⟨p, a1, a2, a3, a4, a5, a6, a7, a8, a9, a10⟩ := hR x hx
  obtain ⟨p', b1, b2, b3, b4, b5, b6, b7, b8, b9, b10⟩ := hR y hy
  obtain ⟨e1, X, hg1⟩ := a10 x3
  obtain ⟨e2, Y, hg2⟩ := b10 y3
  have hg1' := hg1
  have hg2' := hg2
  obtain ⟨c1, c2, c3, c4, c5, c6, c7, c8, c9, c10⟩ := hg1'
  obtain ⟨d1, d2, d3, d4, d5, d6, d7, d8, d9, d10⟩ := hg2'
  obtain ⟨w, hw⟩ : ∃ w : Nat, (w : Int) = e1 - e2 + 589 := ⟨(e1 - e2 + 589).toNat, by omega⟩
  obtain ⟨t1, q1, q2, q3, q, R, q4, q5, q6⟩ := wq_ok hx hy hg1 hg2 hw
  obtain ⟨m1, w1, w2, w3, -⟩ := rm_clear_ok ms
  obtain ⟨u1, r1, r2, r3, q', R', r4, r5, r6⟩ := rd_ok (L := w + 11) hx hy a2 b2 (by rw [w2.1]; exact a4) (by rw [w2.1]; exact b4) (reg3_m hg1 w2.2.2.2.1 w2.2.2.2.2) (reg3_m hg2 w2.2.2.2.1 w2.2.2.2.2) (fun i hi => (w3 i hi).1) (by omega)
  obtain ⟨g1, g2, g3⟩ := qu_half (A := X * 2 ^ 95) q4 (by rw [← Nat.mul_assoc, Nat.mul_comm 2, Nat.mul_assoc]) q5
  obtain ⟨g4, g5, g6⟩ := qu_half (A := 2 ^ 3 * (X * 2 ^ 95)) r4 (by rw [← Nat.mul_assoc, ← Nat.mul_assoc, Nat.mul_comm _ X, Nat.mul_assoc]) r5
  have hY : 0 < Y := Nat.lt_of_lt_of_le (p2_pos _) d5
  obtain ⟨e, f1, f2, f3⟩ := ds_q (G := fun z => z * Y) (c := 2) (d := 3) (by decide) (fun a b h => Nat.mul_lt_mul_of_pos_right h hY) (fun z => Nat.mul_assoc _ _ _) g1 g2 g4 g5
  obtain ⟨t, ht, ht1, ht2⟩ := qu_top rfl g1 g2 c5 c6 d5 d6
  have hR9 : Rel t1 u1 := rel_same hR q2 ⟨r2.1.trans w2.1, r2.2.1.trans w2.2.1, r2.2.2.1.trans w2.2.2.1, r2.2.2.2.1.trans w2.2.2.2.1, r2.2.2.2.2.trans w2.2.2.2.2⟩
  have s01 : ∀ n : Nat, ((if n = 0 then 0 else 1) = 0 ↔ n = 0) ∧ (if n = 0 then 0 else 1) < 2 := fun n => by
    by_cases h : n = 0
    · rw [if_pos h]
      omega
    · rw [if_neg h]
      omega
  obtain ⟨o, t2, u2, z1, z2, z3⟩ := both_digits hR9 hv hs hm q3 r3 (d := 3) (e := e) q6 r6 f2 f1 (by rw [(s01 R).1, (s01 R').1, g3, g6]; exact f3) (s01 R).2 (s01 R').2 ht ht1 (by omega) (by omega)
  refine ⟨o, t2, u2, ?_, ?_, z3⟩
  · rw [q1]
    exact z1
  · rw [w1, ob1_some, r1, ob1_some, ob2_id]
    exact z2
theorem qk_3 {k k' : Int32} (h1 : iskind k) (h2 : iskind k') : (RN_quotientKind k k' = 3 → k = 3 ∧ k' = 3) ∧ (RN_quotientKind k k' ≠ 0 → k ≠ 0 ∧ k' ≠ 0) ∧ iskind (RN_quotientKind k k') := by
  rcases h1 with h | h | h | h <;> rcases h2 with h' | h' | h' | h' <;> rw [h, h'] <;> unfold iskind <;> decide
theorem keep0 (ms : rm_S) (d s : Int32) : RM_keep ms d 0 0 = RM_keep ms d 0 s := by
  unfold RM_keep
  simp only [if_true]
theorem md_quo {k k' : Int32} (h1 : iskind k) (h2 : iskind k') (d x y m s : Int32) (ms : rm_S) : (if k = 0 then RM_div_86 d ms else (if k' = 0 then RM_div_86 d ms else (if k = k' then (if k = (3 : Int32) then RM_div_94 d x y m k k' s ms else RM_div_86 d ms) else RM_div_94 d x y m k k' s ms)))
    = if RN_quotientKind k k' = 3 then ob1 (RM_clear ms) (fun t137 => ob1 (RM_divide t137 x y) (fun t143 => ob2 (RM_round t143 d s m) (fun r152 t152 => some (r152, t152)))) else RM_keep ms d (RN_quotientKind k k') s := by
  have e1 : RM_div_86 d ms = RM_keep ms d 0 s := by rw [RM_div_86, ob2_id, keep0 ms d s]
  have e2 : RM_div_106 d s ms = RM_keep ms d 1 s := by rw [RM_div_106, ob2_id]
  have e3 : RM_div_127 d s ms = RM_keep ms d 2 s := by rw [RM_div_127, ob2_id]
  rw [e1, RM_div_94, e2, e3]
  rcases h1 with h | h | h | h <;> rcases h2 with h' | h' | h' | h' <;> rw [h, h'] <;> rfl
theorem op_div (st : rn_S) (ms : rm_S) (d x y m : Int32) (hR : Rel st ms) : ∃ r t u, RN_div st d x y m = (r, t) ∧ RM_div ms d x y m = some (r, u) ∧ Rel t u := by
  rcases tgt_cases d m with ⟨v, hv, e, hm, t1, t2, t3⟩ | ⟨t1, t2⟩
  · rcases reg_cases x with ⟨w, hw, e2, r1, r2⟩ | ⟨r1, r2⟩
    · rcases reg_cases y with ⟨z, hz, e3, r3, r4⟩ | ⟨r3, r4⟩
      · subst e
        subst e2
        subst e3
        obtain ⟨p, a1, a2, a3, a4, a5, a6, a7, a8, a9, a10⟩ := hR z hz
        have ho : ob_in (nI z) 8 = true := ob_nI hz (by decide)
        have hc : (nI z).toNatClampNeg = z := nI_clamp (by omega)
        have hc2 : (nI w).toNatClampNeg = w := nI_clamp (by omega)
        have ho2 : ob_in (nI w) 8 = true := ob_nI hw (by decide)
        obtain ⟨p', l1, l2, l3, l4, l5, l6, l7, l8, l9, l10⟩ := hR w hw
        obtain ⟨k1, k2, k3⟩ := qk_3 l7 a7
        have hM : RM_div ms (nI v) (nI w) (nI z) m = if RN_quotientKind (rn_kd st w) (rn_kd st z) = 3 then ob1 (RM_clear ms) (fun t137 => ob1 (RM_divide t137 (nI w) (nI z)) (fun t143 => ob2 (RM_round t143 (nI v) (rn_sg st w * rn_sg st z) m) (fun r152 t152 => some (r152, t152)))) else RM_keep ms (nI v) (RN_quotientKind (rn_kd st w) (rn_kd st z)) (rn_sg st w * rn_sg st z) := by
          have := md_quo (ms := ms) (d := nI v) (x := nI w) (y := nI z) (m := m) (s := rn_sg st w * rn_sg st z) l7 a7
          rw [← this, l5, a5, l6, a6]
          simp only [RM_div, nm_e0, t2, t3, r2, r4, i10, if_false, ho, ho2, if_true, hc, hc2]
        have hN : RN_div st (nI v) (nI w) (nI z) m = if RN_quotientKind (rn_kd st w) (rn_kd st z) = 3 then RN_storeExact (RN_workOutQuotient st w z) (nI v) (rn_sg st w * rn_sg st z) m else RN_storePlain st (nI v) (RN_quotientKind (rn_kd st w) (rn_kd st z)) (rn_sg st w * rn_sg st z) := by
          simp only [RN_div, nm_e0, t1, r1, r3, i10, if_false, hc, hc2, bd_id]
        rw [hM, hN]
        by_cases h3 : RN_quotientKind (rn_kd st w) (rn_kd st z) = 3
        · rw [if_pos h3, if_pos h3]
          obtain ⟨x3, y3⟩ := k1 h3
          exact both_div hR hv hw hz x3 y3 (sgs_mul (l9 (by rw [x3]; decide)) (a9 (by rw [y3]; decide))) hm
        · rw [if_neg h3, if_neg h3]
          obtain ⟨t, u, q1, q2, q3⟩ := both_plain hR hv (k := RN_quotientKind (rn_kd st w) (rn_kd st z)) (s := rn_sg st w * rn_sg st z) (k012 k3 h3) (fun h => sgs_mul (l9 (k2 h).1) (a9 (k2 h).2))
          exact ⟨0, t, u, q1, q2, q3⟩
      · exact ⟨9, st, ms, by simp only [RN_div, nm_e0, t1, r1, r3, i10, if_false, if_true], by simp only [RM_div, nm_e0, t2, r2, r4, i10, if_false, if_true], hR⟩
    · exact ⟨9, st, ms, by simp only [RN_div, nm_e0, t1, r1, i10, if_false, if_true], by simp only [RM_div, nm_e0, t2, r2, i10, if_false, if_true], hR⟩
  · refine ⟨9, st, ms, by simp only [RN_div, nm_e0, t1, if_true], ?_, hR⟩
    rcases t2 with t2 | ⟨t2, t3⟩
    · simp only [RM_div, nm_e0, t2, if_true]
    · rcases reg_cases x with ⟨w, hw, e2, r1, r2⟩ | ⟨r1, r2⟩
      · rcases reg_cases y with ⟨z, hz, e3, r3, r4⟩ | ⟨r3, r4⟩
        · simp only [RM_div, nm_e0, t2, t3, r2, r4, i10, if_false, if_true]
        · simp only [RM_div, nm_e0, t2, r2, r4, i10, if_false, if_true]
      · simp only [RM_div, nm_e0, t2, r2, i10, if_false, if_true]
