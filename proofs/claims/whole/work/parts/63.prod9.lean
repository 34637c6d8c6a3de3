/-! the product on both sides -/
theorem prod9 {st : rn_S} {ms : rm_S} (hR : Rel st ms) {x y : Nat} (hx : x < 8) (hy : y < 8) :
    ∃ t9, RV_takeProduct st 9 x y = t9 ∧ same_c st t9 ∧ rn_kd t9 9 = RN_productKind (rn_kd st x) (rn_kd st y) ∧ rn_sg t9 9 = rn_sg st x * rn_sg st y ∧ iskind (rn_kd t9 9) ∧ (rn_kd t9 9 ≠ 0 → issign (rn_sg t9 9)) ∧
      (rn_kd t9 9 = 3 → ∃ pl W m1 f6, val9 t9 pl W ∧ 2 ^ 184 ≤ W ∧ RM_clear ms = some m1 ∧ same_m ms m1 ∧ RM_putProduct m1 (nI x) (nI y) = some (rm_setr m1 6 f6) ∧ isb f6 ∧ rv f6 = W * 2 ^ pl * 2 ^ 11) := by
  obtain ⟨p, a1, a2, a3, a4, a5, a6, a7, a8, a9, a10⟩ := hR x hx
  obtain ⟨p', b1, b2, b3, b4, b5, b6, b7, b8, b9, b10⟩ := hR y hy
  obtain ⟨k1, k2, k3⟩ := pk_3 a7 b7
  by_cases h3 : RN_productKind (rn_kd st x) (rn_kd st y) = 3
  · obtain ⟨x3, y3⟩ := k1 h3
    obtain ⟨e1, X, hg1⟩ := a10 x3
    obtain ⟨e2, Y, hg2⟩ := b10 y3
    have hg1' := hg1
    have hg2' := hg2
    obtain ⟨c1, c2, c3, c4, c5, c6, c7, c8, c9, c10⟩ := hg1'
    obtain ⟨d1, d2, d3, d4, d5, d6, d7, d8, d9, d10⟩ := hg2'
    have sx := a9 (by rw [x3]; decide)
    have sy := b9 (by rw [y3]; decide)
    obtain ⟨g, q1, q2, q3⟩ := tp_ok hx hy x3 y3 c8 d8 c9 d9
    obtain ⟨pl, hpl⟩ : ∃ pl : Nat, (pl : Int) = e1 + e2 + 403 := ⟨(e1 + e2 + 403).toNat, by omega⟩
    have hsm := same_9 st 3 (rn_sg st x * rn_sg st y) (rn_lw st x + rn_lw st y) g
    have hkd : rn_kd (RV_takeProduct st 9 x y) 9 = 3 := by rw [q1]; show upd (rn_kd st) 9 3 9 = 3; exact upd_same
    have hsg : rn_sg (RV_takeProduct st 9 x y) 9 = rn_sg st x * rn_sg st y := by rw [q1]; show upd (rn_sg st) 9 _ 9 = _; exact upd_same
    have hlw : (rn_lw (RV_takeProduct st 9 x y) 9).toInt + 589 = pl := by
      rw [q1]
      show (upd (rn_lw st) 9 (rn_lw st x + rn_lw st y) 9).toInt + 589 = pl
      rw [upd_same, ar_add (by omega) (by omega)]
      omega
    have hlb : rn_lb (RV_takeProduct st 9 x y) 9 = g := by rw [q1]; exact sl_lb _ _ _
    rw [← q1] at hsm
    have hXY : X * Y < 2 ^ 186 := by
      have := Nat.mul_lt_mul'' c6 d6
      rw [← Nat.pow_add] at this
      exact this
    have hXY2 : 2 ^ 184 ≤ X * Y := by
      have := Nat.mul_le_mul c5 d5
      rw [← Nat.pow_add] at this
      exact this
    obtain ⟨m1, w1, w2, w3, -⟩ := rm_clear_ok ms
    have hm1 : ∀ r p e X, reg3 st ms r p e X → reg3 st m1 r p e X := by
      intro r p e X hg
      obtain ⟨c1, c2, c3, c4, c5, c6, c7, c8, c9, c10⟩ := hg
      exact ⟨c1, by rw [w2.2.2.2.1]; exact c2, c3, c4, c5, c6, c7, c8, c9, by rw [w2.2.2.2.2]; exact c10⟩
    obtain ⟨f6, v1, v2, v3⟩ := pp_ok (sh := pl + 11) hx hy a2 b2 (by rw [w2.1]; exact a4) (by rw [w2.1]; exact b4) (hm1 _ _ _ _ hg1) (hm1 _ _ _ _ hg2) (fun i hi => (w3 i hi).1) (by omega)
    exact ⟨_, rfl, hsm, by rw [hkd, h3], hsg, by rw [hkd]; exact Or.inr (Or.inr (Or.inr rfl)), fun _ => by rw [hsg]; exact sgs_mul sx sy, fun _ => ⟨pl, X * Y, m1, f6, ⟨by rw [hlb]; exact q2, by rw [hlb]; exact q3, hlw, by omega, hXY⟩, hXY2, w1, w2, v1, v2, by rw [v3, Nat.pow_add, ← Nat.mul_assoc]⟩⟩
  · have hk : RV_takeProduct st 9 x y = RV_become st 9 (RN_productKind (rn_kd st x) (rn_kd st y)) (rn_sg st x * rn_sg st y) := by
      unfold RV_takeProduct
      rw [nm_e0, nm_e0, if_neg]
      rw [be_kd, upd_same]
      exact h3
    have hkd : rn_kd (RV_takeProduct st 9 x y) 9 = RN_productKind (rn_kd st x) (rn_kd st y) := by rw [hk, be_kd, upd_same]
    have hsg : rn_sg (RV_takeProduct st 9 x y) 9 = rn_sg st x * rn_sg st y := by rw [hk, be_sg, upd_same]
    have hsm := same_b9 st (RN_productKind (rn_kd st x) (rn_kd st y)) (rn_sg st x * rn_sg st y)
    rw [← hk] at hsm
    exact ⟨_, rfl, hsm, hkd, hsg, by rw [hkd]; exact k3, fun h => by rw [hkd] at h; rw [hsg]; exact sgs_mul (a9 (k2 h).1) (b9 (k2 h).2), fun h => absurd (hkd.symm.trans h) h3⟩
