/-! add and sub: alike -/
theorem sgn_mul {z : Int} {k : Nat} : sgn (z * ((2 ^ k : Nat) : Int)) = sgn z := by
  have hp : (0 : Int) < ((2 ^ k : Nat) : Int) := Int.ofNat_lt.mpr (p2_pos k)
  rcases Int.lt_trichotomy z 0 with h | h | h
  · rw [sgn_neg h, sgn_neg (Int.mul_neg_of_neg_of_pos h hp)]
  · rw [h, Int.zero_mul]
  · rw [sgn_pos h, sgn_pos (Int.mul_pos h hp)]
theorem sgn_z {z : Int} : (sgn z = 0) ↔ z = 0 := by
  refine ⟨fun h => ?_, fun h => by rw [h]; rfl⟩
  rcases Int.lt_trichotomy z 0 with h1 | h1 | h1
  · rw [sgn_neg h1] at h
    exact absurd h (by decide)
  · exact h1
  · rw [sgn_pos h1] at h
    exact absurd h (by decide)
theorem sgn_s {z : Int} (h : z ≠ 0) : issign (sgn z) := by
  rcases Int.lt_trichotomy z 0 with h1 | h1 | h1
  · rw [sgn_neg h1]; exact Or.inr rfl
  · exact absurd h1 h
  · rw [sgn_pos h1]; exact Or.inl rfl
/-- behind both rows: nothing, or the rounding -/
theorem both_tail {st : rn_S} {ms : rm_S} (hR : Rel st ms) {v : Nat} (hv : v < 8) {mode : Int32} (hm : ismode mode) {Z : Int} (hok : ok33 (rn_ex st)) (hE : xv (rn_ex st) = Z.natAbs) (hT : Z ≠ 0 → ∃ T, hb_at (xv (rn_ex st)) T ∧ 296 ≤ T ∧ T ≤ 790) (hb : isb (ms 6)) (hV : rv (ms 6) = Z.natAbs * 2 ^ 11) :
    ∃ o t u, (if sgn Z = 0 then nm (RN_signOfNothing mode) (fun r185 => bd (RN_storePlain st (nI v) (2 : Int32) r185) (fun r188 t188 => (r188, t188))) else bd (RN_storeExact st (nI v) (sgn Z) mode) (fun r198 t198 => (r198, t198))) = (o, t) ∧ (if sgn Z = 0 then ob2 (RM_nothing ms (nI v) mode) (fun r206 t206 => some (r206, t206)) else ob2 (RM_round ms (nI v) (sgn Z) mode) (fun r218 t218 => some (r218, t218))) = some (o, u) ∧ Rel t u := by
  by_cases hz : Z = 0
  · rw [if_pos (sgn_z.mpr hz), if_pos (sgn_z.mpr hz), nm_e0, bd_id, ob2_id, son st ms]
    obtain ⟨t, u, r1, r2, r3⟩ := both_plain hR hv (k := 2) (s := RN_signOfNothing mode) (Or.inr (Or.inr rfl)) (fun _ => son_sg mode)
    exact ⟨0, t, u, r1, r2, r3⟩
  · rw [if_neg (fun h => hz (sgn_z.mp h)), if_neg (fun h => hz (sgn_z.mp h)), bd_id, ob2_id]
    obtain ⟨T, h1, h2, h3⟩ := hT hz
    rw [hE] at h1
    exact both_exact hR hv (sgn_s hz) hm (E := Z.natAbs) hok hE hb hV h1 (by omega) (by omega)
theorem both_sum {st : rn_S} {ms : rm_S} (hR : Rel st ms) {v x y : Nat} (hv : v < 8) (hx : x < 8) (hy : y < 8) {ys mode : Int32} (hys : rn_kd st y ≠ 0 → issign ys) (hm : ismode mode) :
    ∃ o t u, RN_storeSum st (nI v) x y ys mode = (o, t) ∧ RM_sum ms (nI v) (nI x) (nI y) ys mode = some (o, u) ∧ Rel t u := by
  obtain ⟨p, a1, a2, a3, a4, a5, a6, a7, a8, a9, a10⟩ := hR x hx
  obtain ⟨p', b1, b2, b3, b4, b5, b6, b7, b8, b9, b10⟩ := hR y hy
  have hox : ob_in (nI x) 8 = true := ob_nI hx (by decide)
  have hcx : (nI x).toNatClampNeg = x := nI_clamp (by omega)
  have hoy : ob_in (nI y) 8 = true := ob_nI hy (by decide)
  have hcy : (nI y).toNatClampNeg = y := nI_clamp (by omega)
  -- plain answers
  have plain : ∀ k s : Int32, (k = 0 ∨ k = 1 ∨ k = 2) → (k ≠ 0 → issign s) → ∃ o t u, RN_storePlain st (nI v) k s = (o, t) ∧ RM_keep ms (nI v) k s = some (o, u) ∧ Rel t u := fun k s hk hs => by
    obtain ⟨t, u, r1, r2, r3⟩ := both_plain hR hv hk hs
    exact ⟨0, t, u, r1, r2, r3⟩
  by_cases x0 : rn_kd st x = 0
  · have x0' : ms 2 x = 0 := a5 ▸ x0
    simp only [RN_storeSum, RN_storeSum_14, x0, if_true, bd_id, RM_sum, hox, hoy, hcx, hcy, nm_e0, x0', RM_sum_49, ob2_id]
    exact plain 0 0 (Or.inl rfl) (fun h => absurd rfl h)
  · have x0' : ¬ ms 2 x = 0 := a5 ▸ x0
    by_cases y0 : rn_kd st y = 0
    · have y0' : ms 2 y = 0 := b5 ▸ y0
      simp only [RN_storeSum, RN_storeSum_14, x0, y0, if_true, if_false, bd_id, RM_sum, hox, hoy, hcx, hcy, nm_e0, x0', y0', RM_sum_49, ob2_id]
      exact plain 0 0 (Or.inl rfl) (fun h => absurd rfl h)
    · have y0' : ¬ ms 2 y = 0 := b5 ▸ y0
      have sx := a9 x0
      have sy := hys y0
      by_cases x1 : rn_kd st x = 1
      · have x1' : ms 2 x = 1 := a5 ▸ x1
        by_cases y1 : rn_kd st y = 1
        · have y1' : ms 2 y = 1 := b5 ▸ y1
          by_cases he : rn_sg st x = ys
          · have he' : ms 3 x = ys := a6 ▸ he
            simp only [RN_storeSum, RN_storeSum_55, RN_storeSum_71, RN_storeSum_91, x1, y1, k10, he, if_true, if_false, bd_id, RM_sum, RM_sum_57, RM_sum_69, RM_sum_89, hox, hoy, hcx, hcy, nm_e0, x1', y1', he', ob2_id]
            exact plain 1 ys (Or.inr (Or.inl rfl)) (fun _ => sy)
          · have he' : ¬ ms 3 x = ys := a6 ▸ he
            simp only [RN_storeSum, x1, y1, k10, he, if_true, if_false, bd_id, RM_sum, RM_sum_49, hox, hoy, hcx, hcy, nm_e0, x1', y1', he', ob2_id]
            exact plain 0 0 (Or.inl rfl) (fun h => absurd rfl h)
        · have y1' : ¬ ms 2 y = 1 := b5 ▸ y1
          simp only [RN_storeSum, RN_storeSum_55, RN_storeSum_71, RN_storeSum_91, x1, y0, y1, k10, if_true, if_false, bd_id, RM_sum, RM_sum_57, RM_sum_69, RM_sum_89, hox, hoy, hcx, hcy, nm_e0, x1', y0', y1', ob2_id, a6]
          exact plain 1 (ms 3 x) (Or.inr (Or.inl rfl)) (fun _ => a6 ▸ sx)
      · have x1' : ¬ ms 2 x = 1 := a5 ▸ x1
        by_cases y1 : rn_kd st y = 1
        · have y1' : ms 2 y = 1 := b5 ▸ y1
          simp only [RN_storeSum, RN_storeSum_55, RN_storeSum_71, RN_storeSum_91, x0, x1, y1, k10, if_true, if_false, bd_id, RM_sum, RM_sum_57, RM_sum_69, RM_sum_89, hox, hoy, hcx, hcy, nm_e0, x0', x1', y1', ob2_id]
          exact plain 1 ys (Or.inr (Or.inl rfl)) (fun _ => sy)
        · have y1' : ¬ ms 2 y = 1 := b5 ▸ y1
          -- 2 or 3, each
          have e137 : ∀ (e1 e2 : Int) (X1 X2 : Nat) (f : Nat → Int32), RE_splitSign (RE_gather (RE_gather (RE_clear st) x (rn_sg st x)) y ys) = (sgn (gz st x (rn_sg st x) e1 X1 + gz st y ys e2 X2), rn_setx st f) → RN_storeSum_137 (nI v) x y ys mode st = (if sgn (gz st x (rn_sg st x) e1 X1 + gz st y ys e2 X2) = 0 then nm (RN_signOfNothing mode) (fun r185 => bd (RN_storePlain (rn_setx st f) (nI v) (2 : Int32) r185) (fun r188 t188 => (r188, t188))) else bd (RN_storeExact (rn_setx st f) (nI v) (sgn (gz st x (rn_sg st x) e1 X1 + gz st y ys e2 X2)) mode) (fun r198 t198 => (r198, t198))) := by
            intro e1 e2 X1 X2 f h
            obtain ⟨f0, c1, c2, c3⟩ := ex_clear st
            have hsg : rn_sg (RE_clear st) x = rn_sg st x := by rw [c1]; rfl
            unfold RN_storeSum_137
            rw [nm_e0, nm_e0, nm_e0, hsg, bd_eq h]
          by_cases x2 : rn_kd st x = 2
          · have x2' : ms 2 x = 2 := a5 ▸ x2
            by_cases y2 : rn_kd st y = 2
            · have y2' : ms 2 y = 2 := b5 ▸ y2
              by_cases he : rn_sg st x = ys
              · have he' : ms 3 x = ys := a6 ▸ he
                simp only [RN_storeSum, RN_storeSum_55, RN_storeSum_133, x2, y2, k20, k21, he, if_true, if_false, bd_id, RM_sum, RM_sum_57, hox, hoy, hcx, hcy, nm_e0, x2', y2', he', ob2_id]
                exact plain 2 ys (Or.inr (Or.inr rfl)) (fun _ => sy)
              · have he' : ¬ ms 3 x = ys := a6 ▸ he
                simp only [RN_storeSum, RN_storeSum_55, RN_storeSum_133, x2, y2, k20, k21, he, if_true, if_false, bd_id, RM_sum, RM_sum_57, hox, hoy, hcx, hcy, nm_e0, x2', y2', he', ob2_id, son st ms]
                exact plain 2 _ (Or.inr (Or.inr rfl)) (fun _ => son_sg mode)
            · have y2' : ¬ ms 2 y = 2 := b5 ▸ y2
              have y3 : rn_kd st y = 3 := by
                rcases b7 with h | h | h | h
                · exact absurd h y0
                · exact absurd h y1
                · exact absurd h y2
                · exact h
              obtain ⟨e2, X2, hg2⟩ := b10 y3
              have hnx : ¬ rn_kd st x = 3 := by rw [x2]; decide
              obtain ⟨f, q1, q2, q3, q4⟩ := cl_two (st := st) (ms := ms) (p1 := p) (p2 := p') (e1 := 0) (X1 := 0) (s1 := rn_sg st x) (s2 := ys) hx hy (fun h => absurd h hnx) (fun _ => hg2) (fun h => absurd h hnx) (fun _ => sy)
              have hq := e137 _ _ _ _ f q1
              simp only [RN_storeSum, RN_storeSum_55, x2, y0, y1, y2, k20, k21, if_true, if_false, RM_sum, RM_sum_57, RM_sum_135, hox, hoy, hcx, hcy, nm_e0, x2', y0', y1', y2', ob2_id]
              rw [hq]
              -- the reference moves y
              obtain ⟨m1, d1, d2, d3, -⟩ := rm_clear_ok ms
              have hg2' : reg3 st m1 y p' e2 X2 := by
                obtain ⟨c1, c2, c3, c4, c5, c6, c7, c8, c9, c10⟩ := hg2
                exact ⟨c1, by rw [d2.2.2.2.1]; exact c2, c3, c4, c5, c6, c7, c8, c9, by rw [d2.2.2.2.2]; exact c10⟩
              obtain ⟨f6, k1, k2, k3⟩ := rm_put_ok (sh := (e2 + 496).toNat + 11) hy b1 b2 (by rw [d2.1]; exact b4) hg2' (fun i hi => (d3 i hi).1) (by have := hg2.2.2.1; omega)
              have hmv : RM_move ms (nI v) (nI y) ys mode = RM_round (rm_setr m1 6 f6) (nI v) ys mode := by
                unfold RM_move
                rw [if_pos hoy, hcy, if_pos (b5 ▸ y3), d1, ob1_some, k1, ob1_some, ob2_id]
              have hZ : gz st x (rn_sg st x) 0 0 + gz st y ys e2 X2 = ys.toInt * ((X2 * 2 ^ (e2 + 496).toNat : Nat) : Int) := by
                unfold gz
                rw [if_neg hnx, if_pos y3, Int.zero_add]
              have hXp : 0 < X2 * 2 ^ (e2 + 496).toNat := Nat.mul_pos (Nat.lt_of_lt_of_le (p2_pos 92) hg2.2.2.2.2.1) (p2_pos _)
              have hsgn : sgn (gz st x (rn_sg st x) 0 0 + gz st y ys e2 X2) = ys := by
                rw [hZ]
                rcases sy with h | h <;> rw [h]
                · rw [show (1 : Int32).toInt = 1 from rfl, sgn_pos (by omega)]
                · rw [show (-1 : Int32).toInt = -1 from rfl, sgn_neg (by omega)]
              have hne : gz st x (rn_sg st x) 0 0 + gz st y ys e2 X2 ≠ 0 := fun h => by
                have h9 := sgn_z.mpr h
                rw [hsgn] at h9
                rcases sy with h8 | h8 <;> rw [h8] at h9 <;> exact absurd h9 (by decide)
              have hab : (gz st x (rn_sg st x) 0 0 + gz st y ys e2 X2).natAbs = X2 * 2 ^ (e2 + 496).toNat := by
                rw [hZ]
                rcases sy with h | h <;> rw [h]
                · rw [show (1 : Int32).toInt = 1 from rfl]; omega
                · rw [show (-1 : Int32).toInt = -1 from rfl]; omega
              have hm6 : rm_setr m1 6 f6 6 = f6 := rs_at _ _ _
              obtain ⟨o, t, u, r1, r2, r3⟩ := both_tail (rel_same hR (same_sx st f) (same_6 d2 f6)) hv hm (Z := gz st x (rn_sg st x) 0 0 + gz st y ys e2 X2) q2 q3 q4 (by rw [hm6]; exact k2) (by rw [hm6, k3, hab, Nat.pow_add, Nat.mul_assoc])
              refine ⟨o, t, u, r1, ?_, r3⟩
              rw [hmv]
              rw [if_neg (fun h => hne (sgn_z.mp h)), ob2_id, hsgn] at r2
              exact r2
          · have x2' : ¬ ms 2 x = 2 := a5 ▸ x2
            have x3 : rn_kd st x = 3 := by
              rcases a7 with h | h | h | h
              · exact absurd h x0
              · exact absurd h x1
              · exact absurd h x2
              · exact h
            obtain ⟨e1, X1, hg1⟩ := a10 x3
            obtain ⟨m1, d1, d2, d3, -⟩ := rm_clear_ok ms
            have hg1' : reg3 st m1 x p e1 X1 := by
              obtain ⟨c1, c2, c3, c4, c5, c6, c7, c8, c9, c10⟩ := hg1
              exact ⟨c1, by rw [d2.2.2.2.1]; exact c2, c3, c4, c5, c6, c7, c8, c9, by rw [d2.2.2.2.2]; exact c10⟩
            obtain ⟨f6, k1, k2, k3⟩ := rm_put_ok (sh := (e1 + 496).toNat + 11) hx a1 a2 (by rw [d2.1]; exact a4) hg1' (fun i hi => (d3 i hi).1) (by have := hg1.2.2.1; omega)
            have hm6 : rm_setr m1 6 f6 6 = f6 := rs_at _ _ _
            have hXp : 0 < X1 * 2 ^ (e1 + 496).toNat := Nat.mul_pos (Nat.lt_of_lt_of_le (p2_pos 92) hg1.2.2.2.2.1) (p2_pos _)
            by_cases y2 : rn_kd st y = 2
            · have y2' : ms 2 y = 2 := b5 ▸ y2
              have hny : ¬ rn_kd st y = 3 := by rw [y2]; decide
              obtain ⟨f, q1, q2, q3, q4⟩ := cl_two (st := st) (ms := ms) (p1 := p) (p2 := p') (e2 := 0) (X2 := 0) (s1 := rn_sg st x) (s2 := ys) hx hy (fun _ => hg1) (fun h => absurd h hny) (fun _ => sx) (fun h => absurd h hny)
              have hq := e137 _ _ _ _ f q1
              have hmv : RM_move ms (nI v) (nI x) (ms 3 x) mode = RM_round (rm_setr m1 6 f6) (nI v) (rn_sg st x) mode := by
                unfold RM_move
                rw [if_pos hox, hcx, if_pos (a5 ▸ x3), d1, ob1_some, k1, ob1_some, ob2_id, a6]
              simp only [RN_storeSum, RN_storeSum_55, x0, x1, x2, if_true, if_false, y0, y1, y2, k20, k21, RM_sum, RM_sum_57, RM_sum_135, hox, hoy, hcx, hcy, nm_e0, x0', x1', x2', y0', y1', y2', ob2_id, hmv]
              rw [hq]
              have hZ : gz st x (rn_sg st x) e1 X1 + gz st y ys 0 0 = (rn_sg st x).toInt * ((X1 * 2 ^ (e1 + 496).toNat : Nat) : Int) := by
                unfold gz
                rw [if_neg hny, if_pos x3, Int.add_zero]
              have hsgn : sgn (gz st x (rn_sg st x) e1 X1 + gz st y ys 0 0) = rn_sg st x := by
                rw [hZ]
                rcases sx with h | h <;> rw [h]
                · rw [show (1 : Int32).toInt = 1 from rfl, sgn_pos (by omega)]
                · rw [show (-1 : Int32).toInt = -1 from rfl, sgn_neg (by omega)]
              have hne : gz st x (rn_sg st x) e1 X1 + gz st y ys 0 0 ≠ 0 := fun h => by
                have h9 := sgn_z.mpr h
                rw [hsgn] at h9
                rcases sx with h8 | h8 <;> rw [h8] at h9 <;> exact absurd h9 (by decide)
              have hab : (gz st x (rn_sg st x) e1 X1 + gz st y ys 0 0).natAbs = X1 * 2 ^ (e1 + 496).toNat := by
                rw [hZ]
                rcases sx with h | h <;> rw [h]
                · rw [show (1 : Int32).toInt = 1 from rfl]; omega
                · rw [show (-1 : Int32).toInt = -1 from rfl]; omega
              obtain ⟨o, t, u, r1, r2, r3⟩ := both_tail (rel_same hR (same_sx st f) (same_6 d2 f6)) hv hm (Z := gz st x (rn_sg st x) e1 X1 + gz st y ys 0 0) q2 q3 q4 (by rw [hm6]; exact k2) (by rw [hm6, k3, hab, Nat.pow_add, Nat.mul_assoc])
              refine ⟨o, t, u, r1, ?_, r3⟩
              rw [if_neg (fun h => hne (sgn_z.mp h)), ob2_id, hsgn] at r2
              exact r2
            · have y2' : ¬ ms 2 y = 2 := b5 ▸ y2
              have y3 : rn_kd st y = 3 := by
                rcases b7 with h | h | h | h
                · exact absurd h y0
                · exact absurd h y1
                · exact absurd h y2
                · exact h
              obtain ⟨e2, X2, hg2⟩ := b10 y3
              obtain ⟨f, q1, q2, q3, q4⟩ := cl_two (st := st) (ms := ms) (p1 := p) (p2 := p') (s1 := rn_sg st x) (s2 := ys) hx hy (fun _ => hg1) (fun _ => hg2) (fun _ => sx) (fun _ => sy)
              have hq := e137 _ _ _ _ f q1
              have d4 := same_6 d2 f6
              have hg2' : reg3 st (rm_setr m1 6 f6) y p' e2 X2 := by
                obtain ⟨c1, c2, c3, c4, c5, c6, c7, c8, c9, c10⟩ := hg2
                exact ⟨c1, by rw [d4.2.2.2.1]; exact c2, c3, c4, c5, c6, c7, c8, c9, by rw [d4.2.2.2.2]; exact c10⟩
              obtain ⟨g6, g7, w1, w2, w3⟩ := rm_sumWith (L1 := rn_sg st x) (L3 := ys) (sh := (e2 + 496).toNat + 11) hy b1 b2 (by rw [d4.1]; exact b4) hg2' (by rw [hm6]; exact k2) (by rw [hm6, k3, Nat.pow_add, ← Nat.mul_assoc]; exact Nat.mul_pos hXp (p2_pos 11)) (by
                  rw [hm6, k3]
                  have h1 := hg1.2.2.2.2.2.1
                  have h2 := hg1.2.2.2.1
                  have h3 : X1 * 2 ^ ((e1 + 496).toNat + 11) < 2 ^ 93 * 2 ^ ((e1 + 496).toNat + 11) := Nat.mul_lt_mul_of_pos_right h1 (p2_pos _)
                  rw [← Nat.pow_add] at h3
                  exact Nat.lt_of_lt_of_le h3 (Nat.pow_le_pow_right (by decide) (by omega))) (by have := hg2.2.2.1; omega) sx sy
              have hZ : (rn_sg st x).toInt * (rv (rm_setr m1 6 f6 6) : Int) + ys.toInt * ((X2 * 2 ^ ((e2 + 496).toNat + 11) : Nat) : Int) = (gz st x (rn_sg st x) e1 X1 + gz st y ys e2 X2) * ((2 ^ 11 : Nat) : Int) := by
                rw [hm6, k3]
                unfold gz
                rw [if_pos x3, if_pos y3, Nat.pow_add, ← Nat.mul_assoc, Nat.pow_add, ← Nat.mul_assoc, Int.natCast_mul (X1 * 2 ^ (e1 + 496).toNat) (2 ^ 11), Int.natCast_mul (X2 * 2 ^ (e2 + 496).toNat) (2 ^ 11), ← Int.mul_assoc, ← Int.mul_assoc, ← Int.add_mul]
              rw [hZ] at w1 w3
              rw [sgn_mul] at w1
              have h33 : rm_setr m1 6 f6 3 x = rn_sg st x := by rw [d4.2.2.1, a6]
              simp only [RN_storeSum, RN_storeSum_55, x0, x1, x2, if_true, if_false, y0, y1, y2, RM_sum, RM_sum_57, RM_sum_135, hox, hoy, hcx, hcy, nm_e0, x0', x1', x2', y0', y1', y2', d1, ob1_some, k1, h33, w1, ob2_some]
              rw [hq]
              have hm66 : rm_setr (rm_setr (rm_setr m1 6 f6) 7 g7) 6 g6 6 = g6 := rs_at _ _ _
              exact both_tail (rel_same hR (same_sx st f) (same_67 d4 g6 g7)) hv hm (Z := gz st x (rn_sg st x) e1 X1 + gz st y ys e2 X2) q2 q3 q4 (by rw [hm66]; exact w2) (by rw [hm66, w3, Int.natAbs_mul, Int.natAbs_natCast])
theorem op_add (st : rn_S) (ms : rm_S) (d x y m : Int32) (hR : Rel st ms) : ∃ r t u, RN_add st d x y m = (r, t) ∧ RM_add ms d x y m = some (r, u) ∧ Rel t u := by
  rcases tgt_cases d m with ⟨v, hv, e, hm, t1, t2, t3⟩ | ⟨t1, t2⟩
  · rcases reg_cases x with ⟨w, hw, e2, r1, r2⟩ | ⟨r1, r2⟩
    · rcases reg_cases y with ⟨z, hz, e3, r3, r4⟩ | ⟨r3, r4⟩
      · subst e
        subst e2
        subst e3
        obtain ⟨p, a1, a2, a3, a4, a5, a6, a7, a8, a9, a10⟩ := hR z hz
        have ho : ob_in (nI z) 8 = true := ob_nI hz (by decide)
        have hc : (nI z).toNatClampNeg = z := nI_clamp (by omega)
        have hc2 : (nI w).toNatClampNeg = w := nI_clamp (by omega)
        obtain ⟨o, t, u, q1, q2, q3⟩ := both_sum hR hv hw hz (ys := rn_sg st z) a9 hm
        refine ⟨o, t, u, ?_, ?_, q3⟩
        · simp only [RN_add, nm_e0, t1, r1, r3, i10, if_false, hc, hc2, bd_id, q1]
        · rw [a6] at q2
          simp only [RM_add, nm_e0, t2, t3, r2, r4, i10, if_false, ho, if_true, hc, ob2_id, q2]
      · exact ⟨9, st, ms, by simp only [RN_add, nm_e0, t1, r1, r3, i10, if_false, if_true], by simp only [RM_add, nm_e0, t2, r2, r4, i10, if_false, if_true], hR⟩
    · exact ⟨9, st, ms, by simp only [RN_add, nm_e0, t1, r1, i10, if_false, if_true], by simp only [RM_add, nm_e0, t2, r2, i10, if_false, if_true], hR⟩
  · refine ⟨9, st, ms, by simp only [RN_add, nm_e0, t1, if_true], ?_, hR⟩
    rcases t2 with t2 | ⟨t2, t3⟩
    · simp only [RM_add, nm_e0, t2, if_true]
    · rcases reg_cases x with ⟨w, hw, e2, r1, r2⟩ | ⟨r1, r2⟩
      · rcases reg_cases y with ⟨z, hz, e3, r3, r4⟩ | ⟨r3, r4⟩
        · simp only [RM_add, nm_e0, t2, t3, r2, r4, i10, if_false, if_true]
        · simp only [RM_add, nm_e0, t2, r2, r4, i10, if_false, if_true]
      · simp only [RM_add, nm_e0, t2, r2, i10, if_false, if_true]
theorem op_sub (st : rn_S) (ms : rm_S) (d x y m : Int32) (hR : Rel st ms) : ∃ r t u, RN_sub st d x y m = (r, t) ∧ RM_sub ms d x y m = some (r, u) ∧ Rel t u := by
  rcases tgt_cases d m with ⟨v, hv, e, hm, t1, t2, t3⟩ | ⟨t1, t2⟩
  · rcases reg_cases x with ⟨w, hw, e2, r1, r2⟩ | ⟨r1, r2⟩
    · rcases reg_cases y with ⟨z, hz, e3, r3, r4⟩ | ⟨r3, r4⟩
      · subst e
        subst e2
        subst e3
        obtain ⟨p, a1, a2, a3, a4, a5, a6, a7, a8, a9, a10⟩ := hR z hz
        have ho : ob_in (nI z) 8 = true := ob_nI hz (by decide)
        have hc : (nI z).toNatClampNeg = z := nI_clamp (by omega)
        have hc2 : (nI w).toNatClampNeg = w := nI_clamp (by omega)
        obtain ⟨o, t, u, q1, q2, q3⟩ := both_sum hR hv hw hz (ys := -(rn_sg st z)) (fun h => sg_neg (a9 h)) hm
        refine ⟨o, t, u, ?_, ?_, q3⟩
        · simp only [RN_sub, nm_e0, t1, r1, r3, i10, if_false, hc, hc2, bd_id, q1]
        · rw [a6] at q2
          simp only [RM_sub, nm_e0, t2, t3, r2, r4, i10, if_false, ho, if_true, hc, ob2_id, q2]
      · exact ⟨9, st, ms, by simp only [RN_sub, nm_e0, t1, r1, r3, i10, if_false, if_true], by simp only [RM_sub, nm_e0, t2, r2, r4, i10, if_false, if_true], hR⟩
    · exact ⟨9, st, ms, by simp only [RN_sub, nm_e0, t1, r1, i10, if_false, if_true], by simp only [RM_sub, nm_e0, t2, r2, i10, if_false, if_true], hR⟩
  · refine ⟨9, st, ms, by simp only [RN_sub, nm_e0, t1, if_true], ?_, hR⟩
    rcases t2 with t2 | ⟨t2, t3⟩
    · simp only [RM_sub, nm_e0, t2, if_true]
    · rcases reg_cases x with ⟨w, hw, e2, r1, r2⟩ | ⟨r1, r2⟩
      · rcases reg_cases y with ⟨z, hz, e3, r3, r4⟩ | ⟨r3, r4⟩
        · simp only [RM_sub, nm_e0, t2, t3, r2, r4, i10, if_false, if_true]
        · simp only [RM_sub, nm_e0, t2, r2, r4, i10, if_false, if_true]
      · simp only [RM_sub, nm_e0, t2, r2, i10, if_false, if_true]
