/-! fma: alike -/
def fm_tail (ms : rm_S) (v x y z : Nat) (mode k9 s9 : Int32) : Option (Int32 × rm_S) := (if k9 = 0 then RM_fma_106 (nI v) ms else (if ms 2 z = 0 then RM_fma_106 (nI v) ms else (if k9 = (1 : Int32) then (if ms 2 z = (1 : Int32) then (if s9 = ms 3 z then RM_fma_114 (nI v) (nI x) (nI y) (nI z) mode k9 (ms 2 z) s9 ms else RM_fma_106 (nI v) ms) else RM_fma_114 (nI v) (nI x) (nI y) (nI z) mode k9 (ms 2 z) s9 ms) else RM_fma_114 (nI v) (nI x) (nI y) (nI z) mode k9 (ms 2 z) s9 ms)))
theorem both_fma {st : rn_S} {ms : rm_S} (hR : Rel st ms) {v x y z : Nat} (hv : v < 8) (hx : x < 8) (hy : y < 8) (hz : z < 8) {mode : Int32} (hm : ismode mode) :
    ∃ o t u, RN_storeSum (RV_takeProduct st 9 x y) (nI v) 9 z (rn_sg (RV_takeProduct st 9 x y) z) mode = (o, t) ∧ fm_tail ms v x y z mode (RN_productKind (rn_kd st x) (rn_kd st y)) (rn_sg st x * rn_sg st y) = some (o, u) ∧ Rel t u := by
  obtain ⟨t9, e9, hsm, hk9, hs9, ik9, is9, h93⟩ := prod9 hR hx hy
  rw [e9, ← hk9, ← hs9]
  have hR9 : Rel t9 ms := rel_same hR hsm ⟨rfl, rfl, rfl, rfl, rfl⟩
  obtain ⟨p', b1, b2, b3, b4, b5, b6, b7, b8, b9, b10⟩ := hR9 z hz
  have hoz : ob_in (nI z) 8 = true := ob_nI hz (by decide)
  have hcz : (nI z).toNatClampNeg = z := nI_clamp (by omega)
  have plain : ∀ k s : Int32, (k = 0 ∨ k = 1 ∨ k = 2) → (k ≠ 0 → issign s) → ∃ o t u, RN_storePlain t9 (nI v) k s = (o, t) ∧ RM_keep ms (nI v) k s = some (o, u) ∧ Rel t u := fun k s hk hs => by
    obtain ⟨t, u, r1, r2, r3⟩ := both_plain hR9 hv hk hs
    exact ⟨0, t, u, r1, r2, r3⟩
  unfold fm_tail
  by_cases x0 : rn_kd t9 9 = 0
  · simp only [RN_storeSum, RN_storeSum_14, x0, if_true, bd_id, RM_fma_106, ob2_id]
    exact plain 0 0 (Or.inl rfl) (fun h => absurd rfl h)
  · by_cases y0 : rn_kd t9 z = 0
    · have y0' : ms 2 z = 0 := b5 ▸ y0
      simp only [RN_storeSum, RN_storeSum_14, x0, y0, y0', if_true, if_false, bd_id, RM_fma_106, ob2_id]
      exact plain 0 0 (Or.inl rfl) (fun h => absurd rfl h)
    · have y0' : ¬ ms 2 z = 0 := b5 ▸ y0
      have sx := is9 x0
      have sy := b9 y0
      by_cases x1 : rn_kd t9 9 = 1
      · by_cases y1 : rn_kd t9 z = 1
        · have y1' : ms 2 z = 1 := b5 ▸ y1
          by_cases he : rn_sg t9 9 = rn_sg t9 z
          · have he' : rn_sg t9 9 = ms 3 z := b6 ▸ he
            simp only [RN_storeSum, RN_storeSum_55, RN_storeSum_71, RN_storeSum_91, x1, y1, y1', k10, he', b6, if_true, if_false, bd_id, RM_fma_114, RM_fma_126, RM_fma_147, ob2_id]
            exact plain 1 (ms 3 z) (Or.inr (Or.inl rfl)) (fun _ => b6 ▸ sy)
          · have he' : ¬ rn_sg t9 9 = ms 3 z := b6 ▸ he
            simp only [RN_storeSum, x1, y1, y1', k10, he', b6, if_true, if_false, bd_id, RM_fma_106, ob2_id]
            exact plain 0 0 (Or.inl rfl) (fun h => absurd rfl h)
        · have y1' : ¬ ms 2 z = 1 := b5 ▸ y1
          simp only [RN_storeSum, RN_storeSum_55, RN_storeSum_71, RN_storeSum_91, x1, y0, y1, y0', y1', k10, if_true, if_false, bd_id, RM_fma_114, RM_fma_126, RM_fma_147, ob2_id]
          exact plain 1 _ (Or.inr (Or.inl rfl)) (fun _ => sx)
      · by_cases y1 : rn_kd t9 z = 1
        · have y1' : ms 2 z = 1 := b5 ▸ y1
          simp only [RN_storeSum, RN_storeSum_55, RN_storeSum_71, RN_storeSum_91, x0, x1, y1, y1', k10, if_true, if_false, bd_id, RM_fma_114, RM_fma_126, RM_fma_147, hoz, hcz, ob2_id, b6]
          exact plain 1 _ (Or.inr (Or.inl rfl)) (fun _ => b6 ▸ sy)
        · have y1' : ¬ ms 2 z = 1 := b5 ▸ y1
          have e137 : ∀ (e2 : Int) (pl W X2 : Nat) (f : Nat → Int32), RE_splitSign (RE_gather (RE_gather (RE_clear t9) 9 (rn_sg t9 9)) z (rn_sg t9 z)) = (sgn (gp t9 (rn_sg t9 9) pl W + gz t9 z (rn_sg t9 z) e2 X2), rn_setx t9 f) → RN_storeSum_137 (nI v) 9 z (rn_sg t9 z) mode t9 = (if sgn (gp t9 (rn_sg t9 9) pl W + gz t9 z (rn_sg t9 z) e2 X2) = 0 then nm (RN_signOfNothing mode) (fun r185 => bd (RN_storePlain (rn_setx t9 f) (nI v) (2 : Int32) r185) (fun r188 t188 => (r188, t188))) else bd (RN_storeExact (rn_setx t9 f) (nI v) (sgn (gp t9 (rn_sg t9 9) pl W + gz t9 z (rn_sg t9 z) e2 X2)) mode) (fun r198 t198 => (r198, t198))) := by
            intro e2 pl W X2 f h
            obtain ⟨f0, c1, c2, c3⟩ := ex_clear t9
            have hsg : rn_sg (RE_clear t9) 9 = rn_sg t9 9 := by rw [c1]; rfl
            unfold RN_storeSum_137
            rw [nm_e0, nm_e0, nm_e0, hsg, bd_eq h]
          by_cases x2 : rn_kd t9 9 = 2
          · have hnx : ¬ rn_kd t9 9 = 3 := by rw [x2]; decide
            by_cases y2 : rn_kd t9 z = 2
            · have y2' : ms 2 z = 2 := b5 ▸ y2
              by_cases he : rn_sg t9 9 = rn_sg t9 z
              · have he' : rn_sg t9 9 = ms 3 z := b6 ▸ he
                simp only [RN_storeSum, RN_storeSum_55, RN_storeSum_133, x2, y2, y2', k20, k21, he', b6, if_true, if_false, bd_id, RM_fma_114, hoz, hcz, ob2_id]
                exact plain 2 _ (Or.inr (Or.inr rfl)) (fun _ => b6 ▸ sy)
              · have he' : ¬ rn_sg t9 9 = ms 3 z := b6 ▸ he
                simp only [RN_storeSum, RN_storeSum_55, RN_storeSum_133, x2, y2, y2', k20, k21, he', b6, if_true, if_false, bd_id, RM_fma_114, hoz, hcz, nm_e0, ob2_id, son t9 ms]
                exact plain 2 _ (Or.inr (Or.inr rfl)) (fun _ => son_sg mode)
            · have y2' : ¬ ms 2 z = 2 := b5 ▸ y2
              have y3 : rn_kd t9 z = 3 := by
                rcases b7 with h | h | h | h
                · exact absurd h y0
                · exact absurd h y1
                · exact absurd h y2
                · exact h
              obtain ⟨e2, X2, hg2⟩ := b10 y3
              obtain ⟨f, q1, q2, q3⟩ := cl_two9 (t := t9) (ms := ms) (p2 := p') (pl := 0) (W := 0) (s1 := rn_sg t9 9) (s2 := rn_sg t9 z) hz (fun h => absurd h hnx) (fun _ => hg2) (fun h => absurd h hnx) (fun _ => sy)
              have hq := e137 _ _ _ _ f q1
              have hT := tz9 (t := t9) (ms := ms) (y := z) (p2 := p') (pl := 0) (W := 0) (e2 := e2) (X2 := X2) (s1 := rn_sg t9 9) (s2 := rn_sg t9 z) (fun h => absurd h hnx) (fun h => absurd h hnx) (fun _ => hg2) (fun h => absurd h hnx) (fun _ => sy)
              obtain ⟨m1, d1, d2, d3, -⟩ := rm_clear_ok ms
              have hg2' : reg3 t9 m1 z p' e2 X2 := by
                obtain ⟨c1, c2, c3, c4, c5, c6, c7, c8, c9, c10⟩ := hg2
                exact ⟨c1, by rw [d2.2.2.2.1]; exact c2, c3, c4, c5, c6, c7, c8, c9, by rw [d2.2.2.2.2]; exact c10⟩
              obtain ⟨f6, k1, k2, k3⟩ := rm_put_ok (sh := (e2 + 496).toNat + 11) hz b1 b2 (by rw [d2.1]; exact b4) hg2' (fun i hi => (d3 i hi).1) (by have := hg2.2.2.1; omega)
              have hmv : RM_move ms (nI v) (nI z) (ms 3 z) mode = RM_round (rm_setr m1 6 f6) (nI v) (rn_sg t9 z) mode := by
                unfold RM_move
                rw [if_pos hoz, hcz, if_pos (b5 ▸ y3), d1, ob1_some, k1, ob1_some, ob2_id, b6]
              simp only [RN_storeSum, RN_storeSum_55, x2, y0, y1, y2, k20, k21, if_true, if_false, RM_fma_114, RM_fma_194, hoz, hcz, y0', y1', y2', ob2_id, hmv]
              rw [hq]
              have hZ : gp t9 (rn_sg t9 9) 0 0 + gz t9 z (rn_sg t9 z) e2 X2 = (rn_sg t9 z).toInt * ((X2 * 2 ^ (e2 + 496).toNat : Nat) : Int) := by
                unfold gp gz
                rw [if_neg hnx, if_pos y3, Int.zero_add]
              have hXp : 0 < X2 * 2 ^ (e2 + 496).toNat := Nat.mul_pos (Nat.lt_of_lt_of_le (p2_pos 92) hg2.2.2.2.2.1) (p2_pos _)
              have hab : (gp t9 (rn_sg t9 9) 0 0 + gz t9 z (rn_sg t9 z) e2 X2).natAbs = X2 * 2 ^ (e2 + 496).toNat := by rw [hZ, tz_ab sy]
              have hsgn : sgn (gp t9 (rn_sg t9 9) 0 0 + gz t9 z (rn_sg t9 z) e2 X2) = rn_sg t9 z := by
                rw [hZ]
                rcases sy with h | h <;> rw [h]
                · rw [show (1 : Int32).toInt = 1 from rfl, sgn_pos (by omega)]
                · rw [show (-1 : Int32).toInt = -1 from rfl, sgn_neg (by omega)]
              have hne : gp t9 (rn_sg t9 9) 0 0 + gz t9 z (rn_sg t9 z) e2 X2 ≠ 0 := fun h => by rw [h] at hab; exact absurd hab.symm (by omega)
              have hm6 : rm_setr m1 6 f6 6 = f6 := rs_at _ _ _
              obtain ⟨o, t, u, r1, r2, r3⟩ := both_tail9 (rel_same hR9 (same_sx t9 f) (same_6 d2 f6)) hv hm (Z := gp t9 (rn_sg t9 9) 0 0 + gz t9 z (rn_sg t9 z) e2 X2) q2 q3 hT (by rw [hm6]; exact k2) (by rw [hm6, k3, hab, Nat.pow_add, Nat.mul_assoc])
              refine ⟨o, t, u, r1, ?_, r3⟩
              unfold RM_fma_253 at r2
              rw [if_neg (fun h => hne (sgn_z.mp h)), ob2_id, hsgn] at r2
              exact r2
          · have x3 : rn_kd t9 9 = 3 := by
              rcases ik9 with h | h | h | h
              · exact absurd h x0
              · exact absurd h x1
              · exact absurd h x2
              · exact h
            obtain ⟨pl, W, m1, f6, hv9, hW, d1, d2, k1, k2, k3⟩ := h93 x3
            have hm6 : rm_setr m1 6 f6 6 = f6 := rs_at _ _ _
            have hWp : 0 < W * 2 ^ pl := Nat.mul_pos (Nat.lt_of_lt_of_le (p2_pos 184) hW) (p2_pos _)
            by_cases y2 : rn_kd t9 z = 2
            · have y2' : ms 2 z = 2 := b5 ▸ y2
              have hny : ¬ rn_kd t9 z = 3 := by rw [y2]; decide
              obtain ⟨f, q1, q2, q3⟩ := cl_two9 (t := t9) (ms := ms) (p2 := p') (e2 := 0) (X2 := 0) (s1 := rn_sg t9 9) (s2 := rn_sg t9 z) hz (fun _ => hv9) (fun h => absurd h hny) (fun _ => sx) (fun h => absurd h hny)
              have hq := e137 _ _ _ _ f q1
              have hT := tz9 (t := t9) (ms := ms) (y := z) (p2 := p') (e2 := 0) (X2 := 0) (s1 := rn_sg t9 9) (s2 := rn_sg t9 z) (fun _ => hv9) (fun _ => hW) (fun h => absurd h hny) (fun _ => sx) (fun h => absurd h hny)
              simp only [RN_storeSum, RN_storeSum_55, x0, x1, x2, y2, y2', k20, k21, if_true, if_false, RM_fma_114, RM_fma_194, d1, ob1_some, k1]
              rw [hq]
              have hZ : gp t9 (rn_sg t9 9) pl W + gz t9 z (rn_sg t9 z) 0 0 = (rn_sg t9 9).toInt * ((W * 2 ^ pl : Nat) : Int) := by
                unfold gp gz
                rw [if_pos x3, if_neg hny, Int.add_zero]
              have hab : (gp t9 (rn_sg t9 9) pl W + gz t9 z (rn_sg t9 z) 0 0).natAbs = W * 2 ^ pl := by rw [hZ, tz_ab sx]
              have hsgn : sgn (gp t9 (rn_sg t9 9) pl W + gz t9 z (rn_sg t9 z) 0 0) = rn_sg t9 9 := by
                rw [hZ]
                rcases sx with h | h <;> rw [h]
                · rw [show (1 : Int32).toInt = 1 from rfl, sgn_pos (by omega)]
                · rw [show (-1 : Int32).toInt = -1 from rfl, sgn_neg (by omega)]
              obtain ⟨o, t, u, r1, r2, r3⟩ := both_tail9 (rel_same hR9 (same_sx t9 f) (same_6 d2 f6)) hv hm (Z := gp t9 (rn_sg t9 9) pl W + gz t9 z (rn_sg t9 z) 0 0) q2 q3 hT (by rw [hm6]; exact k2) (by rw [hm6, k3, hab])
              refine ⟨o, t, u, r1, ?_, r3⟩
              rw [hsgn] at r2
              exact r2
            · have y2' : ¬ ms 2 z = 2 := b5 ▸ y2
              have y3 : rn_kd t9 z = 3 := by
                rcases b7 with h | h | h | h
                · exact absurd h y0
                · exact absurd h y1
                · exact absurd h y2
                · exact h
              obtain ⟨e2, X2, hg2⟩ := b10 y3
              obtain ⟨f, q1, q2, q3⟩ := cl_two9 (t := t9) (ms := ms) (p2 := p') (s1 := rn_sg t9 9) (s2 := rn_sg t9 z) hz (fun _ => hv9) (fun _ => hg2) (fun _ => sx) (fun _ => sy)
              have hq := e137 _ _ _ _ f q1
              have hT := tz9 (t := t9) (ms := ms) (y := z) (p2 := p') (e2 := e2) (X2 := X2) (s1 := rn_sg t9 9) (s2 := rn_sg t9 z) (fun _ => hv9) (fun _ => hW) (fun _ => hg2) (fun _ => sx) (fun _ => sy)
              have d4 := same_6 d2 f6
              have hg2' : reg3 t9 (rm_setr m1 6 f6) z p' e2 X2 := by
                obtain ⟨c1, c2, c3, c4, c5, c6, c7, c8, c9, c10⟩ := hg2
                exact ⟨c1, by rw [d4.2.2.2.1]; exact c2, c3, c4, c5, c6, c7, c8, c9, by rw [d4.2.2.2.2]; exact c10⟩
              obtain ⟨g6, g7, w1, w2, w3⟩ := rm_sumWith (L1 := rn_sg t9 9) (L3 := rn_sg t9 z) (sh := (e2 + 496).toNat + 11) hz b1 b2 (by rw [d4.1]; exact b4) hg2' (by rw [hm6]; exact k2) (by rw [hm6, k3]; exact Nat.mul_pos hWp (p2_pos 11)) (by
                  rw [hm6, k3, Nat.mul_assoc, ← Nat.pow_add]
                  obtain ⟨v1, v2, v3, v4, v5⟩ := hv9
                  have h3 : W * 2 ^ (pl + 11) < 2 ^ 186 * 2 ^ (pl + 11) := Nat.mul_lt_mul_of_pos_right v5 (p2_pos _)
                  rw [← Nat.pow_add] at h3
                  exact Nat.lt_of_lt_of_le h3 (p2_le (by omega))) (by have := hg2.2.2.1; omega) sx sy
              have hZ : (rn_sg t9 9).toInt * (rv (rm_setr m1 6 f6 6) : Int) + (rn_sg t9 z).toInt * ((X2 * 2 ^ ((e2 + 496).toNat + 11) : Nat) : Int) = (gp t9 (rn_sg t9 9) pl W + gz t9 z (rn_sg t9 z) e2 X2) * ((2 ^ 11 : Nat) : Int) := by
                rw [hm6, k3]
                unfold gp gz
                rw [if_pos x3, if_pos y3, Nat.pow_add, ← Nat.mul_assoc, Int.natCast_mul (W * 2 ^ pl) (2 ^ 11), Int.natCast_mul (X2 * 2 ^ (e2 + 496).toNat) (2 ^ 11), ← Int.mul_assoc, ← Int.mul_assoc, ← Int.add_mul]
              rw [hZ] at w1 w3
              rw [sgn_mul] at w1
              have h33 : rm_setr m1 6 f6 3 z = rn_sg t9 z := by rw [d4.2.2.1, b6]
              simp only [RN_storeSum, RN_storeSum_55, x0, x1, x2, y0, y1, y2, y0', y1', y2', if_true, if_false, RM_fma_114, RM_fma_194, hoz, hcz, d1, ob1_some, k1, h33, w1, ob2_some]
              rw [hq]
              have hm66 : rm_setr (rm_setr (rm_setr m1 6 f6) 7 g7) 6 g6 6 = g6 := rs_at _ _ _
              exact both_tail9 (rel_same hR9 (same_sx t9 f) (same_67 d4 g6 g7)) hv hm (Z := gp t9 (rn_sg t9 9) pl W + gz t9 z (rn_sg t9 z) e2 X2) q2 q3 hT (by rw [hm66]; exact w2) (by rw [hm66, w3, Int.natAbs_mul, Int.natAbs_natCast])
