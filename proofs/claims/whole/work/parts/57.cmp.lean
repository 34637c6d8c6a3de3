/-! cmp: alike -/
theorem bo_ok {st : rn_S} {ms : rm_S} {x p : Nat} {e : Int} {X : Nat} (hx : x < 8) (hp2 : p ≤ 93) (h1 : ms 1 x = nI p) (hg : reg3 st ms x p e X) {i : Nat} (hi : i < 93) : RM_bitOf ms (nI x) (nI i) = some (nI (X / 2 ^ (92 - i) % 2)) := by
  have hox : ob_in (nI x) 8 = true := ob_nI hx (by decide)
  have hcx : (nI x).toNatClampNeg = x := nI_clamp (by omega)
  obtain ⟨c1, c2, c3, c4, c5, c6, c7, c8, c9, c10⟩ := hg
  unfold RM_bitOf
  rw [if_neg (nI_pos (by omega)), if_pos hox, hcx, h1]
  by_cases h : i < p
  · have c2 : ¬ nI p ≤ nI i := fun h => absurd ((nI_leI (by omega) (by omega)).mp h) (by omega)
    rw [if_neg c2, ix93, if_pos (ob_nI (by omega) (by decide)), nI_clamp (by omega), c10 i h]
  · rw [if_pos ((nI_leI (by omega) (by omega)).mpr (by omega))]
    have hd : X / 2 ^ (92 - i) % 2 = 0 := by
      have e1 : (2 : Nat) ^ (93 - p) = 2 ^ (92 - i) * (2 * 2 ^ (i - p)) := by
        rw [← Nat.pow_succ', ← Nat.pow_add]
        congr 1
        omega
      have h9 := Nat.div_add_mod X (2 ^ (93 - p))
      rw [c7, Nat.add_zero, e1] at h9
      rw [← h9, Nat.mul_assoc, Nat.mul_div_cancel_left _ (p2_pos _), Nat.mul_assoc, Nat.mul_mod_right]
    rw [hd]
    rfl
theorem cs_loop {st : rn_S} {ms : rm_S} {x y p p' : Nat} {e1 e2 : Int} {X1 X2 : Nat} (hx : x < 8) (hy : y < 8) (hp : p ≤ 93) (hp' : p' ≤ 93) (h1 : ms 1 x = nI p) (h2 : ms 1 y = nI p') (hg1 : reg3 st ms x p e1 X1) (hg2 : reg3 st ms y p' e2 X2) (n : Nat) : ∀ N i, i + n = 93 → n < N → X1 / 2 ^ n = X2 / 2 ^ n → RM_compareSizes_81 N (nI x) (nI y) (nI i) ms = some (cmp3 X1 X2) := by
  induction n with
  | zero =>
    intro N i hi hN he
    obtain ⟨N, rfl⟩ : ∃ M, N = M + 1 := ⟨N - 1, by omega⟩
    rw [Nat.pow_zero, Nat.div_one, Nat.div_one] at he
    rw [RM_compareSizes_81, if_pos (by rw [show i = 93 by omega]; decide), he]
    unfold cmp3
    rw [if_neg (Nat.lt_irrefl _), if_pos rfl]
  | succ n ih =>
    intro N i hi hN he
    obtain ⟨N, rfl⟩ : ∃ M, N = M + 1 := ⟨N - 1, by omega⟩
    have hn : ¬ (93 : Int32) ≤ nI i := fun h => absurd ((nI_leI (a := 93) (by omega) (by omega)).mp h) (by omega)
    rw [RM_compareSizes_81, if_neg hn, bo_ok hx hp h1 hg1 (show i < 93 by omega), ob1_some, bo_ok hy hp' h2 hg2 (show i < 93 by omega), ob1_some, show 92 - i = n by omega]
    have k1 : X1 / 2 ^ n / 2 = X1 / 2 ^ (n + 1) := by rw [Nat.div_div_eq_div_mul, Nat.pow_succ]
    have k2 : X2 / 2 ^ n / 2 = X2 / 2 ^ (n + 1) := by rw [Nat.div_div_eq_div_mul, Nat.pow_succ]
    rw [← k1, ← k2] at he
    by_cases h0 : X1 / 2 ^ n % 2 = X2 / 2 ^ n % 2
    · rw [if_pos (by rw [h0]), nm_e0, ← nI_succ]
      exact ih N (i + 1) (by omega) (by omega) (by omega)
    · rw [if_neg (fun h => h0 ((nI_eq (by omega) (by omega)).mp h))]
      unfold cmp3
      by_cases h3 : X1 / 2 ^ n % 2 ≤ X2 / 2 ^ n % 2
      · have h4 : X1 / 2 ^ n < X2 / 2 ^ n := by omega
        have h5 : X1 < X2 := Nat.lt_of_not_le (fun h => absurd (Nat.div_le_div_right (c := 2 ^ n) h) (by omega))
        rw [if_pos ((nI_leI (by omega) (by omega)).mpr h3), if_pos h5]
      · have h4 : X2 / 2 ^ n < X1 / 2 ^ n := by omega
        have h5 : X2 < X1 := Nat.lt_of_not_le (fun h => absurd (Nat.div_le_div_right (c := 2 ^ n) h) (by omega))
        rw [if_neg (fun h => h3 ((nI_leI (by omega) (by omega)).mp h)), if_neg (by omega), if_neg (by omega)]
/-- the sizes of two regular values -/
theorem cs_ok {st : rn_S} {ms : rm_S} {x y p p' : Nat} {e1 e2 : Int} {X1 X2 : Nat} (hx : x < 8) (hy : y < 8) (hp : p ≤ 93) (hp' : p' ≤ 93) (h1 : ms 1 x = nI p) (h2 : ms 1 y = nI p') (hg1 : reg3 st ms x p e1 X1) (hg2 : reg3 st ms y p' e2 X2) (hk1 : ms 2 x = 3) (hk2 : ms 2 y = 3) : RM_compareSizes ms (nI x) (nI y) = some (sgn (((X1 * 2 ^ (e1 + 496).toNat : Nat) : Int) - ((X2 * 2 ^ (e2 + 496).toNat : Nat) : Int))) := by
  have hox : ob_in (nI x) 8 = true := ob_nI hx (by decide)
  have hcx : (nI x).toNatClampNeg = x := nI_clamp (by omega)
  have hoy : ob_in (nI y) 8 = true := ob_nI hy (by decide)
  have hcy : (nI y).toNatClampNeg = y := nI_clamp (by omega)
  have hl := cs_loop hx hy hp hp' h1 h2 hg1 hg2 93 2000 0 (by omega) (by omega) (by rw [Nat.div_eq_of_lt hg1.2.2.2.2.2.1, Nat.div_eq_of_lt hg2.2.2.2.2.2.1])
  obtain ⟨c1, c2, c3, c4, c5, c6, c7, c8, c9, c10⟩ := hg1
  obtain ⟨d1, d2, d3, d4, d5, d6, d7, d8, d9, d10⟩ := hg2
  simp only [RM_compareSizes, hox, hoy, hcx, hcy, if_true, hk1, hk2, k31, if_false]
  by_cases he : e1 = e2
  · have h4 : ms 4 x = ms 4 y := Int32.toInt_inj.mp (by omega)
    rw [if_pos h4]
    rw [show (0 : Int32) = nI 0 from rfl, hl, he]
    have hp := p2_pos (e2 + 496).toNat
    generalize 2 ^ (e2 + 496).toNat = P at hp
    unfold cmp3
    rcases Nat.lt_trichotomy X1 X2 with h | h | h
    · have := Nat.mul_lt_mul_of_pos_right h hp
      rw [if_pos h, sgn_neg (by omega)]
    · rw [h, if_neg (Nat.lt_irrefl _), if_pos rfl, Int.sub_self]; rfl
    · have := Nat.mul_lt_mul_of_pos_right h hp
      rw [if_neg (by omega), if_neg (by omega), sgn_pos (by omega)]
  · have h4 : ¬ ms 4 x = ms 4 y := fun h => he (by rw [← c2, ← d2, h])
    rw [if_neg h4]
    rcases Int.lt_or_gt_of_ne he with h | h
    · have h5 : X1 * 2 ^ (e1 + 496).toNat < X2 * 2 ^ (e2 + 496).toNat := by
        have g1 := Nat.mul_lt_mul_of_pos_right c6 (p2_pos (e1 + 496).toNat)
        have g2 := Nat.mul_le_mul_right (2 ^ (e2 + 496).toNat) d5
        rw [← Nat.pow_add] at g1 g2
        exact Nat.lt_of_lt_of_le g1 (Nat.le_trans (Nat.pow_le_pow_right (by decide) (by omega)) g2)
      rw [if_pos (Int32.le_iff_toInt_le.mpr (by omega)), sgn_neg (by omega)]
    · have h5 : X2 * 2 ^ (e2 + 496).toNat < X1 * 2 ^ (e1 + 496).toNat := by
        have g1 := Nat.mul_lt_mul_of_pos_right d6 (p2_pos (e2 + 496).toNat)
        have g2 := Nat.mul_le_mul_right (2 ^ (e1 + 496).toNat) c5
        rw [← Nat.pow_add] at g1 g2
        exact Nat.lt_of_lt_of_le g1 (Nat.le_trans (Nat.pow_le_pow_right (by decide) (by omega)) g2)
      rw [if_neg (fun h => absurd (Int32.le_iff_toInt_le.mp h) (by omega)), sgn_pos (by omega)]
theorem same_sx2 (st : rn_S) (f : Nat → Int32) : same_c st (rn_setx st f) := same_sx st f
theorem op_cmp (st : rn_S) (ms : rm_S) (x y : Int32) (hR : Rel st ms) : ∃ r t, RN_cmp st x y = (r, t) ∧ RM_cmp ms x y = some r ∧ Rel t ms := by
  rcases reg_cases x with ⟨w, hw, e2, r1, r2⟩ | ⟨r1, r2⟩
  · rcases reg_cases y with ⟨z, hz, e3, r3, r4⟩ | ⟨r3, r4⟩
    · subst e2
      subst e3
      obtain ⟨p, a1, a2, a3, a4, a5, a6, a7, a8, a9, a10⟩ := hR w hw
      obtain ⟨p', b1, b2, b3, b4, b5, b6, b7, b8, b9, b10⟩ := hR z hz
      have hox : ob_in (nI w) 8 = true := ob_nI hw (by decide)
      have hcx : (nI w).toNatClampNeg = w := nI_clamp (by omega)
      have hoy : ob_in (nI z) 8 = true := ob_nI hz (by decide)
      have hcy : (nI z).toNatClampNeg = z := nI_clamp (by omega)
      by_cases x0 : rn_kd st w = 0
      · have x0' : ms 2 w = 0 := a5 ▸ x0
        exact ⟨2, st, by simp only [RN_cmp, nm_e0, r1, r3, i10, if_false, hcx, x0, if_true], by simp only [RM_cmp, nm_e0, r2, r4, i10, if_false, hox, hcx, x0', if_true], hR⟩
      · have x0' : ¬ ms 2 w = 0 := a5 ▸ x0
        by_cases y0 : rn_kd st z = 0
        · have y0' : ms 2 z = 0 := b5 ▸ y0
          exact ⟨2, st, by simp only [RN_cmp, nm_e0, r1, r3, i10, if_false, hcx, hcy, x0, y0, if_true], by simp only [RM_cmp, nm_e0, r2, r4, i10, if_false, hox, hoy, hcx, hcy, x0', y0', if_true], hR⟩
        · have y0' : ¬ ms 2 z = 0 := b5 ▸ y0
          have sx := a9 x0
          have sy := b9 y0
          have x123 : rn_kd st w = 1 ∨ rn_kd st w = 2 ∨ rn_kd st w = 3 := by
            rcases a7 with h | h
            · exact absurd h x0
            · exact h
          have y123 : rn_kd st z = 1 ∨ rn_kd st z = 2 ∨ rn_kd st z = 3 := by
            rcases b7 with h | h
            · exact absurd h y0
            · exact h
          have ecls : ¬ rn_kd st w = 1 → ¬ rn_kd st z = 1 → ∀ e1 X1 e2 X2, (rn_kd st w = 3 → reg3 st ms w p e1 X1) → (rn_kd st z = 3 → reg3 st ms z p' e2 X2) → ∃ t, RN_cmp st (nI w) (nI z) = (sgn (gz st w (rn_sg st w) e1 X1 + gz st z (-(rn_sg st z)) e2 X2), t) ∧ Rel t ms := by
            intro x1 y1 e1 X1 e2 X2 hg1 hg2
            obtain ⟨f, q1, q2, q3, q4⟩ := cl_two (st := st) (ms := ms) (p1 := p) (p2 := p') (s1 := rn_sg st w) (s2 := -(rn_sg st z)) hw hz hg1 hg2 (fun _ => sx) (fun _ => sg_neg sy)
            obtain ⟨f0, c1, c2, c3⟩ := ex_clear st
            have hsg : rn_sg (RE_clear st) w = rn_sg st w := by rw [c1]; rfl
            have hsg2 : rn_sg (RE_gather (RE_clear st) w (rn_sg st w)) z = rn_sg st z := by
              obtain ⟨f1, g1, -⟩ := cl_gath (st := st) c2 hw hg1 (s := rn_sg st w) (fun _ => sx)
              rw [c1, g1]; rfl
            refine ⟨rn_setx st f, ?_, rel_same hR (same_sx st f) ⟨rfl, rfl, rfl, rfl, rfl⟩⟩
            simp only [RN_cmp, nm_e0, r1, r3, i10, if_false, hcx, hcy, x0, y0, x1, y1, hsg, hsg2, q1, bd_id]
          by_cases x1 : rn_kd st w = 1
          · have x1' : ms 2 w = 1 := a5 ▸ x1
            refine ⟨JI_compare (rn_sg st w) (RV_infiniteSign st z), st, by simp only [RN_cmp, RN_cmp_65, RV_infiniteSign, nm_e0, r1, r3, i10, if_false, hcx, hcy, x1, y0, k10, if_true], ?_, hR⟩
            simp only [RM_cmp, RM_cmp_54, RM_cmp_75, RM_compareSizes, RV_infiniteSign, nm_e0, r2, r4, i10, if_false, hox, hoy, hcx, hcy, x1', y0', k10, k12, if_true, ← a6, ← b6, b5]
            rcases y123 with h | h | h <;> rw [b5] at h <;> rw [h] <;> rcases sx with h1 | h1 <;> rcases sy with h2 | h2 <;> rw [h1] <;> (try rw [h2]) <;> rfl
          · by_cases y1 : rn_kd st z = 1
            · have y1' : ms 2 z = 1 := b5 ▸ y1
              refine ⟨JI_compare 0 (rn_sg st z), st, by simp only [RN_cmp, RN_cmp_65, RV_infiniteSign, nm_e0, r1, r3, i10, if_false, hcx, hcy, x0, x1, y1, k10, if_true], ?_, hR⟩
              have x23 : ms 2 w = 2 ∨ ms 2 w = 3 := by
                rw [a5] at x123 x1
                rcases x123 with h | h
                · exact absurd h x1
                · exact h
              simp only [RM_cmp, RM_cmp_54, RM_cmp_75, RM_compareSizes, nm_e0, r2, r4, i10, if_false, hox, hoy, hcx, hcy, x0', y1', k10, k12, if_true, ← a6, ← b6]
              rcases x23 with h | h <;> rw [h] <;> rcases sx with h1 | h1 <;> rcases sy with h2 | h2 <;> rw [h2] <;> (try rw [h1]) <;> rfl
            · have x1' : ¬ ms 2 w = 1 := a5 ▸ x1
              have y1' : ¬ ms 2 z = 1 := b5 ▸ y1
              rcases x123 with x2 | x2 | x3
              · exact absurd x2 x1
              · have x2' : ms 2 w = 2 := a5 ▸ x2
                have hnx : ¬ rn_kd st w = 3 := by rw [x2]; decide
                rcases y123 with y2 | y2 | y3
                · exact absurd y2 y1
                · have y2' : ms 2 z = 2 := b5 ▸ y2
                  have hny : ¬ rn_kd st z = 3 := by rw [y2]; decide
                  obtain ⟨t, c1, c2⟩ := ecls x1 y1 0 0 0 0 (fun h => absurd h hnx) (fun h => absurd h hny)
                  refine ⟨_, t, c1, ?_, c2⟩
                  simp only [RM_cmp, RM_cmp_54, RM_cmp_75, nm_e0, r2, r4, i10, if_false, hox, hoy, hcx, hcy, x2', y2', k20, if_true]
                  unfold gz
                  rw [if_neg hnx, if_neg hny]
                  rfl
                · have y3' : ms 2 z = 3 := b5 ▸ y3
                  obtain ⟨e2, X2, hg2⟩ := b10 y3
                  obtain ⟨t, c1, c2⟩ := ecls x1 y1 0 0 e2 X2 (fun h => absurd h hnx) (fun _ => hg2)
                  refine ⟨_, t, c1, ?_, c2⟩
                  have hXp : 0 < X2 * 2 ^ (e2 + 496).toNat := Nat.mul_pos (Nat.lt_of_lt_of_le (p2_pos 92) hg2.2.2.2.2.1) (p2_pos _)
                  simp only [RM_cmp, RM_cmp_54, RM_cmp_75, nm_e0, r2, r4, i10, if_false, hox, hoy, hcx, hcy, x2', y3', k20, k30, k32, if_true, ← b6]
                  unfold gz
                  rw [if_neg hnx, if_pos y3, Int.zero_add]
                  rcases sy with h | h <;> rw [h]
                  · rw [show (-(1 : Int32)).toInt = -1 from rfl, sgn_neg (by omega)]; rfl
                  · rw [show (-(-1 : Int32)).toInt = 1 from rfl, sgn_pos (by omega)]; rfl
              · have x3' : ms 2 w = 3 := a5 ▸ x3
                obtain ⟨e1, X1, hg1⟩ := a10 x3
                have hXp : 0 < X1 * 2 ^ (e1 + 496).toNat := Nat.mul_pos (Nat.lt_of_lt_of_le (p2_pos 92) hg1.2.2.2.2.1) (p2_pos _)
                rcases y123 with y2 | y2 | y3
                · exact absurd y2 y1
                · have y2' : ms 2 z = 2 := b5 ▸ y2
                  have hny : ¬ rn_kd st z = 3 := by rw [y2]; decide
                  obtain ⟨t, c1, c2⟩ := ecls x1 y1 e1 X1 0 0 (fun _ => hg1) (fun h => absurd h hny)
                  refine ⟨_, t, c1, ?_, c2⟩
                  simp only [RM_cmp, RM_cmp_54, RM_cmp_75, nm_e0, r2, r4, i10, if_false, hox, hoy, hcx, hcy, x3', y2', k20, k30, k32, if_true, ← a6]
                  unfold gz
                  rw [if_neg hny, if_pos x3, Int.add_zero]
                  rcases sx with h | h <;> rw [h]
                  · rw [show (1 : Int32).toInt = 1 from rfl, sgn_pos (by omega)]; rfl
                  · rw [show (-1 : Int32).toInt = -1 from rfl, sgn_neg (by omega)]; rfl
                · have y3' : ms 2 z = 3 := b5 ▸ y3
                  obtain ⟨e2, X2, hg2⟩ := b10 y3
                  obtain ⟨t, c1, c2⟩ := ecls x1 y1 e1 X1 e2 X2 (fun _ => hg1) (fun _ => hg2)
                  refine ⟨_, t, c1, ?_, c2⟩
                  have hYp : 0 < X2 * 2 ^ (e2 + 496).toNat := Nat.mul_pos (Nat.lt_of_lt_of_le (p2_pos 92) hg2.2.2.2.2.1) (p2_pos _)
                  have hs := cs_ok hw hz a2 b2 a4 b4 hg1 hg2 x3' y3'
                  simp only [RM_cmp, RM_cmp_54, RM_cmp_75, nm_e0, r2, r4, i10, if_false, hox, hoy, hcx, hcy, x3', y3', k30, k32, if_true, ← a6, ← b6, hs, ob1_some]
                  unfold gz
                  rw [if_pos y3, if_pos x3]
                  generalize X1 * 2 ^ (e1 + 496).toNat = A at hXp
                  generalize X2 * 2 ^ (e2 + 496).toNat = B at hYp
                  rcases sx with h | h <;> rcases sy with h2 | h2 <;> rw [h, h2]
                  · rw [show (1 : Int32).toInt = 1 from rfl, show (-(1 : Int32)).toInt = -1 from rfl, if_pos rfl, if_neg (by decide), Int32.one_mul, show (1 : Int) * (A : Int) + -1 * (B : Int) = (A : Int) - B by omega]
                  · rw [show (1 : Int32).toInt = 1 from rfl, show (-(-1 : Int32)).toInt = 1 from rfl, sgn_pos (z := 1 * (A : Int) + 1 * (B : Int)) (by omega)]; rfl
                  · rw [show (-1 : Int32).toInt = -1 from rfl, sgn_neg (z := -1 * (A : Int) + -1 * (B : Int)) (by omega)]; rfl
                  · rw [show (-1 : Int32).toInt = -1 from rfl, show (-(-1 : Int32)).toInt = 1 from rfl, if_pos rfl, if_neg (by decide)]
                    rcases Int.lt_trichotomy (A : Int) B with g | g | g
                    · rw [sgn_neg (z := (A : Int) - B) (by omega), sgn_pos (by omega)]; rfl
                    · rw [show (A : Int) - B = 0 by omega, show -1 * (A : Int) + 1 * (B : Int) = 0 by omega]; rfl
                    · rw [sgn_pos (z := (A : Int) - B) (by omega), sgn_neg (by omega)]; rfl
    · exact ⟨2, st, by simp only [RN_cmp, nm_e0, r1, r3, i10, if_false, if_true], by simp only [RM_cmp, nm_e0, r2, r4, i10, if_false, if_true], hR⟩
  · exact ⟨2, st, by simp only [RN_cmp, nm_e0, r1, if_true], by simp only [RM_cmp, nm_e0, r2, if_true], hR⟩
