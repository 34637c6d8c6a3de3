/-! loadScaled and loadInt: alike -/
theorem same_8 (st : rn_S) (k s : Int32) (g : Nat → Int32) (sh : Int32) : same_c st (rn_lws (rn_setl (RV_become st 8 k s) 8 g) 8 sh) := by
  refine ⟨rfl, fun w hw => ⟨?_, ?_, ?_, ?_⟩⟩
  · show upd (rn_kd st) 8 k w = rn_kd st w
    rw [upd_ne (by omega)]
  · show upd (rn_sg st) 8 s w = rn_sg st w
    rw [upd_ne (by omega)]
  · show upd (rn_lw st) 8 sh w = rn_lw st w
    rw [upd_ne (by omega)]
  · show (if w = 8 then g else rn_lb st w) = rn_lb st w
    rw [if_neg (by omega)]
theorem same_tr {a b c : rn_S} (h1 : same_c a b) (h2 : same_c b c) : same_c a c := by
  refine ⟨h2.1.trans h1.1, fun w hw => ?_⟩
  obtain ⟨a1, a2, a3, a4⟩ := h1.2 w hw
  obtain ⟨b1, b2, b3, b4⟩ := h2.2 w hw
  exact ⟨b1.trans a1, b2.trans a2, b3.trans a3, b4.trans a4⟩
theorem same_m0 (ms : rm_S) : same_m ms ms := ⟨rfl, rfl, rfl, rfl, rfl⟩
theorem both_load {st : rn_S} {ms : rm_S} (hR : Rel st ms) {v : Nat} (hv : v < 8) (z : Int64) {sh mode : Int32} (h1 : -300 ≤ sh.toInt) (h2 : sh.toInt ≤ 300) (hm : ismode mode) :
    ∃ o t u, RN_storeLoaded st (nI v) z sh mode = (o, t) ∧ (if (lg_cmp z (0 : Int64)) = 0 then ob2 (RM_keep ms (nI v) (2 : Int32) (1 : Int32)) (fun r44 t44 => some (r44, t44)) else ob1 (RM_clear ms) (fun t49 => (if 0 ≤ (lg_cmp z (0 : Int64)) then RM_loadScaled_64 (nI v) z sh mode z t49 else RM_loadScaled_64 (nI v) z sh mode (-z) t49))) = some (o, u) ∧ Rel t u := by
  obtain ⟨g, e1, hg⟩ := cl_take (st := st) 8 z sh
  unfold RN_storeLoaded
  rw [nm_e0, bd_id, e1]
  have hsame := same_8 st (if lg_cmp z 0 = 0 then 2 else 3) (if 0 ≤ lg_cmp z 0 then 1 else -1) g sh
  generalize ht : rn_lws (rn_setl (RV_become st 8 (if lg_cmp z 0 = 0 then 2 else 3) (if 0 ≤ lg_cmp z 0 then 1 else -1)) 8 g) 8 sh = t7 at hsame ⊢
  have hkd : rn_kd t7 8 = if lg_cmp z 0 = 0 then 2 else 3 := by rw [← ht]; exact upd_same (f := rn_kd st) (k := 8)
  have hsg : rn_sg t7 8 = if 0 ≤ lg_cmp z 0 then 1 else -1 := by rw [← ht]; exact upd_same (f := rn_sg st) (k := 8)
  have hlw : rn_lw t7 8 = sh := by rw [← ht]; exact upd_same (f := rn_lw st) (k := 8)
  have hlb : rn_lb t7 8 = g := by rw [← ht]; exact if_pos (c := 8 = 8) (t := g) (e := rn_lb st 8) rfl
  clear ht e1
  have hR7 := rel_same hR hsame (same_m0 ms)
  unfold RN_storeValue
  by_cases h0 : lg_cmp z 0 = 0
  · rw [if_pos h0] at hkd
    have hge : (0 : Int32) ≤ lg_cmp z 0 := by rw [h0]; decide
    rw [if_pos hge] at hsg
    rw [if_neg (by rw [hkd]; decide), if_pos h0, bd_id, hkd, hsg, ob2_id]
    obtain ⟨t, u, r1, r2, r3⟩ := both_plain hR7 hv (k := 2) (s := 1) (Or.inr (Or.inr rfl)) (fun _ => Or.inl rfl)
    exact ⟨0, t, u, r1, r2, r3⟩
  · rw [if_neg h0] at hkd
    rw [if_pos hkd, if_neg h0, nm_e0, nm_e0, bd_id]
    obtain ⟨f0, c1, c2, c3⟩ := ex_clear t7
    obtain ⟨m1, d1, d2, d3, -⟩ := rm_clear_ok ms
    rw [c1, d1, ob1_some]
    obtain ⟨B, hB⟩ : ∃ B : Nat, sh.toInt + 600 = B := ⟨(sh.toInt + 600).toNat, by omega⟩
    have hz0 : z.toInt ≠ 0 := fun h9 => h0 ((lg_cmp_eq z 0).mpr (Int64.toInt_inj.mp (by rw [h9]; rfl)))
    have hS1 : 0 < z.toInt.natAbs := by omega
    have hS2 : z.toInt.natAbs < 2 ^ 64 := by
      have b1 := ar_llo z
      have b2 := ar_lhi z
      omega
    have hsz := size_n z
    generalize hSe : z.toInt.natAbs = S at *
    have hl3 : rn_len 8 = 3 := rfl
    have hn : lv_n (rn_setx t7 f0) 8 = S := by
      unfold lv_n
      rw [hl3]
      show dv B31 (fun i => (rn_lb t7 8 i).toInt.toNat) 3 = S
      rw [hlb]
      exact into_n (Nat.lt_of_lt_of_le hS2 (p2_le (by decide))) hg
    obtain ⟨f, g1, g2, co, g3⟩ := ex_gather (st := rn_setx t7 f0) (v := 8) (s := 1) (pl := B - 11) c2 (by
      rw [hl3]
      intro i hi
      show 0 ≤ (rn_lb t7 8 i).toInt
      rw [hlb, hg i hi, nI_toInt (by have := Nat.mod_lt (S / B31 ^ i) (show 0 < 2147483648 by decide); omega)]
      omega) hkd (show (rn_lw t7 8).toInt + 589 = (B - 11 : Nat) by rw [hlw]; omega) (by rw [hl3]; omega) (Or.inl rfl)
    rw [hn, sx_ex, c3, show (1 : Int32).toInt = 1 from rfl, Int.one_mul, B33i] at g3
    have hW : S * 2 ^ (B - 11) < 2 ^ 1023 := by
      have h3 : S * 2 ^ (B - 11) < 2 ^ 64 * 2 ^ (B - 11) := Nat.mul_lt_mul_of_pos_right hS2 (p2_pos _)
      rw [← Nat.pow_add] at h3
      exact Nat.lt_of_lt_of_le h3 (p2_le (by omega))
    have hxf : xv f = S * 2 ^ (B - 11) := by
      have e2 : ((0 : Nat) : Int) + (S : Int) * 2 ^ (B - 11) = ((S * 2 ^ (B - 11) : Nat) : Int) := by
        rw [Int.natCast_mul, Int.natCast_pow]
        show (0 : Int) + _ = _
        rw [Int.zero_add]
        rfl
      rw [e2] at g3
      have hlt := xv_lt f
      rw [B33] at hlt
      exact Int.ofNat.inj (modz (Int.natCast_nonneg _) (Int.ofNat_lt.mpr hlt) (Int.natCast_nonneg _) (Int.ofNat_lt.mpr hW) g3)
    rw [g1, sx_sx]
    -- the reference's row
    have key : ∀ y : Int64, uN y = S → ∃ o t u, RN_storeExact (rn_setx t7 f) (nI v) (rn_sg t7 8) mode = (o, t) ∧ RM_loadScaled_64 (nI v) z sh mode y m1 = some (o, u) ∧ Rel t u := by
      intro y hy
      obtain ⟨f6, k1, k2, k3⟩ := ls_loop 64 2000 0 B (nI v) z sh mode y m1 (by omega) (by omega) hB (by omega)
      have hW6 : S * 2 ^ B < 2 ^ 1024 := by
        have h3 : S * 2 ^ B < 2 ^ 64 * 2 ^ B := Nat.mul_lt_mul_of_pos_right hS2 (p2_pos _)
        rw [← Nat.pow_add] at h3
        exact Nat.lt_of_lt_of_le h3 (p2_le (by omega))
      have hrv := rv_of (f := f6) (W := S * 2 ^ B) (fun k hk => by
        have hsb := sh_bits2 (B := B) hS2 (k := k)
        by_cases h9 : B ≤ k ∧ k < B + 64
        · have e9 : k = B + (k - B) := by omega
          rw [hsb.1 (k - B) (by omega) e9]
          have h8 := k2 (k - B) (Nat.zero_le _) (by omega)
          rw [← e9, hy] at h8
          exact h8
        · rw [hsb.2 (by omega), k3 k (by omega), (d3 k hk).1]
          rfl) hW6
      have hm6 : rm_setr m1 6 f6 6 = f6 := rs_at _ _ _
      have hR2 := rel_same hR (same_tr hsame (same_sx t7 f)) (same_6 d2 f6)
      obtain ⟨T, hT⟩ := hb_ex hS1
      have hT2 : T ≤ 63 := by
        rcases Nat.lt_or_ge 63 T with h9 | h9
        · have h8 := p2_le (show 64 ≤ T from h9)
          have h7 := hT.1
          omega
        · exact h9
      have hsgn : issign (rn_sg t7 8) := by
        rw [hsg]
        by_cases h9 : 0 ≤ lg_cmp z 0
        · rw [if_pos h9]; exact Or.inl rfl
        · rw [if_neg h9]; exact Or.inr rfl
      obtain ⟨o, t, u, r1, r2, r3⟩ := both_exact hR2 hv hsgn hm (E := S * 2 ^ (B - 11)) (T := T + (B - 11)) g2 hxf (by rw [hm6]; exact hrv.1) (by rw [hm6, hrv.2, Nat.mul_assoc, ← Nat.pow_add, show B - 11 + 11 = B by omega]) (hb_mul hT) (by omega) (by omega)
      refine ⟨o, t, u, r1, ?_, r3⟩
      unfold RM_loadScaled_64
      rw [zz_0, k1]
      unfold RM_loadScaled_117
      rw [ob2_id]
      rw [hsg, zz_0] at r2
      exact r2
    by_cases h9 : 0 ≤ lg_cmp z 0
    · rw [if_pos h9]
      exact key z (hsz.1 h9)
    · rw [if_neg h9]
      exact key (-z) (hsz.2 h9)
theorem op_loadScaled (st : rn_S) (ms : rm_S) (d : Int32) (z : Int64) (sh m : Int32) (hR : Rel st ms) : ∃ r t u, RN_loadScaled st d z sh m = (r, t) ∧ RM_loadScaled ms d z sh m = some (r, u) ∧ Rel t u := by
  have e1 : (-300 : Int32).toInt = -300 := rfl
  have e2 : (300 : Int32).toInt = 300 := rfl
  rcases tgt_cases d m with ⟨v, hv, e, hm, t1, t2, t3⟩ | ⟨t1, t2⟩
  · by_cases h1 : sh < (-300 : Int32)
    · exact ⟨9, st, ms, by simp only [RN_loadScaled, nm_e0, t1, i10, if_false, h1, if_true], by simp only [RM_loadScaled, nm_e0, t2, t3, i10, if_false, h1, if_true], hR⟩
    · by_cases h2 : sh ≤ (300 : Int32)
      · subst e
        have h1' := h1
        have h2' := h2
        rw [Int32.lt_iff_toInt_lt, e1] at h1'
        rw [Int32.le_iff_toInt_le, e2] at h2'
        obtain ⟨o, t, u, r1, r2, r3⟩ := both_load hR hv z (sh := sh) (mode := m) (by omega) h2' hm
        exact ⟨o, t, u, by simp only [RN_loadScaled, nm_e0, t1, i10, if_false, h1, h2, if_true, bd_id, r1], by simp only [RM_loadScaled, nm_e0, t2, t3, i10, if_false, h1, h2, if_true]; exact r2, r3⟩
      · exact ⟨9, st, ms, by simp only [RN_loadScaled, nm_e0, t1, i10, if_false, h1, h2], by simp only [RM_loadScaled, nm_e0, t2, t3, i10, if_false, h1, h2], hR⟩
  · refine ⟨9, st, ms, by simp only [RN_loadScaled, nm_e0, t1, if_true], ?_, hR⟩
    rcases t2 with t2 | ⟨t2, t3⟩
    · simp only [RM_loadScaled, nm_e0, t2, if_true]
    · simp only [RM_loadScaled, nm_e0, t2, t3, i10, if_false, if_true]
theorem op_loadInt (st : rn_S) (ms : rm_S) (d x m : Int32) (hR : Rel st ms) : ∃ r t u, RN_loadInt st d x m = (r, t) ∧ RM_loadInt ms d x m = some (r, u) ∧ Rel t u := by
  obtain ⟨r, t, u, a1, a2, a3⟩ := op_loadScaled st ms d x.toInt64 0 m hR
  refine ⟨r, t, u, ?_, ?_, a3⟩
  · have e : RN_loadInt st d x m = RN_loadScaled st d x.toInt64 0 m := by
      have h1 : ¬ (0 : Int32) < (-300 : Int32) := by decide
      have h2 : (0 : Int32) ≤ (300 : Int32) := by decide
      rcases tgt_cases d m with ⟨v, hv, e, hm, t1, t2, t3⟩ | ⟨t1, t2⟩
      · simp only [RN_loadInt, RN_loadScaled, nm_e0, t1, i10, if_false, h1, h2, if_true]
      · simp only [RN_loadInt, RN_loadScaled, nm_e0, t1, if_true]
    rw [e, a1]
  · unfold RM_loadInt
    rw [a2, ob2_some]
