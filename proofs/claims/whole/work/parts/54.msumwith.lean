/-! The reference's sumWith as a whole -/
theorem sc_loop (n : Nat) : ∀ (N k : Nat) (L1 L2 L3 : Int32) (st : rm_S), k + n = 1024 → n < N → (∀ i, i < k → st 7 i = 0) → ∃ g, RM_sumWith_3 N L1 L2 L3 (nI k) st = RM_sumWith_28 2000 L1 L2 L3 0 (rm_setr st 7 g) ∧ ∀ i, i < 1024 → g i = 0 := by
  induction n with
  | zero =>
    intro N k L1 L2 L3 st hk hN hz
    obtain ⟨N, rfl⟩ : ∃ M, N = M + 1 := ⟨N - 1, by omega⟩
    have hk : k = 1024 := by omega
    subst hk
    exact ⟨st 7, by rw [RM_sumWith_3, if_pos (by decide), rs_id], hz⟩
  | succ n ih =>
    intro N k L1 L2 L3 st hk hN hz
    obtain ⟨N, rfl⟩ : ∃ M, N = M + 1 := ⟨N - 1, by omega⟩
    obtain ⟨g, a1, a2⟩ := ih N (k + 1) L1 L2 L3 (rm_up st 7 k 0) (by omega) (by omega) (fun i hi => by
      rw [ru_rs, rs_at]
      by_cases e : i = k
      · subst e; exact upd_same
      · rw [upd_ne e]; exact hz i (by omega))
    refine ⟨g, ?_, a2⟩
    rw [RM_sumWith_3, if_neg (ge1024 (by omega)), if_pos (ob_nI (by omega) (by decide)), nm_e0, nm_e0, nI_1, nI_clamp (by omega), a1, ru_rs, rs_rs]
/-- what stands behind the loop that puts the register's bits into 'other' -/
def sw_tail (L1 L3 : Int32) (st : rm_S) : Option (Int32 × rm_S) := if L1 = L3 then RM_sumWith_90 L1 L3 (2 : Int32) st else ob1 (RM_compareRows st) (fun r87 => RM_sumWith_90 L1 L3 r87 st)
theorem sq_loop (n : Nat) : ∀ (N i r p B : Nat) (e : Int) (L1 L3 : Int32) (st : rm_S), i + n = p → n < N → r < 8 → p ≤ 93 → st 1 r = nI p → (st 4 r).toInt = e → -200 ≤ e → e ≤ 200 → (B : Int) = 599 + e →
    ∃ f, RM_sumWith_28 N L1 (nI r) L3 (nI i) st = sw_tail L1 L3 (rm_setr st 7 f) ∧ (∀ j, i ≤ j → j < p → f (B - j) = st 5 (93 * r + j)) ∧ (∀ k, (∀ j, i ≤ j → j < p → k ≠ B - j) → f k = st 7 k) := by
  induction n with
  | zero =>
    intro N i r p B e L1 L3 st hi hN hr hp h1 h4 he1 he2 hB
    obtain ⟨N, rfl⟩ : ∃ M, N = M + 1 := ⟨N - 1, by omega⟩
    refine ⟨st 7, ?_, fun j h5 h6 => by omega, fun _ _ => rfl⟩
    rw [RM_sumWith_28, if_pos (ob_nI hr (by decide)), nI_clamp (by omega), h1, if_pos ((nI_leI (by omega) (by omega)).mpr (by omega)), rs_id]
    rfl
  | succ n ih =>
    intro N i r p B e L1 L3 st hi hN hr hp h1 h4 he1 he2 hB
    obtain ⟨N, rfl⟩ : ∃ M, N = M + 1 := ⟨N - 1, by omega⟩
    obtain ⟨f, a1, a2, a3⟩ := ih N (i + 1) r p B e L1 L3 (rm_up st 7 (B - i) (st 5 (93 * r + i))) (by omega) (by omega) hr hp h1 h4 he1 he2 hB
    refine ⟨f, ?_, fun j h5 h6 => ?_, fun k hk => ?_⟩
    · rw [RM_sumWith_28, if_pos (ob_nI hr (by decide)), nI_clamp (by omega), h1, if_neg (fun h => absurd ((nI_leI (by omega) (by omega)).mp h) (by omega)), if_pos (ob_nI hr (by decide)), ix93, if_pos (ob_nI (by omega) (by decide)), ix600 h4 he1 he2 hB (by omega), if_pos (ob_nI (by omega) (by decide)), nm_e0, nm_e0, nI_1, nI_clamp (by omega), nI_clamp (by omega), a1, ru_rs, rs_rs]
    · by_cases e9 : j = i
      · subst e9
        rw [a3 _ (fun j' h7 h8 => by omega), ru_rs, rs_at, upd_same]
      · rw [a2 j (by omega) h6, ru_rs, rs_ne (show 5 ≠ 7 by decide)]
    · rw [a3 k (fun j' h7 h8 => hk j' (by omega) h8), ru_rs, rs_at, upd_ne (hk i (Nat.le_refl _) (by omega))]
theorem wg_pz {w : Int32} {a b : Nat → Int32} (ha : isb a) (hb : isb b) : pz (wg w a b) 1024 = if w = 2 then (rv a : Int) + rv b else if w < 0 then (rv b : Int) - rv a else (rv a : Int) - rv b := by
  have hi : ∀ (F : Nat → Int32), isb F → ∀ k, k < 1024 → (F k).toInt = (xd F k : Int) := fun F hF k hk => by
    have h := isb_int hF hk
    unfold xd
    omega
  have hcong : ∀ (g h : Nat → Int), (∀ k, k < 1024 → g k = h k) → ∀ n, n ≤ 1024 → pz g n = pz h n := by
    intro g h hgh n
    induction n with
    | zero => intro _; rfl
    | succ n ih => intro hn; rw [pz, pz, ih (by omega), hgh n (by omega)]
  have main : ∀ x y : Int, (∀ k, k < 1024 → wg w a b k = x * (xd a k : Nat) + y * (xd b k : Nat)) → pz (wg w a b) 1024 = x * rv a + y * rv b := by
    intro x y hxy
    rw [hcong _ _ hxy 1024 (Nat.le_refl _), pz_dv, rv_def, rv_def]
  by_cases h2 : w = 2
  · rw [if_pos h2, main 1 1 (fun k hk => by unfold wg; rw [if_pos h2, hi a ha k hk, hi b hb k hk]; omega)]
    omega
  · rw [if_neg h2]
    by_cases h3 : w < 0
    · rw [if_pos h3, main (-1) 1 (fun k hk => by unfold wg; rw [if_neg h2, if_pos h3, hi a ha k hk, hi b hb k hk]; omega)]
      omega
    · rw [if_neg h3, main 1 (-1) (fun k hk => by unfold wg; rw [if_neg h2, if_neg h3, hi a ha k hk, hi b hb k hk]; omega)]
      omega
theorem sw_90 {st : rm_S} (h6 : isb (st 6)) (h7 : isb (st 7)) (L1 L3 w : Int32) (h0 : 0 ≤ pz (wg w (st 6) (st 7)) 1024) (h1 : pz (wg w (st 6) (st 7)) 1024 < ((2 ^ 1024 : Nat) : Int)) :
    ∃ f, RM_sumWith_90 L1 L3 w st = some (wr w L1 L3, rm_setr st 6 f) ∧ isb f ∧ (rv f : Int) = pz (wg w (st 6) (st 7)) 1024 := by
  unfold RM_sumWith_90
  obtain ⟨f, a1, a2, a3⟩ := sw_loop 1024 2000 0 L1 L3 w 0 st (st 6) (by omega) (by omega) h6 h7 (fun _ _ _ => rfl) (by rw [pz]; rfl) (by decide) (by decide)
  exact ⟨f, a1, pz_bits (fun i hi => a3 i (Nat.zero_le _) hi) h0 h1⟩
theorem sw_ok {st : rm_S} (h6 : isb (st 6)) (h7 : isb (st 7)) {L1 L3 : Int32} (hs1 : issign L1) (hs3 : issign L3) (hpos : 0 < rv (st 6)) (hb : rv (st 6) + rv (st 7) < 2 ^ 1024) :
    ∃ f, sw_tail L1 L3 st = some (sgn (L1.toInt * rv (st 6) + L3.toInt * rv (st 7)), rm_setr st 6 f) ∧ isb f ∧ rv f = (L1.toInt * rv (st 6) + L3.toInt * rv (st 7)).natAbs := by
  have e1 : (1 : Int32).toInt = 1 := rfl
  have em : (-1 : Int32).toInt = -1 := rfl
  have hpz := fun w => wg_pz (w := w) h6 h7
  have hbI : (rv (st 6) : Int) + rv (st 7) < ((2 ^ 1024 : Nat) : Int) := by
    rw [← Int.natCast_add]
    exact Int.ofNat_lt.mpr hb
  generalize hM : ((2 ^ 1024 : Nat) : Int) = M at hbI
  unfold sw_tail
  by_cases he : L1 = L3
  · rw [if_pos he]
    have h2 := hpz 2
    rw [if_pos rfl] at h2
    obtain ⟨f, a1, a2, a3⟩ := sw_90 h6 h7 L1 L3 2 (by rw [h2]; omega) (by rw [h2, hM]; exact hbI)
    rw [h2] at a3
    refine ⟨f, ?_, a2, ?_⟩
    · rw [a1, ← he]
      have hz : wr 2 L1 L1 = sgn (L1.toInt * (rv (st 6) : Int) + L1.toInt * (rv (st 7) : Int)) := by
        have hw : wr 2 L1 L1 = L1 := by unfold wr; rw [if_neg (by decide), if_neg (by decide)]
        rw [hw]
        rcases hs1 with h | h <;> rw [h]
        · rw [e1, sgn_pos (by omega)]
        · rw [em, sgn_neg (by omega)]
      rw [hz]
    · rw [← he]
      rcases hs1 with h | h <;> rw [h]
      · rw [e1]; omega
      · rw [em]; omega
  · rw [if_neg he, rm_cmpRows h6 h7, ob1_some]
    have h13 : (L1 = 1 ∧ L3 = -1) ∨ (L1 = -1 ∧ L3 = 1) := by
      rcases hs1 with h | h <;> rcases hs3 with h9 | h9
      · exact absurd (h.trans h9.symm) he
      · exact Or.inl ⟨h, h9⟩
      · exact Or.inr ⟨h, h9⟩
      · exact absurd (h.trans h9.symm) he
    unfold cmp3
    rcases Nat.lt_trichotomy (rv (st 6)) (rv (st 7)) with hlt | heq | hgt
    · rw [if_pos hlt]
      have h2 := hpz (-1)
      rw [if_neg (by decide), if_pos (by decide)] at h2
      obtain ⟨f, a1, a2, a3⟩ := sw_90 h6 h7 L1 L3 (-1) (by rw [h2]; omega) (by rw [h2, hM]; omega)
      rw [h2] at a3
      refine ⟨f, ?_, a2, ?_⟩
      · rw [a1]
        have hz : wr (-1) L1 L3 = sgn (L1.toInt * (rv (st 6) : Int) + L3.toInt * (rv (st 7) : Int)) := by
          have hw : wr (-1) L1 L3 = L3 := by unfold wr; rw [if_neg (by decide), if_pos rfl]
          rw [hw]
          rcases h13 with ⟨h, h9⟩ | ⟨h, h9⟩ <;> rw [h, h9, e1, em]
          · rw [sgn_neg (by omega)]
          · rw [sgn_pos (by omega)]
        rw [hz]
      · rcases h13 with ⟨h, h9⟩ | ⟨h, h9⟩ <;> rw [h, h9, e1, em] <;> omega
    · rw [if_neg (by omega), if_pos heq]
      have h2 := hpz 0
      rw [if_neg (by decide), if_neg (by decide)] at h2
      obtain ⟨f, a1, a2, a3⟩ := sw_90 h6 h7 L1 L3 0 (by rw [h2]; omega) (by rw [h2, hM]; omega)
      rw [h2] at a3
      refine ⟨f, ?_, a2, ?_⟩
      · rw [a1]
        have hz : wr 0 L1 L3 = sgn (L1.toInt * (rv (st 6) : Int) + L3.toInt * (rv (st 7) : Int)) := by
          have hw : wr 0 L1 L3 = 0 := by unfold wr; rw [if_pos rfl]
          rw [hw]
          rcases h13 with ⟨h, h9⟩ | ⟨h, h9⟩ <;> rw [h, h9, e1, em, heq]
          · rw [show (1 : Int) * (rv (st 7) : Int) + -1 * (rv (st 7) : Int) = 0 by omega, sgn_0]
          · rw [show (-1 : Int) * (rv (st 7) : Int) + 1 * (rv (st 7) : Int) = 0 by omega, sgn_0]
        rw [hz]
      · rcases h13 with ⟨h, h9⟩ | ⟨h, h9⟩ <;> rw [h, h9, e1, em] <;> omega
    · rw [if_neg (by omega), if_neg (by omega)]
      have h2 := hpz 1
      rw [if_neg (by decide), if_neg (by decide)] at h2
      obtain ⟨f, a1, a2, a3⟩ := sw_90 h6 h7 L1 L3 1 (by rw [h2]; omega) (by rw [h2, hM]; omega)
      rw [h2] at a3
      refine ⟨f, ?_, a2, ?_⟩
      · rw [a1]
        have hz : wr 1 L1 L3 = sgn (L1.toInt * (rv (st 6) : Int) + L3.toInt * (rv (st 7) : Int)) := by
          have hw : wr 1 L1 L3 = L1 := by unfold wr; rw [if_neg (by decide), if_neg (by decide)]
          rw [hw]
          rcases h13 with ⟨h, h9⟩ | ⟨h, h9⟩ <;> rw [h, h9, e1, em]
          · rw [sgn_pos (by omega)]
          · rw [sgn_neg (by omega)]
        rw [hz]
      · rcases h13 with ⟨h, h9⟩ | ⟨h, h9⟩ <;> rw [h, h9, e1, em] <;> omega
theorem same_67 {ms m1 : rm_S} (h : same_m ms m1) (f g : Nat → Int32) : same_m ms (rm_setr (rm_setr m1 7 g) 6 f) := by
  obtain ⟨h1, h2, h3, h4, h5⟩ := h
  refine ⟨?_, ?_, ?_, ?_, ?_⟩ <;> rw [rs_ne (by decide), rs_ne (by decide)] <;> assumption
/-- sumWith: the row V, and register r with the sign L3 -/
theorem rm_sumWith {st : rn_S} {m1 : rm_S} {r p : Nat} {e : Int} {X sh : Nat} (hr : r < 8) (hp1 : 1 ≤ p) (hp2 : p ≤ 93) (h1 : m1 1 r = nI p) (hg : reg3 st m1 r p e X) (h6 : isb (m1 6)) (hpos : 0 < rv (m1 6)) (hV : rv (m1 6) < 2 ^ 1023) (hsh : (sh : Int) = e + 507) {L1 L3 : Int32} (hs1 : issign L1) (hs3 : issign L3) :
    ∃ f g, RM_sumWith m1 L1 (nI r) L3 = some (sgn (L1.toInt * rv (m1 6) + L3.toInt * ((X * 2 ^ sh : Nat) : Int)), rm_setr (rm_setr m1 7 g) 6 f) ∧ isb f ∧ rv f = (L1.toInt * rv (m1 6) + L3.toInt * ((X * 2 ^ sh : Nat) : Int)).natAbs := by
  obtain ⟨b1, b2, b3, b4, b5, b6, b7, b8, b9, b10⟩ := hg
  obtain ⟨g0, c1, c2⟩ := sc_loop 1024 2000 0 L1 (nI r) L3 m1 (by omega) (by omega) (fun i hi => absurd hi (Nat.not_lt_zero _))
  have hn : ∀ q, q ≠ 7 → rm_setr m1 7 g0 q = m1 q := fun q hq => rs_ne hq
  obtain ⟨f7, d1, d2, d3⟩ := sq_loop p 2000 0 r p (sh + 92) e L1 L3 (rm_setr m1 7 g0) (by omega) (by omega) hr hp2 (by rw [hn 1 (by decide)]; exact h1) (by rw [hn 4 (by decide)]; exact b2) b3 b4 (by omega)
  rw [rs_rs] at d1
  rw [hn 5 (by decide)] at d2
  rw [rs_at] at d3
  have hs := sh_bits (X := X) (p := p) (B := sh + 92) (sh := sh) b6 b7 hp1 hp2 rfl
  have hX93 : X * 2 ^ sh < 2 ^ 1023 := by
    have h3 : X * 2 ^ sh < 2 ^ 93 * 2 ^ sh := Nat.mul_lt_mul_of_pos_right b6 (p2_pos sh)
    rw [← Nat.pow_add] at h3
    exact Nat.lt_of_lt_of_le h3 (p2_le (by omega))
  have h1024 : (2 : Nat) ^ 1024 = 2 ^ 1023 + 2 ^ 1023 := by rw [Nat.pow_succ]; omega
  have hrv := rv_of (f := f7) (W := X * 2 ^ sh) (fun k hk => by
    by_cases h : ∃ j, j < p ∧ k = sh + 92 - j
    · obtain ⟨j, hj, e9⟩ := h
      subst e9
      rw [d2 j (Nat.zero_le _) hj, b10 j hj, hs.1 j hj]
    · have h2 : ∀ j, j < p → k ≠ sh + 92 - j := fun j hj e9 => h ⟨j, hj, e9⟩
      rw [d3 k (fun j _ hj => h2 j hj), c2 k hk, hs.2 k h2]
      rfl) (Nat.lt_of_lt_of_le hX93 (p2_le (by decide)))
  have k6 : rm_setr m1 7 f7 6 = m1 6 := rs_ne (by decide)
  have k7 : rm_setr m1 7 f7 7 = f7 := rs_at _ _ _
  obtain ⟨f, a1, a2, a3⟩ := sw_ok (st := rm_setr m1 7 f7) (by rw [k6]; exact h6) (by rw [k7]; exact hrv.1) hs1 hs3 (by rw [k6]; exact hpos) (by
    rw [k6, k7, hrv.2, h1024]
    exact Nat.add_lt_add hV hX93)
  rw [k6, k7, hrv.2] at a1 a3
  refine ⟨f, f7, ?_, a2, a3⟩
  unfold RM_sumWith
  rw [zz_0, c1, zz_0, d1]
  exact a1
