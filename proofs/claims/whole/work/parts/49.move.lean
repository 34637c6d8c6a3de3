/-! One register, exact: gather and put; copy and negate -/
theorem dv_bits (W n : Nat) : dv 2 (fun k => W / 2 ^ k % 2) n = W % 2 ^ n := by
  induction n with
  | zero => rw [dv, Nat.pow_zero, Nat.mod_one]
  | succ n ih => rw [dv, ih, q_mod, Nat.mul_comm]
theorem rv_of {f : Nat → Int32} {W : Nat} (h : ∀ k, k < 1024 → f k = nI (W / 2 ^ k % 2)) (hW : W < 2 ^ 1024) : isb f ∧ rv f = W := by
  have hb : isb f := fun k hk => by
    rw [h k hk]
    have h2 : W / 2 ^ k % 2 < 2 := Nat.mod_lt _ (by decide)
    rcases (show W / 2 ^ k % 2 = 0 ∨ W / 2 ^ k % 2 = 1 by omega) with h3 | h3 <;> rw [h3]
    · exact Or.inl rfl
    · exact Or.inr rfl
  refine ⟨hb, ?_⟩
  have h1 : dv 2 (xd f) 1024 = dv 2 (fun k => W / 2 ^ k % 2) 1024 := dv_congr (fun k hk => xd_nI (h k hk) (by have := Nat.mod_lt (W / 2 ^ k) (show 0 < 2 by decide); omega))
  rw [rv_def, h1, dv_bits, Nat.mod_eq_of_lt hW]
theorem ge1024 {k : Nat} (h : k < 1024) : ¬ (1024 : Int32) ≤ nI k := by
  rw [show (1024 : Int32) = nI 1024 from rfl, nI_leI (by decide) (by omega)]
  omega
theorem cl_loop (n : Nat) : ∀ (N k : Nat) (st : rm_S), k + n = 1024 → n < N → (∀ i, i < k → st 6 i = 0 ∧ st 7 i = 0) → ∃ f g, RM_clear_2 N (nI k) st = some (rm_setr (rm_setr st 6 f) 7 g) ∧ ∀ i, i < 1024 → f i = 0 ∧ g i = 0 := by
  induction n with
  | zero =>
    intro N k st hk hN hz
    obtain ⟨N, rfl⟩ : ∃ M, N = M + 1 := ⟨N - 1, by omega⟩
    have hk : k = 1024 := by omega
    subst hk
    refine ⟨st 6, st 7, ?_, hz⟩
    rw [RM_clear_2, if_pos (by decide), rs_id, rs_id]
  | succ n ih =>
    intro N k st hk hN hz
    obtain ⟨N, rfl⟩ : ∃ M, N = M + 1 := ⟨N - 1, by omega⟩
    have hk2 : k < 1024 := by omega
    rw [RM_clear_2, if_neg (ge1024 hk2), if_pos (ob_nI hk2 (by decide)), nm_e0, if_pos (ob_nI hk2 (by decide)), nm_e0, nm_e0, nI_1, nI_clamp (by omega)]
    obtain ⟨f, g, a1, a2⟩ := ih N (k + 1) (rm_up (rm_up st 6 k 0) 7 k 0) (by omega) (by omega) (fun i hi => by
      rw [ru_rs, rs_ne (show 6 ≠ 7 by decide), ru_rs, rs_at, rs_at, rs_ne (show 7 ≠ 6 by decide)]
      by_cases e : i = k
      · subst e; exact ⟨upd_same, upd_same⟩
      · rw [upd_ne e, upd_ne e]; exact hz i (by omega))
    refine ⟨f, g, ?_, a2⟩
    rw [a1]
    congr 1
    funext q
    unfold rm_setr
    by_cases h7 : q = 7
    · rw [if_pos h7, if_pos h7]
    · rw [if_neg h7, if_neg h7]
      by_cases h6 : q = 6
      · rw [if_pos h6, if_pos h6]
      · rw [if_neg h6, if_neg h6]
        unfold rm_up
        rw [if_neg h7, if_neg h6]
theorem rm_clear_ok (ms : rm_S) : ∃ m1, RM_clear ms = some m1 ∧ same_m ms m1 ∧ (∀ i, i < 1024 → m1 6 i = 0 ∧ m1 7 i = 0) ∧ m1 8 = ms 8 ∧ m1 9 = ms 9 ∧ m1 10 = ms 10 := by
  unfold RM_clear
  obtain ⟨f, g, a1, a2⟩ := cl_loop 1024 2000 0 ms (by omega) (by omega) (fun i hi => absurd hi (Nat.not_lt_zero _))
  have hn : ∀ q, q ≠ 6 → q ≠ 7 → rm_setr (rm_setr ms 6 f) 7 g q = ms q := fun q h6 h7 => by rw [rs_ne h7, rs_ne h6]
  refine ⟨_, a1, ⟨hn 1 (by decide) (by decide), hn 2 (by decide) (by decide), hn 3 (by decide) (by decide), hn 4 (by decide) (by decide), hn 5 (by decide) (by decide)⟩, fun i hi => ?_, hn 8 (by decide) (by decide), hn 9 (by decide) (by decide), hn 10 (by decide) (by decide)⟩
  rw [rs_at, rs_ne (show 6 ≠ 7 by decide), rs_at]
  exact a2 i hi
theorem ix600 {x : Int32} {e : Int} (hx : x.toInt = e) (h1 : -200 ≤ e) (h2 : e ≤ 200) {i B : Nat} (hB : (B : Int) = 599 + e) (hi : i ≤ 93) : (600 : Int32) + x - (1 : Int32) - nI i = nI (B - i) := by
  apply Int32.toInt_inj.mp
  have e6 : (600 : Int32).toInt = 600 := rfl
  have e1 : (1 : Int32).toInt = 1 := rfl
  have ei : (nI i).toInt = i := nI_toInt (by omega)
  have ea : ((600 : Int32) + x).toInt = 600 + e := by rw [ar_add (by omega) (by omega), e6, hx]
  have eb : ((600 : Int32) + x - (1 : Int32)).toInt = 599 + e := by rw [ar_sub (by omega) (by omega), ea, e1]; omega
  rw [ar_sub (by omega) (by omega), eb, ei, nI_toInt (by omega)]
  omega
theorem pt_loop (n : Nat) : ∀ (N i r p B : Nat) (e : Int) (st : rm_S), i + n = p → n < N → r < 8 → p ≤ 93 → st 1 r = nI p → (st 4 r).toInt = e → -200 ≤ e → e ≤ 200 → (B : Int) = 599 + e →
    ∃ f, RM_put_2 N (nI r) (nI i) st = some (rm_setr st 6 f) ∧ (∀ j, i ≤ j → j < p → f (B - j) = st 5 (93 * r + j)) ∧ (∀ k, (∀ j, i ≤ j → j < p → k ≠ B - j) → f k = st 6 k) := by
  induction n with
  | zero =>
    intro N i r p B e st hi hN hr hp h1 h4 he1 he2 hB
    obtain ⟨N, rfl⟩ : ∃ M, N = M + 1 := ⟨N - 1, by omega⟩
    refine ⟨st 6, ?_, fun j h5 h6 => by omega, fun _ _ => rfl⟩
    rw [RM_put_2, if_pos (ob_nI hr (by decide)), nI_clamp (by omega), h1, if_pos ((nI_leI (by omega) (by omega)).mpr (by omega)), rs_id]
  | succ n ih =>
    intro N i r p B e st hi hN hr hp h1 h4 he1 he2 hB
    obtain ⟨N, rfl⟩ : ∃ M, N = M + 1 := ⟨N - 1, by omega⟩
    obtain ⟨f, a1, a2, a3⟩ := ih N (i + 1) r p B e (rm_up st 6 (B - i) (st 5 (93 * r + i))) (by omega) (by omega) hr hp h1 h4 he1 he2 hB
    refine ⟨f, ?_, fun j h5 h6 => ?_, fun k hk => ?_⟩
    · rw [RM_put_2, if_pos (ob_nI hr (by decide)), nI_clamp (by omega), h1, if_neg (fun h => absurd ((nI_leI (by omega) (by omega)).mp h) (by omega)), if_pos (ob_nI hr (by decide)), ix93, if_pos (ob_nI (by omega) (by decide)), ix600 h4 he1 he2 hB (by omega), if_pos (ob_nI (by omega) (by decide)), nm_e0, nm_e0, nI_1, nI_clamp (by omega), nI_clamp (by omega), a1, ru_rs, rs_rs]
    · by_cases e9 : j = i
      · subst e9
        rw [a3 _ (fun j' h7 h8 => by omega), ru_rs, rs_at, upd_same]
      · rw [a2 j (by omega) h6, ru_rs, rs_ne (show 5 ≠ 6 by decide)]
    · rw [a3 k (fun j' h7 h8 => hk j' (by omega) h8), ru_rs, rs_at, upd_ne (hk i (Nat.le_refl _) (by omega))]
/-- the bits of X * 2^sh at the places of a register's bits, none elsewhere -/
theorem sh_bits {X p B sh : Nat} (hX : X < 2 ^ 93) (hXm : X % 2 ^ (93 - p) = 0) (hp1 : 1 ≤ p) (hp2 : p ≤ 93) (hB : B = sh + 92) :
    (∀ j, j < p → X * 2 ^ sh / 2 ^ (B - j) % 2 = X / 2 ^ (92 - j) % 2) ∧ (∀ k, (∀ j, j < p → k ≠ B - j) → X * 2 ^ sh / 2 ^ k % 2 = 0) := by
  subst hB
  refine ⟨fun j hj => ?_, fun k hk => ?_⟩
  · rw [show sh + 92 - j = (92 - j) + sh by omega, Nat.pow_add, Nat.mul_div_mul_right _ _ (p2_pos sh)]
  · rcases Nat.lt_or_ge (sh + 92) k with h1 | h1
    · have h2 : X * 2 ^ sh < 2 ^ k := by
        have h3 : X * 2 ^ sh < 2 ^ 93 * 2 ^ sh := Nat.mul_lt_mul_of_pos_right hX (p2_pos sh)
        rw [← Nat.pow_add] at h3
        exact Nat.lt_of_lt_of_le h3 (p2_le (by omega))
      rw [Nat.div_eq_of_lt h2]
    · have h2 : k + p ≤ sh + 92 := by
        rcases Nat.lt_or_ge (sh + 92) (k + p) with h3 | h3
        · exact absurd (show k = sh + 92 - (sh + 92 - k) by omega) (hk (sh + 92 - k) (by omega))
        · exact h3
      have h3 := Nat.div_add_mod X (2 ^ (93 - p))
      rw [hXm, Nat.add_zero] at h3
      have h4 : X * 2 ^ sh = X / 2 ^ (93 - p) * 2 ^ (93 - p + sh - 1 - k) * 2 * 2 ^ k := by
        have h5 : (2 : Nat) ^ (93 - p) * 2 ^ sh = 2 ^ (93 - p + sh - 1 - k) * 2 * 2 ^ k := by
          have e1 : (2 : Nat) ^ (93 - p) * 2 ^ sh = 2 ^ (93 - p + sh) := (Nat.pow_add _ _ _).symm
          have e2 : (2 : Nat) ^ (93 - p + sh - 1 - k) * 2 * 2 ^ k = 2 ^ (93 - p + sh - 1 - k + 1 + k) := by rw [Nat.pow_add, Nat.pow_succ]
          rw [e1, e2]
          congr 1
          omega
        have h6 : X * 2 ^ sh = X / 2 ^ (93 - p) * (2 ^ (93 - p) * 2 ^ sh) := by
          rw [← Nat.mul_assoc, Nat.mul_comm (X / 2 ^ (93 - p)), h3]
        rw [h6, h5, Nat.mul_assoc, Nat.mul_assoc, Nat.mul_assoc]
      rw [h4, Nat.mul_div_cancel _ (p2_pos k), Nat.mul_mod_left]
theorem rm_put_ok {st : rn_S} {m1 : rm_S} {r p : Nat} {e : Int} {X sh : Nat} (hr : r < 8) (hp1 : 1 ≤ p) (hp2 : p ≤ 93) (h1 : m1 1 r = nI p) (hg : reg3 st m1 r p e X) (hz : ∀ i, i < 1024 → m1 6 i = 0) (hsh : (sh : Int) = e + 507) :
    ∃ f, RM_put m1 (nI r) = some (rm_setr m1 6 f) ∧ isb f ∧ rv f = X * 2 ^ sh := by
  obtain ⟨b1, b2, b3, b4, b5, b6, b7, b8, b9, b10⟩ := hg
  unfold RM_put
  obtain ⟨f, a1, a2, a3⟩ := pt_loop p 2000 0 r p (sh + 92) e m1 (by omega) (by omega) hr hp2 h1 b2 b3 b4 (by omega)
  have hs := sh_bits (X := X) (p := p) (B := sh + 92) (sh := sh) b6 b7 hp1 hp2 rfl
  have hW : X * 2 ^ sh < 2 ^ 1024 := by
    have h3 : X * 2 ^ sh < 2 ^ 93 * 2 ^ sh := Nat.mul_lt_mul_of_pos_right b6 (p2_pos sh)
    rw [← Nat.pow_add] at h3
    exact Nat.lt_of_lt_of_le h3 (p2_le (by omega))
  refine ⟨f, a1, rv_of (fun k hk => ?_) hW⟩
  by_cases h : ∃ j, j < p ∧ k = sh + 92 - j
  · obtain ⟨j, hj, e9⟩ := h
    subst e9
    rw [a2 j (Nat.zero_le _) hj, b10 j hj, hs.1 j hj]
  · have h2 : ∀ j, j < p → k ≠ sh + 92 - j := fun j hj e9 => h ⟨j, hj, e9⟩
    rw [a3 k (fun j _ hj => h2 j hj), hz k hk, hs.2 k h2]
    rfl
theorem len3 {v : Nat} (hv : v < 8) : rn_len v = 3 := by
  unfold rn_len
  rw [if_neg (by omega)]
/-- the class: a cleared row that takes a register -/
theorem cl_gather1 {st : rn_S} {f0 : Nat → Int32} (hok : ok33 f0) (h0 : xv f0 = 0) {ms : rm_S} {r p : Nat} {e : Int} {X pl : Nat} (hr : r < 8) (hk : rn_kd st r = 3) (hg : reg3 st ms r p e X) (hpl : (pl : Int) = e + 496) :
    ∃ f, RE_gather (rn_setx st f0) r 1 = rn_setx st f ∧ ok33 f ∧ xv f = X * 2 ^ pl := by
  obtain ⟨b1, b2, b3, b4, b5, b6, b7, b8, b9, b10⟩ := hg
  obtain ⟨f, a1, a2, co, a3⟩ := ex_gather (st := rn_setx st f0) (v := r) (s := 1) (pl := pl) hok (by rw [len3 hr]; exact b8) hk (show (rn_lw st r).toInt + 589 = pl by omega) (by rw [len3 hr]; omega) (Or.inl rfl)
  refine ⟨f, by rw [a1, sx_sx], a2, ?_⟩
  have hn : lv_n (rn_setx st f0) r = X := by
    unfold lv_n
    rw [len3 hr]
    exact b9
  rw [hn, sx_ex, h0, show (1 : Int32).toInt = 1 from rfl, Int.one_mul, B33i] at a3
  have hlt := xv_lt f
  rw [B33] at hlt
  have hW : X * 2 ^ pl < 2 ^ 1023 := by
    have h3 : X * 2 ^ pl < 2 ^ 93 * 2 ^ pl := Nat.mul_lt_mul_of_pos_right b6 (p2_pos pl)
    rw [← Nat.pow_add] at h3
    exact Nat.lt_of_lt_of_le h3 (p2_le (by omega))
  have e2 : ((0 : Nat) : Int) + (X : Int) * 2 ^ pl = ((X * 2 ^ pl : Nat) : Int) := by
    rw [Int.natCast_mul, Int.natCast_pow]
    show (0 : Int) + _ = _
    rw [Int.zero_add]
    rfl
  rw [e2] at a3
  exact Int.ofNat.inj (modz (Int.natCast_nonneg _) (Int.ofNat_lt.mpr hlt) (Int.natCast_nonneg _) (Int.ofNat_lt.mpr hW) a3)
theorem same_sx (st : rn_S) (f : Nat → Int32) : same_c st (rn_setx st f) := ⟨rfl, fun _ _ => ⟨rfl, rfl, rfl, rfl⟩⟩
theorem same_6 {ms m1 : rm_S} (h : same_m ms m1) (f : Nat → Int32) : same_m ms (rm_setr m1 6 f) := ⟨(rs_ne (by decide)).trans h.1, (rs_ne (by decide)).trans h.2.1, (rs_ne (by decide)).trans h.2.2.1, (rs_ne (by decide)).trans h.2.2.2.1, (rs_ne (by decide)).trans h.2.2.2.2⟩
theorem hb_X {X k : Nat} (h1 : 2 ^ 92 ≤ X) (h2 : X < 2 ^ 93) : hb_at (X * 2 ^ k) (92 + k) := hb_mul ⟨h1, h2⟩
/-- exact on both sides: V = E * 2^11 -/
theorem both_exact {st : rn_S} {ms : rm_S} (hR : Rel st ms) {v : Nat} (hv : v < 8) {s mode : Int32} (hs : issign s) (hm : ismode mode) {E T : Nat} (hok : ok33 (rn_ex st)) (hE : xv (rn_ex st) = E) (hb : isb (ms 6)) (hV : rv (ms 6) = E * 2 ^ 11) (hT : hb_at E T) (h1 : 95 ≤ T) (h2 : T ≤ 1000) :
    ∃ o t u, RN_storeExact st (nI v) s mode = (o, t) ∧ RM_round ms (nI v) s mode = some (o, u) ∧ Rel t u := by
  refine both_round hR hv hs hm hok hb (T := T) (h := T + 11) (by rw [hE]; exact hT) (by rw [hV]; exact hb_mul hT) h1 h2 (by omega) (by omega) (by omega) (fun p hp1 hp2 => ?_)
  rw [hE, hV, show T + 11 - p = (T - p) + 11 by omega, Nat.pow_add]
  refine ⟨(Nat.mul_div_mul_right _ _ (by decide)).symm, ?_⟩
  rw [Nat.mul_mod_mul_right]
  omega
theorem both_move {st : rn_S} {ms : rm_S} (hR : Rel st ms) {v x : Nat} (hv : v < 8) (hx : x < 8) (hk : rn_kd st x = 3) {s mode : Int32} (hs : issign s) (hm : ismode mode) :
    ∃ o t u m1 m2, RN_storeExact (RE_gather (RE_clear st) x 1) (nI v) s mode = (o, t) ∧ RM_clear ms = some m1 ∧ RM_put m1 (nI x) = some m2 ∧ RM_round m2 (nI v) s mode = some (o, u) ∧ Rel t u := by
  obtain ⟨f0, c1, c2, c3⟩ := ex_clear st
  obtain ⟨m1, d1, d2, d3, -⟩ := rm_clear_ok ms
  have hR1 := rel_same hR (same_sx st f0) d2
  obtain ⟨p, a1, a2, a3, a4, a5, a6, a7, a8, a9, a10⟩ := hR1 x hx
  obtain ⟨e, X, hg⟩ := a10 hk
  have hg2 := hg
  obtain ⟨b1, b2, b3, b4, b5, b6, b7, b8, b9, b10⟩ := hg2
  obtain ⟨pl, hpl⟩ : ∃ pl : Nat, (pl : Int) = e + 496 := ⟨(e + 496).toNat, by omega⟩
  obtain ⟨f, g1, g2, g3⟩ := cl_gather1 (st := st) c2 c3 (ms := m1) hx hk hg hpl
  obtain ⟨f6, k1, k2, k3⟩ := rm_put_ok (sh := pl + 11) hx a1 a2 a4 hg (fun i hi => (d3 i hi).1) (by omega)
  have hR2 := rel_same hR (same_sx st f) (same_6 d2 f6)
  have hm6 : rm_setr m1 6 f6 6 = f6 := rs_at _ _ _
  obtain ⟨o, t, u, r1, r2, r3⟩ := both_exact hR2 hv hs hm (E := X * 2 ^ pl) (T := 92 + pl) g2 g3 (by rw [hm6]; exact k2) (by rw [hm6, k3, Nat.pow_add, Nat.mul_assoc]) (hb_X b5 b6) (by omega) (by omega)
  exact ⟨o, t, u, m1, _, by rw [c1, g1]; exact r1, d1, k1, r2, r3⟩
