/-! The reference's loops in round, keepGreatest, keepLeast -/
def rm_setr (st : rm_S) (k : Nat) (f : Nat → Int32) : rm_S := fun q => if q = k then f else st q
theorem ru_rs (st : rm_S) (k j : Nat) (x : Int32) : rm_up st k j x = rm_setr st k (upd (st k) j x) := rfl
theorem rs_at (st : rm_S) (k : Nat) (f : Nat → Int32) : rm_setr st k f k = f := if_pos rfl
theorem rs_ne {st : rm_S} {k q : Nat} {f : Nat → Int32} (h : q ≠ k) : rm_setr st k f q = st q := if_neg h
theorem rs_rs (st : rm_S) (k : Nat) (f g : Nat → Int32) : rm_setr (rm_setr st k f) k g = rm_setr st k g := by
  funext q
  unfold rm_setr
  by_cases h : q = k
  · rw [if_pos h, if_pos h]
  · rw [if_neg h, if_neg h, if_neg h]
theorem rs_id (st : rm_S) (k : Nat) : rm_setr st k (st k) = st := by
  funext q
  unfold rm_setr
  by_cases h : q = k
  · rw [if_pos h, h]
  · rw [if_neg h]
theorem bx_xor {b c : Nat} (hb : b < 2) (hc : c < 2) : nI b ^^^ nI c = nI ((b + c) % 2) := by
  rcases (show b = 0 ∨ b = 1 by omega) with h | h <;> rcases (show c = 0 ∨ c = 1 by omega) with h2 | h2 <;> subst h <;> subst h2 <;> decide
theorem bx_and {b c : Nat} (hb : b < 2) (hc : c < 2) : nI b &&& nI c = nI ((b + c) / 2) := by
  rcases (show b = 0 ∨ b = 1 by omega) with h | h <;> rcases (show c = 0 ∨ c = 1 by omega) with h2 | h2 <;> subst h <;> subst h2 <;> decide
theorem add_up (base u t : Nat) : (base + u) / 2 ^ t = base / 2 ^ t + (base % 2 ^ t + u) / 2 ^ t := by
  have h := Nat.div_add_mod base (2 ^ t)
  have h2 : base + u = (base % 2 ^ t + u) + 2 ^ t * (base / 2 ^ t) := by omega
  have h3 : (base + u) / 2 ^ t = ((base % 2 ^ t + u) + 2 ^ t * (base / 2 ^ t)) / 2 ^ t := by rw [← h2]
  rw [h3, Nat.add_mul_div_left _ _ (p2_pos t)]
  omega
theorem add_cy (base u t : Nat) : (base % 2 ^ (t + 1) + u) / 2 ^ (t + 1) = (base / 2 ^ t % 2 + (base % 2 ^ t + u) / 2 ^ t) / 2 := by
  rw [q_mod, Nat.pow_succ, ← Nat.div_div_eq_div_mul, show base % 2 ^ t + 2 ^ t * (base / 2 ^ t % 2) + u = (base % 2 ^ t + u) + 2 ^ t * (base / 2 ^ t % 2) by omega, Nat.add_mul_div_left _ _ (p2_pos t)]
  congr 1
  omega
theorem cy_lt {base u t : Nat} (hu : u < 2) : (base % 2 ^ t + u) / 2 ^ t < 2 := by
  rw [Nat.div_lt_iff_lt_mul (p2_pos t)]
  have h := Nat.mod_lt base (p2_pos t)
  omega
theorem sub1 (k : Nat) : nI (k + 1) - (1 : Int32) = nI k := by
  rw [show (1 : Int32) = nI 1 from rfl, pk_sub (by omega), show k + 1 - 1 = k by omega]
theorem r65_loop (k : Nat) : ∀ (N h p base u : Nat) (L1 L2 L3 L6 L7 : Int32) (st : rm_S), k < N → k ≤ p → p ≤ h → h < 1024 → u < 2 → isb (st 6) → rv (st 6) / 2 ^ (h - p + 1) = base → (∀ i, k ≤ i → i < p → st 7 i = nI ((base + u) / 2 ^ (p - 1 - i) % 2)) →
    ∃ M f, RM_round_65 N L1 L2 L3 (nI h) (nI p) L6 L7 (nI ((base % 2 ^ (p - k) + u) / 2 ^ (p - k))) (nI k - (1 : Int32)) st = RM_round_65 (M + 1) L1 L2 L3 (nI h) (nI p) L6 L7 (nI ((base % 2 ^ p + u) / 2 ^ p)) (-1) (rm_setr st 7 f) ∧ ∀ i, i < p → f i = nI ((base + u) / 2 ^ (p - 1 - i) % 2) := by
  induction k with
  | zero =>
    intro N h p base u L1 L2 L3 L6 L7 st hN hk hph hh hu hb hV hi
    obtain ⟨N, rfl⟩ : ∃ M, N = M + 1 := ⟨N - 1, by omega⟩
    refine ⟨N, st 7, ?_, fun i h1 => hi i (Nat.zero_le _) h1⟩
    rw [rs_id, Nat.sub_zero, show nI 0 - (1 : Int32) = -1 from by decide]
  | succ k ih =>
    intro N h p base u L1 L2 L3 L6 L7 st hN hk hph hh hu hb hV hi
    obtain ⟨N, rfl⟩ : ∃ M, N = M + 1 := ⟨N - 1, by omega⟩
    have hbit : st 6 (h - k) = nI (base / 2 ^ (p - (k + 1)) % 2) := by
      rw [xd_n hb (show h - k < 1024 by omega), ← rv_bit hb (show h - k < 1024 by omega), ← hV, Nat.div_div_eq_div_mul, ← Nat.pow_add, show h - p + 1 + (p - (k + 1)) = h - k by omega]
    have hb2 : base / 2 ^ (p - (k + 1)) % 2 < 2 := Nat.mod_lt _ (by decide)
    have hc2 := cy_lt (base := base) (t := p - (k + 1)) hu
    rw [sub1, RM_round_65, if_neg (nI_pos (by omega)), pk_sub (show k ≤ h by omega), if_pos (ob_nI (by omega) (by decide)), if_pos (ob_nI (by omega) (by decide)), nm_e0, if_pos (ob_nI (by omega) (by decide)), nm_e0, nm_e0, nI_clamp (by omega), nI_clamp (by omega), ru_rs, rs_ne (show 6 ≠ 7 by decide), hbit, bx_xor hb2 hc2, bx_and hb2 hc2, ← add_cy, show p - (k + 1) + 1 = p - k by omega]
    rw [show nI k + (-1 : Int32) = nI k - (1 : Int32) from (Int32.sub_eq_add_neg _ _).symm]
    obtain ⟨M, f, a1, a2⟩ := ih N h p base u L1 L2 L3 L6 L7 (rm_setr st 7 (upd (st 7) k (nI ((base / 2 ^ (p - (k + 1)) % 2 + (base % 2 ^ (p - (k + 1)) + u) / 2 ^ (p - (k + 1))) % 2)))) (by omega) (by omega) hph hh hu (by rw [rs_ne (by decide)]; exact hb) (by rw [rs_ne (by decide)]; exact hV) (fun i h1 h2 => by
      rw [rs_at]
      by_cases e : i = k
      · subst e
        rw [upd_same, show p - 1 - i = p - (i + 1) by omega, add_up base u (p - (i + 1))]
        congr 1
        omega
      · rw [upd_ne e]
        exact hi i (by omega) h2)
    exact ⟨M, f, by rw [a1, rs_rs], a2⟩
theorem ge93 {k : Nat} (h : k < 93) : ¬ (93 : Int32) ≤ nI k := by
  rw [show (93 : Int32) = nI 93 from rfl, nI_leI (by decide) (by omega)]
  omega
theorem ix93 (r k : Nat) : (93 : Int32) * nI r + nI k = nI (93 * r + k) := by
  rw [show (93 : Int32) = nI 93 from rfl, pk_mul, nI_add]
/-- the bit that round writes at place i -/
def rb_g (st : rm_S) (p c i : Nat) : Int32 := if p ≤ i then 0 else if c = 1 then (if i = 0 then 1 else 0) else st 7 i
theorem r276_loop (n : Nat) : ∀ (N k r p c : Nat) (s L6 L7 : Int32) (st : rm_S), k + n = 93 → n < N → r < 8 → p ≤ 93 → c < 2 →
    ∃ f, RM_round_276 N (nI r) s (nI p) L6 L7 (nI c) (nI k) st = some ((if L6 = 0 then (if L7 = 0 then -s else s) else 0), rm_setr st 5 f) ∧ (∀ i, k ≤ i → i < 93 → f (93 * r + i) = rb_g st p c i) ∧ (∀ j, (j < 93 * r + k ∨ 93 * r + 93 ≤ j) → f j = st 5 j) := by
  induction n with
  | zero =>
    intro N k r p c s L6 L7 st hk hN hr hp hc
    obtain ⟨N, rfl⟩ : ∃ M, N = M + 1 := ⟨N - 1, by omega⟩
    have hk : k = 93 := by omega
    subst hk
    refine ⟨st 5, ?_, fun i h1 h2 => by omega, fun _ _ => rfl⟩
    rw [RM_round_276, if_pos (by decide), rs_id]
    by_cases h6 : L6 = 0
    · rw [if_pos h6, if_pos h6]
      by_cases h7 : L7 = 0
      · rw [if_pos h7, if_pos h7]
      · rw [if_neg h7, if_neg h7]
    · rw [if_neg h6, if_neg h6]
  | succ n ih =>
    intro N k r p c s L6 L7 st hk hN hr hp hc
    obtain ⟨N, rfl⟩ : ∃ M, N = M + 1 := ⟨N - 1, by omega⟩
    have hk93 : k < 93 := by omega
    have h331 : ∀ x : Int32, RM_round_331 (RM_round_276 N) (nI r) s (nI p) L6 L7 (nI c) (nI k) x ((93 : Int32) * nI r + nI k) st = RM_round_276 N (nI r) s (nI p) L6 L7 (nI c) (nI (k + 1)) (rm_up st 5 (93 * r + k) x) := by
      intro x
      unfold RM_round_331
      rw [ix93, if_pos (ob_nI (by omega) (by decide)), nm_e0, nm_e0, nI_1, nI_clamp (by omega)]
    have hstep : RM_round_276 (N + 1) (nI r) s (nI p) L6 L7 (nI c) (nI k) st = RM_round_276 N (nI r) s (nI p) L6 L7 (nI c) (nI (k + 1)) (rm_up st 5 (93 * r + k) (rb_g st p c k)) := by
      rw [RM_round_276, if_neg (ge93 hk93)]
      unfold rb_g
      by_cases h1 : p ≤ k
      · rw [if_neg (fun h => absurd ((nI_ltI (by omega) (by omega)).mp h) (by omega)), h331, if_pos h1]
      · rw [if_pos ((nI_ltI (by omega) (by omega)).mpr (by omega)), if_neg h1]
        by_cases h2 : c = 1
        · rw [if_pos (show nI c = 1 by rw [h2]; rfl), if_pos h2]
          by_cases h3 : k = 0
          · rw [if_pos (show nI k = 0 by rw [h3]; rfl), h331, if_pos h3]
          · rw [if_neg (fun h => h3 ((nI_z (by omega)).mp h)), h331, if_neg h3]
        · rw [if_neg (fun h => h2 ((nI2 hc).mp h)), if_neg h2, if_pos (ob_nI (by omega) (by decide)), h331, nI_clamp (by omega)]
    obtain ⟨f, a1, a2, a3⟩ := ih N (k + 1) r p c s L6 L7 (rm_up st 5 (93 * r + k) (rb_g st p c k)) (by omega) (by omega) hr hp hc
    refine ⟨f, ?_, fun i h1 h2 => ?_, fun j hj => ?_⟩
    · rw [hstep, a1, ru_rs, rs_rs]
    · by_cases e : i = k
      · subst e
        rw [a3 _ (Or.inl (by omega)), ru_rs, rs_at, upd_same]
      · rw [a2 i (by omega) h2]
        unfold rb_g
        rw [ru_rs, rs_ne (show 7 ≠ 5 by decide)]
    · rw [a3 j (by omega), ru_rs, rs_at, upd_ne (by omega)]
theorem kg_loop (n : Nat) : ∀ (N k r : Nat) (s : Int32) (st : rm_S), k + n = 93 → n < N → r < 8 →
    ∃ f, RM_keepGreatest_25 N (nI r) s (nI k) st = some (-s, rm_setr st 5 f) ∧ (∀ i, k ≤ i → i < 93 → f (93 * r + i) = 1) ∧ (∀ j, (j < 93 * r + k ∨ 93 * r + 93 ≤ j) → f j = st 5 j) := by
  induction n with
  | zero =>
    intro N k r s st hk hN hr
    obtain ⟨N, rfl⟩ : ∃ M, N = M + 1 := ⟨N - 1, by omega⟩
    have hk : k = 93 := by omega
    subst hk
    exact ⟨st 5, by rw [RM_keepGreatest_25, if_pos (by decide), rs_id], fun i h1 h2 => by omega, fun _ _ => rfl⟩
  | succ n ih =>
    intro N k r s st hk hN hr
    obtain ⟨N, rfl⟩ : ∃ M, N = M + 1 := ⟨N - 1, by omega⟩
    obtain ⟨f, a1, a2, a3⟩ := ih N (k + 1) r s (rm_up st 5 (93 * r + k) 1) (by omega) (by omega) hr
    refine ⟨f, ?_, fun i h1 h2 => ?_, fun j hj => ?_⟩
    · rw [RM_keepGreatest_25, if_neg (ge93 (by omega)), ix93, if_pos (ob_nI (by omega) (by decide)), nm_e0, nm_e0, nI_1, nI_clamp (by omega), a1, ru_rs, rs_rs]
    · by_cases e : i = k
      · subst e
        rw [a3 _ (Or.inl (by omega)), ru_rs, rs_at, upd_same]
      · exact a2 i (by omega) h2
    · rw [a3 j (by omega), ru_rs, rs_at, upd_ne (by omega)]
theorem kl_loop (n : Nat) : ∀ (N k r : Nat) (s : Int32) (st : rm_S), k + n = 93 → n < N → r < 8 →
    ∃ f, RM_keepLeast_25 N (nI r) s (nI k) st = some (s, rm_setr st 5 f) ∧ (∀ i, k ≤ i → i < 93 → f (93 * r + i) = if i = 0 then 1 else 0) ∧ (∀ j, (j < 93 * r + k ∨ 93 * r + 93 ≤ j) → f j = st 5 j) := by
  induction n with
  | zero =>
    intro N k r s st hk hN hr
    obtain ⟨N, rfl⟩ : ∃ M, N = M + 1 := ⟨N - 1, by omega⟩
    have hk : k = 93 := by omega
    subst hk
    exact ⟨st 5, by rw [RM_keepLeast_25, if_pos (by decide), rs_id], fun i h1 h2 => by omega, fun _ _ => rfl⟩
  | succ n ih =>
    intro N k r s st hk hN hr
    obtain ⟨N, rfl⟩ : ∃ M, N = M + 1 := ⟨N - 1, by omega⟩
    have h50 : ∀ x : Int32, RM_keepLeast_50 (RM_keepLeast_25 N) (nI r) s (nI k) x ((93 : Int32) * nI r + nI k) st = RM_keepLeast_25 N (nI r) s (nI (k + 1)) (rm_up st 5 (93 * r + k) x) := by
      intro x
      unfold RM_keepLeast_50
      rw [ix93, if_pos (ob_nI (by omega) (by decide)), nm_e0, nm_e0, nI_1, nI_clamp (by omega)]
    have hstep : RM_keepLeast_25 (N + 1) (nI r) s (nI k) st = RM_keepLeast_25 N (nI r) s (nI (k + 1)) (rm_up st 5 (93 * r + k) (if k = 0 then 1 else 0)) := by
      rw [RM_keepLeast_25, if_neg (ge93 (by omega))]
      by_cases h3 : k = 0
      · rw [if_pos (show nI k = 0 by rw [h3]; rfl), h50, if_pos h3]
      · rw [if_neg (fun h => h3 ((nI_z (by omega)).mp h)), h50, if_neg h3]
    obtain ⟨f, a1, a2, a3⟩ := ih N (k + 1) r s (rm_up st 5 (93 * r + k) (if k = 0 then 1 else 0)) (by omega) (by omega) hr
    refine ⟨f, by rw [hstep, a1, ru_rs, rs_rs], fun i h1 h2 => ?_, fun j hj => ?_⟩
    · by_cases e : i = k
      · subst e
        rw [a3 _ (Or.inl (by omega)), ru_rs, rs_at, upd_same]
      · exact a2 i (by omega) h2
    · rw [a3 j (by omega), ru_rs, rs_at, upd_ne (by omega)]
