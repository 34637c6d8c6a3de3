/-! The reference's row of bits as a whole number: highest, anyBelow -/
theorem ob_nI {k n : Nat} (h : k < n) (hn : n < 2147483648) : ob_in (nI k) n = true := by
  unfold ob_in
  rw [nI_toInt (by omega), Bool.and_eq_true, decide_eq_true_eq, decide_eq_true_eq]
  omega
def isb (f : Nat → Int32) : Prop := ∀ k, k < 1024 → f k = 0 ∨ f k = 1
def rv (f : Nat → Int32) : Nat := dv 2 (xd f) 1024
theorem rv_def (f : Nat → Int32) : rv f = dv 2 (xd f) 1024 := by unfold rv; rfl
theorem xd_b {f : Nat → Int32} (h : isb f) {k : Nat} (hk : k < 1024) : xd f k < 2 := by
  unfold xd
  rcases h k hk with h | h <;> rw [h] <;> decide
theorem xd_n {f : Nat → Int32} (h : isb f) {k : Nat} (hk : k < 1024) : f k = nI (xd f k) := by
  unfold xd
  rcases h k hk with h | h <;> rw [h] <;> decide
theorem xd_0 {f : Nat → Int32} (h : isb f) {k : Nat} (hk : k < 1024) : (f k = 0) ↔ xd f k = 0 := by
  unfold xd
  rcases h k hk with h | h <;> rw [h] <;> decide
theorem rv_bit {f : Nat → Int32} (h : isb f) {k : Nat} (hk : k < 1024) : rv f / 2 ^ k % 2 = xd f k := by
  rw [rv_def]
  exact dv_digit (by decide) hk (fun i hi => xd_b h hi)
theorem rv_mod {f : Nat → Int32} (h : isb f) {k : Nat} (hk : k ≤ 1024) : rv f % 2 ^ k = dv 2 (xd f) k := by
  rw [rv_def]
  exact dv_mod hk (fun i hi => xd_b h hi)
theorem rv_mod0 {f : Nat → Int32} (h : isb f) {k : Nat} (hk : k ≤ 1024) : rv f % 2 ^ k = 0 ↔ ∀ i, i < k → f i = 0 := by
  rw [rv_mod h hk, dv_zero_iff (by decide)]
  exact ⟨fun a i hi => (xd_0 h (by omega)).mpr (a i hi), fun a i hi => (xd_0 h (by omega)).mp (a i hi)⟩
theorem rv_top {f : Nat → Int32} {k : Nat} (hk : k ≤ 1024) (hz : ∀ i, k ≤ i → i < 1024 → f i = 0) : rv f = dv 2 (xd f) k := by
  obtain ⟨m, hm⟩ := Nat.exists_eq_add_of_le hk
  have h1 := dv_split (B := 2) (f := xd f) k m
  rw [← hm] at h1
  have h2 : dv 2 (fun i => xd f (k + i)) m = 0 := dv_zero (fun i hi => by
    unfold xd
    rw [hz _ (by omega) (by omega)]
    rfl)
  rw [rv_def, h1, h2, Nat.mul_zero, Nat.add_zero]
theorem hi_loop (k : Nat) : ∀ (N h : Nat) (ms : rm_S), k < 1024 → k < N → isb (ms 6) → (∀ i, k < i → i < 1024 → ms 6 i = 0) → hb_at (rv (ms 6)) h → RM_highest_4 N (nI k) ms = some (nI h) := by
  induction k with
  | zero =>
    intro N h ms hk hN hb hz hh
    obtain ⟨N, rfl⟩ : ∃ M, N = M + 1 := ⟨N - 1, by omega⟩
    have hV := rv_top (f := ms 6) (k := 1) (by omega) (fun i h1 h2 => hz i (by omega) h2)
    rw [dv_one] at hV
    have h1 : xd (ms 6) 0 = 1 := by
      have h2 := xd_b hb hk
      have h3 := hh.1
      have h4 := p2_pos h
      omega
    have hh0 : h = 0 := hb_one hh (by rw [hV, h1]; exact ⟨by decide, by decide⟩)
    subst hh0
    rw [RM_highest_4, if_neg (nI_pos (by decide)), if_pos (ob_nI (by decide) (by decide)), nI_clamp (by decide), if_neg (fun h5 => by
      have h6 := (xd_0 hb hk).mp h5
      omega)]
  | succ k ih =>
    intro N h ms hk hN hb hz hh
    obtain ⟨N, rfl⟩ : ∃ M, N = M + 1 := ⟨N - 1, by omega⟩
    rw [RM_highest_4, if_neg (nI_pos (by omega)), if_pos (ob_nI hk (by decide)), nI_clamp (by omega)]
    by_cases h0 : ms 6 (k + 1) = 0
    · rw [if_pos h0, nm_e0, nk_dec (by omega), show k + 1 - 1 = k by omega]
      exact ih N h ms (by omega) (by omega) hb (fun i h1 h2 => by
        by_cases e : i = k + 1
        · subst e; exact h0
        · exact hz i (by omega) h2) hh
    · rw [if_neg h0]
      have hV := rv_top (f := ms 6) (k := k + 2) (by omega) (fun i h1 h2 => hz i (by omega) h2)
      have h1 : xd (ms 6) (k + 1) = 1 := by
        have h2 := xd_b hb hk
        have h3 : ¬ xd (ms 6) (k + 1) = 0 := fun h4 => h0 ((xd_0 hb hk).mpr h4)
        omega
      have h5 : hb_at (rv (ms 6)) (k + 1) := by
        refine ⟨?_, ?_⟩
        · rw [hV, show k + 2 = (k + 1) + 1 from rfl, dv, h1, Nat.one_mul]
          exact Nat.le_add_left _ _
        · rw [hV]
          exact dv_lt (fun i hi => xd_b hb (by omega))
      rw [hb_one hh h5]
theorem rm_highest {ms : rm_S} (hb : isb (ms 6)) {h : Nat} (hh : hb_at (rv (ms 6)) h) : RM_highest ms = some (nI h) := by
  unfold RM_highest
  exact hi_loop 1023 2000 h ms (by decide) (by decide) hb (fun i h1 h2 => by omega) hh
theorem ab_one (n : Nat) : ∀ (N i K : Nat) (ms : rm_S), i + n = K → n < N → K ≤ 1024 → RM_anyBelow_4 N (nI K) 1 (nI i) ms = some 1 := by
  induction n with
  | zero =>
    intro N i K ms hi hN hK
    obtain ⟨N, rfl⟩ : ∃ M, N = M + 1 := ⟨N - 1, by omega⟩
    rw [RM_anyBelow_4, if_pos ((nI_leI (by omega) (by omega)).mpr (by omega)), if_pos (by decide)]
  | succ n ih =>
    intro N i K ms hi hN hK
    obtain ⟨N, rfl⟩ : ∃ M, N = M + 1 := ⟨N - 1, by omega⟩
    rw [RM_anyBelow_4, if_neg (fun h => absurd ((nI_leI (by omega) (by omega)).mp h) (by omega)), if_neg (by decide)]
    unfold RM_anyBelow_22 RM_anyBelow_27
    rw [nm_e0, nI_1]
    exact ih N (i + 1) K ms (by omega) (by omega) hK
theorem ab_zero (n : Nat) : ∀ (N i K : Nat) (ms : rm_S), i + n = K → n < N → K ≤ 1024 → ((∀ j, i ≤ j → j < K → ms 6 j = 0) → RM_anyBelow_4 N (nI K) 0 (nI i) ms = some 0) ∧ (¬ (∀ j, i ≤ j → j < K → ms 6 j = 0) → RM_anyBelow_4 N (nI K) 0 (nI i) ms = some 1) := by
  induction n with
  | zero =>
    intro N i K ms hi hN hK
    obtain ⟨N, rfl⟩ : ∃ M, N = M + 1 := ⟨N - 1, by omega⟩
    rw [RM_anyBelow_4, if_pos ((nI_leI (by omega) (by omega)).mpr (by omega)), if_pos (by decide)]
    exact ⟨fun _ => rfl, fun h => absurd (fun j h1 h2 => by omega) h⟩
  | succ n ih =>
    intro N i K ms hi hN hK
    obtain ⟨N, rfl⟩ : ∃ M, N = M + 1 := ⟨N - 1, by omega⟩
    rw [RM_anyBelow_4, if_neg (fun h => absurd ((nI_leI (by omega) (by omega)).mp h) (by omega)), if_pos rfl, if_pos (ob_nI (by omega) (by decide)), nI_clamp (by omega)]
    by_cases h0 : ms 6 i = 0
    · rw [if_pos h0]
      unfold RM_anyBelow_27
      rw [nm_e0, nI_1]
      have h9 := ih N (i + 1) K ms (by omega) (by omega) hK
      refine ⟨fun h => h9.1 (fun j h1 h2 => h j (by omega) h2), fun h => h9.2 (fun h8 => h (fun j h1 h2 => ?_))⟩
      by_cases e : j = i
      · subst e; exact h0
      · exact h8 j (by omega) h2
    · rw [if_neg h0]
      unfold RM_anyBelow_22 RM_anyBelow_27
      rw [nm_e0, nI_1]
      exact ⟨fun h => absurd (h i (Nat.le_refl _) (by omega)) h0, fun _ => ab_one n N (i + 1) K ms (by omega) (by omega) hK⟩
theorem rm_any {ms : rm_S} (hb : isb (ms 6)) {K : Nat} (hK : K ≤ 1024) : RM_anyBelow ms (nI K) = some (if rv (ms 6) % 2 ^ K = 0 then 0 else 1) := by
  unfold RM_anyBelow
  have h := ab_zero K 2000 0 K ms (by omega) (by omega) hK
  by_cases h0 : rv (ms 6) % 2 ^ K = 0
  · rw [if_pos h0]
    exact h.1 (fun j _ h2 => (rv_mod0 hb hK).mp h0 j h2)
  · rw [if_neg h0]
    exact h.2 (fun h1 => h0 ((rv_mod0 hb hK).mpr (fun j hj => h1 j (Nat.zero_le _) hj)))
