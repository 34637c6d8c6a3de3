/-! The reference's round: the rounding of part 39 -/
theorem ob1_some {α β : Type} (x : α) (f : α → Option β) : ob1 (some x) f = f x := by unfold ob1; exact Option.bind_some x f
theorem ob2_some {α β γ : Type} (x : α) (y : β) (f : α → β → Option γ) : ob2 (some (x, y)) f = f x y := by unfold ob2; exact Option.bind_some (x, y) _
/-- register r of the reference gets a value, and nothing else of the registers changes -/
def put_m (ms mt : rm_S) (r p : Nat) (k s : Int32) (e : Int) (X : Nat) : Prop :=
  mt 1 = ms 1 ∧ mt 2 = upd (ms 2) r k ∧ mt 3 = upd (ms 3) r s ∧ (∀ w, w < 8 → w ≠ r → mt 4 w = ms 4 w ∧ ∀ i, i < 93 → mt 5 (93 * w + i) = ms 5 (93 * w + i)) ∧
  (k = 3 → (mt 4 r).toInt = e ∧ ∀ i, i < p → mt 5 (93 * r + i) = nI (X / 2 ^ (92 - i) % 2))
/-- the same registers in two states -/
def same_m (ms m1 : rm_S) : Prop := m1 1 = ms 1 ∧ m1 2 = ms 2 ∧ m1 3 = ms 3 ∧ m1 4 = ms 4 ∧ m1 5 = ms 5
theorem same_7 (ms : rm_S) (f : Nat → Int32) : same_m ms (rm_setr ms 7 f) := ⟨rs_ne (by decide), rs_ne (by decide), rs_ne (by decide), rs_ne (by decide), rs_ne (by decide)⟩
theorem keep_ok {ms m1 : rm_S} (h : same_m ms m1) {r p : Nat} (hr : r < 8) {k s : Int32} (hk0 : k ≠ 0) (hk3 : k ≠ 3) {e : Int} {X : Nat} : ∃ t, RM_keep m1 (nI r) k s = some (0, t) ∧ put_m ms t r p k s e X := by
  unfold RM_keep RM_keep_21
  rw [if_pos (ob_nI hr (by decide)), nm_e0, if_neg hk0, if_pos (ob_nI hr (by decide)), nm_e0, nI_clamp (by omega)]
  obtain ⟨h1, h2, h3, h4, h5⟩ := h
  refine ⟨_, rfl, h1, ?_, ?_, fun w _ _ => ⟨?_, fun i _ => ?_⟩, fun h9 => absurd h9 hk3⟩
  · rw [ru_rs, rs_ne (show 2 ≠ 3 by decide), ru_rs, rs_at, h2]
  · rw [ru_rs, rs_at, ru_rs, rs_ne (show 3 ≠ 2 by decide), h3]
  · rw [ru_rs, rs_ne (show 4 ≠ 3 by decide), ru_rs, rs_ne (show 4 ≠ 2 by decide), h4]
  · rw [ru_rs, rs_ne (show 5 ≠ 3 by decide), ru_rs, rs_ne (show 5 ≠ 2 by decide), h5]
theorem put3 {ms m1 : rm_S} (h : same_m ms m1) {r p : Nat} (hr : r < 8) {s x : Int32} {f : Nat → Int32} {e : Int} {X : Nat} (he : x.toInt = e) (hf : ∀ i, i < p → f (93 * r + i) = nI (X / 2 ^ (92 - i) % 2)) (ho : ∀ j, (j < 93 * r + 0 ∨ 93 * r + 93 ≤ j) → f j = m1 5 j) :
    put_m ms (rm_setr (rm_up (rm_up (rm_up m1 2 r 3) 3 r s) 4 r x) 5 f) r p 3 s e X := by
  obtain ⟨h1, h2, h3, h4, h5⟩ := h
  refine ⟨?_, ?_, ?_, fun w hw hne => ⟨?_, fun i hi => ?_⟩, fun _ => ⟨?_, fun i hi => ?_⟩⟩
  · rw [rs_ne (show 1 ≠ 5 by decide), ru_rs, rs_ne (show 1 ≠ 4 by decide), ru_rs, rs_ne (show 1 ≠ 3 by decide), ru_rs, rs_ne (show 1 ≠ 2 by decide), h1]
  · rw [rs_ne (show 2 ≠ 5 by decide), ru_rs, rs_ne (show 2 ≠ 4 by decide), ru_rs, rs_ne (show 2 ≠ 3 by decide), ru_rs, rs_at, h2]
  · rw [rs_ne (show 3 ≠ 5 by decide), ru_rs, rs_ne (show 3 ≠ 4 by decide), ru_rs, rs_at, ru_rs, rs_ne (show 3 ≠ 2 by decide), h3]
  · rw [rs_ne (show 4 ≠ 5 by decide), ru_rs, rs_at, upd_ne hne, ru_rs, rs_ne (show 4 ≠ 3 by decide), ru_rs, rs_ne (show 4 ≠ 2 by decide), h4]
  · rw [rs_at, ho _ (by omega), h5]
  · rw [rs_ne (show 4 ≠ 5 by decide), ru_rs, rs_at, upd_same, he]
  · rw [rs_at, hf i hi]
theorem greatest_ok {ms m1 : rm_S} (h : same_m ms m1) {r p : Nat} (hr : r < 8) (hp1 : 1 ≤ p) (hp2 : p ≤ 93) {s : Int32} : ∃ t, RM_keepGreatest m1 (nI r) s = some (-s, t) ∧ put_m ms t r p 3 s 200 ((2 ^ p - 1) * 2 ^ (93 - p)) := by
  obtain ⟨f, a1, a2, a3⟩ := kg_loop 93 2000 0 r s (rm_up (rm_up (rm_up m1 2 r 3) 3 r s) 4 r 200) (by omega) (by omega) hr
  refine ⟨_, ?_, put3 h hr (x := 200) (f := f) rfl (fun i hi => ?_) (fun j hj => ?_)⟩
  · unfold RM_keepGreatest
    rw [if_pos (ob_nI hr (by decide)), nm_e0, if_pos (ob_nI hr (by decide)), nm_e0, if_pos (ob_nI hr (by decide)), nm_e0, nI_clamp (by omega), zz_0]
    exact a1
  · rw [a2 i (Nat.zero_le _) (by omega)]
    have e1 : (2 ^ p - 1) * 2 ^ (93 - p) / 2 ^ (92 - i) % 2 = 1 := by
      have e2 : 2 ^ (92 - i) = 2 ^ (p - 1 - i) * 2 ^ (93 - p) := by rw [← Nat.pow_add, show p - 1 - i + (93 - p) = 92 - i by omega]
      have e3 : 2 ^ p = 2 ^ (i + 1) * 2 ^ (p - 1 - i) := by rw [← Nat.pow_add, show i + 1 + (p - 1 - i) = p by omega]
      have e4 : (2 ^ p - 1) / 2 ^ (p - 1 - i) = 2 ^ (i + 1) - 1 := by
        have h5 := p2_pos (p - 1 - i)
        have h6 := p2_pos (i + 1)
        rw [e3]
        have h7 : 2 ^ (i + 1) * 2 ^ (p - 1 - i) - 1 = (2 ^ (p - 1 - i) - 1) + 2 ^ (p - 1 - i) * (2 ^ (i + 1) - 1) := by
          rw [Nat.mul_sub, Nat.mul_one, Nat.mul_comm (2 ^ (i + 1))]
          have h8 : 2 ^ (p - 1 - i) * 1 ≤ 2 ^ (p - 1 - i) * 2 ^ (i + 1) := Nat.mul_le_mul_left _ h6
          omega
        rw [h7, Nat.add_mul_div_left _ _ h5, Nat.div_eq_of_lt (by omega), Nat.zero_add]
      rw [e2, Nat.mul_div_mul_right _ _ (p2_pos _), e4, Nat.pow_succ]
      have h9 := p2_pos i
      omega
    rw [e1]
    rfl
  · rw [a3 j hj, ru_rs, rs_ne (show 5 ≠ 4 by decide), ru_rs, rs_ne (show 5 ≠ 3 by decide), ru_rs, rs_ne (show 5 ≠ 2 by decide)]
theorem p92_bit {i : Nat} (hi : i ≤ 92) : 2 ^ 92 / 2 ^ (92 - i) % 2 = if i = 0 then 1 else 0 := by
  rw [Nat.pow_div (by omega) (by decide), show 92 - (92 - i) = i by omega]
  by_cases h : i = 0
  · rw [if_pos h, h]
  · obtain ⟨j, rfl⟩ : ∃ j, i = j + 1 := ⟨i - 1, by omega⟩
    rw [if_neg h, Nat.pow_succ]
    omega
theorem least_ok {ms m1 : rm_S} (h : same_m ms m1) {r p : Nat} (hr : r < 8) (hp2 : p ≤ 93) {s : Int32} : ∃ t, RM_keepLeast m1 (nI r) s = some (s, t) ∧ put_m ms t r p 3 s (-200) (2 ^ 92) := by
  obtain ⟨f, a1, a2, a3⟩ := kl_loop 93 2000 0 r s (rm_up (rm_up (rm_up m1 2 r 3) 3 r s) 4 r (-200)) (by omega) (by omega) hr
  refine ⟨_, ?_, put3 h hr (x := -200) (f := f) rfl (fun i hi => ?_) (fun j hj => ?_)⟩
  · unfold RM_keepLeast
    rw [if_pos (ob_nI hr (by decide)), nm_e0, if_pos (ob_nI hr (by decide)), nm_e0, if_pos (ob_nI hr (by decide)), nm_e0, nI_clamp (by omega), zz_0]
    exact a1
  · rw [a2 i (Nat.zero_le _) (by omega), p92_bit (by omega)]
    by_cases h0 : i = 0
    · rw [if_pos h0, if_pos h0]; rfl
    · rw [if_neg h0, if_neg h0]; rfl
  · rw [a3 j hj, ru_rs, rs_ne (show 5 ≠ 4 by decide), ru_rs, rs_ne (show 5 ≠ 3 by decide), ru_rs, rs_ne (show 5 ≠ 2 by decide)]
