/-! digits, and one more for all that is left: both rows round alike -/
theorem dg_div {q s : Nat} (j : Nat) (hs : s < 2) : (2 * q + s) / 2 ^ (j + 1) = q / 2 ^ j := by
  rw [Nat.pow_succ', ← Nat.div_div_eq_div_mul, show (2 * q + s) / 2 = q by omega]
theorem dg_mod {q s : Nat} (j : Nat) (hs : s < 2) : (2 * q + s) % 2 ^ (j + 1) = 0 ↔ (q % 2 ^ j = 0 ∧ s = 0) := by
  rw [Nat.pow_succ', Nat.mod_mul, show (2 * q + s) / 2 = q by omega, show (2 * q + s) % 2 = s by omega]
  omega
theorem dg_sh (n a k : Nat) : n * 2 ^ a / 2 ^ (a + k) = n / 2 ^ k ∧ (n * 2 ^ a % 2 ^ (a + k) = 0 ↔ n % 2 ^ k = 0) := by
  have hp := p2_pos a
  rw [Nat.pow_add, Nat.mul_comm n]
  refine ⟨Nat.mul_div_mul_left _ _ hp, ?_⟩
  rw [Nat.mul_mod_mul_left]
  constructor
  · intro h
    rcases Nat.mul_eq_zero.mp h with h | h
    · omega
    · exact h
  · intro h
    rw [h, Nat.mul_zero]
theorem dg_low {q e d : Nat} (j : Nat) (he : e < 2 ^ d) : (q * 2 ^ d + e) / 2 ^ (d + j) = q / 2 ^ j ∧ ((q * 2 ^ d + e) % 2 ^ (d + j) = 0 ↔ (e = 0 ∧ q % 2 ^ j = 0)) := by
  have hp := p2_pos d
  rw [Nat.pow_add, ← Nat.div_div_eq_div_mul, Nat.mod_mul, Nat.mul_comm q, Nat.mul_add_div hp, Nat.div_eq_of_lt he, Nat.add_zero, Nat.mul_add_mod, Nat.mod_eq_of_lt he]
  refine ⟨rfl, ?_⟩
  constructor
  · intro h
    have h1 : e = 0 := by omega
    have h2 : 2 ^ d * (q % 2 ^ j) = 0 := by omega
    rcases Nat.mul_eq_zero.mp h2 with h | h
    · omega
    · exact ⟨h1, h⟩
  · rintro ⟨h1, h2⟩
    rw [h1, h2, Nat.mul_zero]
theorem both_digits {st : rn_S} {ms : rm_S} (hR : Rel st ms) {v : Nat} (hv : v < 8) {s mode : Int32} (hs : issign s) (hm : ismode mode) (hok : ok33 (rn_ex st)) (hb : isb (ms 6)) {q sb a q' sb' b d e t : Nat} (hE : xv (rn_ex st) = (2 * q + sb) * 2 ^ a) (hV : rv (ms 6) = (2 * q' + sb') * 2 ^ b) (hq : q' = q * 2 ^ d + e) (he : e < 2 ^ d) (h0 : sb = 0 ↔ (e = 0 ∧ sb' = 0)) (hs1 : sb < 2) (hs2 : sb' < 2) (ht : hb_at q t) (h1 : 94 ≤ t) (h2 : t + 1 + a ≤ 1000) (hab : a + 11 = d + b) :
    ∃ o t u, RN_storeExact st (nI v) s mode = (o, t) ∧ RM_round ms (nI v) s mode = some (o, u) ∧ Rel t u := by
  have hp := p2_pos d
  have t1 : hb_at (2 * q + sb) (t + 1) := by
    have h1 := ht.1
    have h2 := ht.2
    refine ⟨?_, ?_⟩
    · rw [Nat.pow_succ]
      omega
    · rw [Nat.pow_succ]
      omega
  have t0 : hb_at q' (t + d) := by
    refine ⟨?_, ?_⟩
    · rw [hq, Nat.pow_add]
      exact Nat.le_trans (Nat.mul_le_mul_right _ ht.1) (Nat.le_add_right _ _)
    · have h3 : (q + 1) * 2 ^ d ≤ 2 ^ (t + 1) * 2 ^ d := Nat.mul_le_mul_right _ ht.2
      rw [← Nat.pow_add, Nat.add_mul, Nat.one_mul, show t + 1 + d = t + d + 1 by omega] at h3
      rw [hq]
      omega
  have t2 : hb_at (2 * q' + sb') (t + d + 1) := by
    have h1 := t0.1
    have h2 := t0.2
    refine ⟨?_, ?_⟩
    · rw [Nat.pow_succ]
      omega
    · rw [Nat.pow_succ]
      omega
  have hT := hb_mul (k := a) t1
  have hH := hb_mul (k := b) t2
  refine both_round hR hv hs hm hok hb (T := t + 1 + a) (h := t + d + 1 + b) (by rw [hE]; exact hT) (by rw [hV]; exact hH) (by omega) h2 (by omega) (by omega) (by omega) ?_
  intro p hp1 hp2
  obtain ⟨j, hj⟩ : ∃ j, t = p + j := ⟨t - p, by omega⟩
  have e1 : t + 1 + a - p = a + (j + 1) := by omega
  have e2 : t + d + 1 + b - p = b + (d + j + 1) := by omega
  rw [hE, hV, e1, e2, (dg_sh _ _ _).1, (dg_sh _ _ _).1, (dg_sh _ _ _).2, (dg_sh _ _ _).2, dg_div j hs1, dg_div (d + j) hs2, dg_mod j hs1, dg_mod (d + j) hs2, hq, (dg_low j he).1, (dg_low j he).2]
  refine ⟨rfl, ?_⟩
  rw [h0]
  constructor
  · rintro ⟨x, y, z⟩
    exact ⟨⟨y, x⟩, z⟩
  · rintro ⟨⟨y, x⟩, z⟩
    exact ⟨x, y, z⟩
/-- the same digits, and d more of them -/
theorem ds_hom {G : Nat → Nat} {c : Nat} (hom : ∀ z, G (2 * z) = c * G z) (z : Nat) : ∀ d, G (z * 2 ^ d) = c ^ d * G z
  | 0 => by rw [Nat.pow_zero, Nat.pow_zero, Nat.mul_one, Nat.one_mul]
  | d + 1 => by rw [Nat.pow_succ, ← Nat.mul_assoc, Nat.mul_comm _ 2, hom, ds_hom hom z d, Nat.pow_succ, ← Nat.mul_assoc, Nat.mul_comm c]
theorem ds_q {G : Nat → Nat} {c : Nat} (hc : 0 < c) (mono : ∀ a b, a < b → G a < G b) (hom : ∀ z, G (2 * z) = c * G z) {A q q' d : Nat} (h1 : G q ≤ A) (h2 : A < G (q + 1)) (h3 : G q' ≤ c ^ d * A) (h4 : c ^ d * A < G (q' + 1)) :
    ∃ e, e < 2 ^ d ∧ q' = q * 2 ^ d + e ∧ (G q = A ↔ (e = 0 ∧ G q' = c ^ d * A)) := by
  have hcd : 0 < c ^ d := Nat.pow_pos hc
  have anti : ∀ a b, G a < G b → a < b := fun a b h => by
    refine Nat.lt_of_not_le (fun h' => ?_)
    rcases Nat.lt_or_eq_of_le h' with h'' | h''
    · exact absurd (mono _ _ h'') (by omega)
    · rw [h''] at h
      exact absurd h (Nat.lt_irrefl _)
  have k1 : q * 2 ^ d < q' + 1 := by
    apply anti
    rw [ds_hom hom]
    exact Nat.lt_of_le_of_lt (Nat.mul_le_mul_left _ h1) h4
  have k2 : q' < (q + 1) * 2 ^ d := by
    apply anti
    rw [ds_hom hom]
    exact Nat.lt_of_le_of_lt h3 (Nat.mul_lt_mul_of_pos_left h2 hcd)
  rw [Nat.add_mul, Nat.one_mul] at k2
  obtain ⟨e, he⟩ : ∃ e, q' = q * 2 ^ d + e := ⟨q' - q * 2 ^ d, by omega⟩
  refine ⟨e, by omega, he, ?_⟩
  constructor
  · intro h
    have k3 : G (q * 2 ^ d) = c ^ d * A := by rw [ds_hom hom, h]
    have k4 : ¬ q * 2 ^ d < q' := fun h' => by
      have := mono _ _ h'
      omega
    have k5 : e = 0 := by omega
    refine ⟨k5, ?_⟩
    rw [he, k5, Nat.add_zero, k3]
  · rintro ⟨x, y⟩
    rw [he, x, Nat.add_zero, ds_hom hom] at y
    exact Nat.eq_of_mul_eq_mul_left hcd y
