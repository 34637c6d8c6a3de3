/-! the reference's product of two registers -/
theorem nI_minus {a b : Nat} (h : b ≤ a) (ha : a < 2147483648) : nI a - nI b = nI (a - b) := by
  apply Int32.toInt_inj.mp
  rw [ar_sub, nI_toInt (by omega), nI_toInt (by omega), nI_toInt (by omega)]
  · omega
  · rw [nI_toInt (by omega), nI_toInt (by omega)]; omega
  · rw [nI_toInt (by omega), nI_toInt (by omega)]; omega
theorem rv_upd {f : Nat → Int32} {k n : Nat} (hk : k < 1024) (hn : n < 2147483648) : rv (upd f k (nI n)) + xd f k * 2 ^ k = rv f + n * 2 ^ k := by
  have h1 := dv_upd (B := 2) (f := xd f) (g := xd (upd f k (nI n))) (k := k) (n := 1024) hk (fun l _ hne => by unfold xd; rw [upd_ne hne])
  have h2 : xd (upd f k (nI n)) k = n := xd_nI (by rw [upd_same]) hn
  rw [h2, ← rv_def, ← rv_def] at h1
  exact h1
def cts (f : Nat → Int32) (M : Nat) : Prop := ∀ k, k < 1024 → f k = nI (xd f k) ∧ xd f k ≤ M
theorem cts_upd {f : Nat → Int32} {M M' k n : Nat} (h : cts f M) (hM : M ≤ M') (hn : n ≤ M') (hM2 : M' < 2147483648) : cts (upd f k (nI n)) M' := fun l hl => by
  by_cases e : l = k
  · subst e
    have h2 : xd (upd f l (nI n)) l = n := xd_nI (by rw [upd_same]) (by omega)
    rw [h2, upd_same]
    exact ⟨rfl, hn⟩
  · have h2 : xd (upd f k (nI n)) l = xd f l := by unfold xd; rw [upd_ne e]
    rw [h2, upd_ne e]
    exact ⟨(h l hl).1, by have := (h l hl).2; omega⟩
theorem pp_fin {a b P Q K W U V m : Nat} (hQ : P * K = Q) (h1 : U + W * Q = V + (W + a * b) * Q) : U + a * (m * K) = V + a * ((m + P * b) * K) := by
  subst hQ
  simp only [Nat.add_mul, Nat.mul_add, Nat.mul_assoc, Nat.mul_comm, Nat.mul_left_comm] at *
  omega
theorem pp_in (k23 : Int32 → Int32 → Int32 → Int32 → rm_S → Option rm_S) {ms : rm_S} {x y i p' B Y xb : Nat} (hx : x < 8) (hy : y < 8) (hi : i < 93) (hp' : p' ≤ 93) (h1 : ms 1 y = nI p') (hxb : ms 5 (93 * x + i) = nI xb) (hxb2 : xb < 2) (hyb : ∀ l, l < p' → ms 5 (93 * y + l) = nI (Y / 2 ^ (92 - l) % 2)) (hY : Y % 2 ^ (93 - p') = 0) (hB1 : 198 ≤ B) (hB2 : B ≤ 998) (n : Nat) : ∀ (N j : Nat) (f : Nat → Int32), j + n = p' → n < N → cts f (93 * i + j) →
    ∃ f', RM_putProduct_37 k23 N (nI x) (nI y) (nI B) (nI i) (nI j) (rm_setr ms 6 f) = k23 (nI x) (nI y) (nI B) (nI (i + 1)) (rm_setr ms 6 f') ∧ cts f' (93 * i + 93) ∧ rv f' = rv f + xb * (Y % 2 ^ (93 - j) * 2 ^ (B - i - 92)) := by
  have e1 : ∀ f, rm_setr ms 6 f 1 = ms 1 := fun f => rs_ne (by decide)
  have e5 : ∀ f, rm_setr ms 6 f 5 = ms 5 := fun f => rs_ne (by decide)
  have hoy : ob_in (nI y) 8 = true := ob_nI hy (by decide)
  induction n with
  | zero =>
    intro N j f hj hN hc
    obtain ⟨N, rfl⟩ : ∃ M, N = M + 1 := ⟨N - 1, by omega⟩
    obtain rfl : j = p' := by omega
    refine ⟨f, ?_, fun k hk => ⟨(hc k hk).1, by have := (hc k hk).2; omega⟩, by rw [hY, Nat.zero_mul, Nat.mul_zero, Nat.add_zero]⟩
    rw [RM_putProduct_37, if_pos hoy, nI_clamp (by omega), e1, h1, if_pos ((nI_leI (by omega) (by omega)).mpr (Nat.le_refl _)), nm_e0, ← nI_succ]
  | succ n ih =>
    intro N j f hj hN hc
    obtain ⟨N, rfl⟩ : ∃ M, N = M + 1 := ⟨N - 1, by omega⟩
    have hpl : nI B - nI i - nI j = nI (B - i - j) := by rw [nI_minus (by omega) (by omega), nI_minus (by omega) (by omega)]
    have hop : ob_in (nI (B - i - j)) 1024 = true := ob_nI (by omega) (by decide)
    obtain ⟨c1, c2⟩ := hc (B - i - j) (by omega)
    have hyb2 : Y / 2 ^ (92 - j) % 2 < 2 := Nat.mod_lt _ (by decide)
    have hab : xb * (Y / 2 ^ (92 - j) % 2) ≤ 1 := by
      rcases (show xb = 0 ∨ xb = 1 by omega) with h | h <;> rw [h] <;> omega
    obtain ⟨f', g1, g2, g3⟩ := ih N (j + 1) (upd f (B - i - j) (nI (xd f (B - i - j) + xb * (Y / 2 ^ (92 - j) % 2)))) (by omega) (by omega) (cts_upd hc (by omega) (by omega) (by omega))
    refine ⟨f', ?_, g2, ?_⟩
    · rw [RM_putProduct_37, if_pos hoy, nI_clamp (show y < 2 ^ 31 by omega), e1, h1, if_neg (fun h => absurd ((nI_leI (by omega) (by omega)).mp h) (by omega)), hpl, if_pos hop, ix93, ix93, if_pos (ob_nI (by omega) (by decide)), if_pos (ob_nI (by omega) (by decide)), if_pos hop, nm_e0, nm_e0, nI_clamp (show B - i - j < 2 ^ 31 by omega), nI_clamp (show 93 * x + i < 2 ^ 31 by omega), nI_clamp (show 93 * y + j < 2 ^ 31 by omega), e5, hxb, hyb j (by omega), rs_at, c1, pk_mul, nI_add, ru_rs, rs_at, rs_rs, ← nI_succ, ← g1]
    · have hu := rv_upd (f := f) (k := B - i - j) (n := xd f (B - i - j) + xb * (Y / 2 ^ (92 - j) % 2)) (by omega) (by omega)
      rw [g3]
      have hm := q_mod Y (92 - j)
      rw [show 92 - j + 1 = 93 - j by omega] at hm
      rw [hm, show 93 - (j + 1) = 92 - j by omega]
      exact pp_fin (show 2 ^ (92 - j) * 2 ^ (B - i - 92) = 2 ^ (B - i - j) from by rw [← Nat.pow_add, show 92 - j + (B - i - 92) = B - i - j by omega]) hu
theorem pp_fin2 {a P K Q Y D U V : Nat} (hQ : P * K = Q) (h1 : U = V + a * (Y * Q)) : U + D * Y * K = V + (D + P * a) * Y * K := by
  subst hQ
  rw [h1]
  simp only [Nat.add_mul, Nat.mul_add, Nat.mul_assoc, Nat.mul_comm, Nat.mul_left_comm]
  omega
theorem pp_out {ms : rm_S} {x y p p' B X Y : Nat} (hx : x < 8) (hy : y < 8) (hp : p ≤ 93) (hp' : p' ≤ 93) (h1 : ms 1 x = nI p) (h2 : ms 1 y = nI p') (hxb : ∀ l, l < p → ms 5 (93 * x + l) = nI (X / 2 ^ (92 - l) % 2)) (hyb : ∀ l, l < p' → ms 5 (93 * y + l) = nI (Y / 2 ^ (92 - l) % 2)) (hX : X % 2 ^ (93 - p) = 0) (hY : Y % 2 ^ (93 - p') = 0) (hY2 : Y < 2 ^ 93) (hB1 : 198 ≤ B) (hB2 : B ≤ 998) (n : Nat) : ∀ (N i : Nat) (f : Nat → Int32), i + n = p → n < N → cts f (93 * i) →
    ∃ f', RM_putProduct_23 N (nI x) (nI y) (nI B) (nI i) (rm_setr ms 6 f) = RM_putProduct_113 2000 0 (rm_setr ms 6 f') ∧ cts f' 8649 ∧ rv f' = rv f + X % 2 ^ (93 - i) * Y * 2 ^ (B - 184) := by
  have e1 : ∀ f, rm_setr ms 6 f 1 = ms 1 := fun f => rs_ne (by decide)
  have hox : ob_in (nI x) 8 = true := ob_nI hx (by decide)
  induction n with
  | zero =>
    intro N i f hi hN hc
    obtain ⟨N, rfl⟩ : ∃ M, N = M + 1 := ⟨N - 1, by omega⟩
    obtain rfl : i = p := by omega
    refine ⟨f, ?_, fun k hk => ⟨(hc k hk).1, by have := (hc k hk).2; omega⟩, by rw [hX, Nat.zero_mul, Nat.zero_mul, Nat.add_zero]⟩
    rw [RM_putProduct_23, if_pos hox, nI_clamp (by omega), e1, h1, if_pos ((nI_leI (by omega) (by omega)).mpr (Nat.le_refl _))]
  | succ n ih =>
    intro N i f hi hN hc
    obtain ⟨N, rfl⟩ : ∃ M, N = M + 1 := ⟨N - 1, by omega⟩
    obtain ⟨f1, g1, g2, g3⟩ := pp_in (RM_putProduct_23 N) hx hy (show i < 93 by omega) hp' h2 (hxb i (by omega)) (Nat.mod_lt _ (by decide)) hyb hY hB1 hB2 p' 2000 0 f (by omega) (by omega) hc
    obtain ⟨f', k1, k2, k3⟩ := ih N (i + 1) f1 (by omega) (by omega) g2
    refine ⟨f', ?_, k2, ?_⟩
    · rw [RM_putProduct_23, if_pos hox, nI_clamp (by omega), e1, h1, if_neg (fun h => absurd ((nI_leI (by omega) (by omega)).mp h) (by omega)), show (0 : Int32) = nI 0 from rfl, g1, k1]
      rfl
    · rw [Nat.sub_zero, Nat.mod_eq_of_lt hY2] at g3
      have hm := q_mod X (92 - i)
      rw [show 92 - i + 1 = 93 - i by omega] at hm
      rw [k3, hm, show 93 - (i + 1) = 92 - i by omega]
      exact pp_fin2 (show 2 ^ (92 - i) * 2 ^ (B - 184) = 2 ^ (B - i - 92) from by rw [← Nat.pow_add, show 92 - i + (B - 184) = B - i - 92 by omega]) g3
