/-! the reference's product of two registers -/
theorem nI_minus {a b : Nat} (h : b ≤ a) (ha : a < 2147483648) : nI a - nI b = nI (a - b) := by
  apply Int32.toInt_inj.mp
  rw [ar_sub, nI_toInt (by omega), nI_toInt (by omega), nI_toInt (by omega)]
  · omega
  · rw [nI_toInt (by omega), nI_toInt (by omega)]; omega
  · rw [nI_toInt (by omega), nI_toInt (by omega)]; omega
theorem rv_upd {f : Nat → Int32} {k n : Nat} (hk : k < 1024) (hn : n < 2147483648) : rv (upd f k (nI n)) + xd f k * 2 ^ k = rv f + n * 2 ^ k := by
  have h1 := dv_upd (B := 2) (f := xd f) (g := xd (upd f k (nI n))) (k := k) (n := 1024) hk (fun l _ hne => by unfold xd; rw [upd_ne hne])
  have h2 : xd (upd f k (nI n)) k = n := xd_nI (by rw [upd_same]) hn
  rw [h2, ← rv_def, ← rv_def] at h1
  exact h1
def cts (f : Nat → Int32) (M : Nat) : Prop := ∀ k, k < 1024 → f k = nI (xd f k) ∧ xd f k ≤ M
theorem cts_upd {f : Nat → Int32} {M M' k n : Nat} (h : cts f M) (hM : M ≤ M') (hn : n ≤ M') (hM2 : M' < 2147483648) : cts (upd f k (nI n)) M' := fun l hl => by
  by_cases e : l = k
  · subst e
    have h2 : xd (upd f l (nI n)) l = n := xd_nI (by rw [upd_same]) (by omega)
    rw [h2, upd_same]
    exact ⟨rfl, hn⟩
  · have h2 : xd (upd f k (nI n)) l = xd f l := by unfold xd; rw [upd_ne e]
    rw [h2, upd_ne e]
    exact ⟨(h l hl).1, by have := (h l hl).2; omega⟩
theorem pp_fin {a b P Q K W U V m : Nat} (hQ : P * K = Q) (h1 : U + W * Q = V + (W + a * b) * Q) : U + a * (m * K) = V + a * ((m + P * b) * K) := by
  subst hQ
  simp only [Nat.add_mul, Nat.mul_add, Nat.mul_assoc, Nat.mul_comm, Nat.mul_left_comm] at *
  omega
theorem pp_in (k23 : Int32 → Int32 → Int32 → Int32 → rm_S → Option rm_S) {ms : rm_S} {x y i p' B Y xb : Nat} (hx : x < 8) (hy : y < 8) (hi : i < 93) (hp' : p' ≤ 93) (h1 : ms 1 y = nI p') (hxb : ms 5 (93 * x + i) = nI xb) (hxb2 : xb < 2) (hyb : ∀ l, l < p' → ms 5 (93 * y + l) = nI (Y / 2 ^ (92 - l) % 2)) (hY : Y % 2 ^ (93 - p') = 0) (hB1 : 198 ≤ B) (hB2 : B ≤ 998) (n : Nat) : ∀ (N j : Nat) (f : Nat → Int32), j + n = p' → n < N → cts f (93 * i + j) →
    ∃ f', RM_putProduct_37 k23 N (nI x) (nI y) (nI B) (nI i) (nI j) (rm_setr ms 6 f) = k23 (nI x) (nI y) (nI B) (nI (i + 1)) (rm_setr ms 6 f') ∧ cts f' (93 * i + 93) ∧ rv f' = rv f + xb * (Y % 2 ^ (93 - j) * 2 ^ (B - i - 92)) := by
  have e1 : ∀ f, rm_setr ms 6 f 1 = ms 1 := fun f => rs_ne (by decide)
  have e5 : ∀ f, rm_setr ms 6 f 5 = ms 5 := fun f => rs_ne (by decide)
  have hoy : ob_in (nI y) 8 = true := ob_nI hy (by decide)
  induction n with
  | zero =>
    intro N j f hj hN hc
    obtain ⟨N, rfl⟩ : ∃ M, N = M + 1 := ⟨N - 1, by omega⟩
    obtain rfl : j = p' := by omega
    refine ⟨f, ?_, fun k hk => ⟨(hc k hk).1, by have := (hc k hk).2; omega⟩, by rw [hY, Nat.zero_mul, Nat.mul_zero, Nat.add_zero]⟩
    rw [RM_putProduct_37, if_pos hoy, nI_clamp (by omega), e1, h1, if_pos ((nI_leI (by omega) (by omega)).mpr (Nat.le_refl _)), nm_e0, ← nI_succ]
  | succ n ih =>
    intro N j f hj hN hc
    obtain ⟨N, rfl⟩ : ∃ M, N = M + 1 := ⟨N - 1, by omega⟩
    have hpl : nI B - nI i - nI j = nI (B - i - j) := by rw [nI_minus (by omega) (by omega), nI_minus (by omega) (by omega)]
    have hop : ob_in (nI (B - i - j)) 1024 = true := ob_nI (by omega) (by decide)
    obtain ⟨c1, c2⟩ := hc (B - i - j) (by omega)
    have hyb2 : Y / 2 ^ (92 - j) % 2 < 2 := Nat.mod_lt _ (by decide)
    have hab : xb * (Y / 2 ^ (92 - j) % 2) ≤ 1 := by
      rcases (show xb = 0 ∨ xb = 1 by omega) with h | h <;> rw [h] <;> omega
    obtain ⟨f', g1, g2, g3⟩ := ih N (j + 1) (upd f (B - i - j) (nI (xd f (B - i - j) + xb * (Y / 2 ^ (92 - j) % 2)))) (by omega) (by omega) (cts_upd hc (by omega) (by omega) (by omega))
    refine ⟨f', ?_, g2, ?_⟩
    · rw [RM_putProduct_37, if_pos hoy, nI_clamp (show y < 2 ^ 31 by omega), e1, h1, if_neg (fun h => absurd ((nI_leI (by omega) (by omega)).mp h) (by omega)), hpl, if_pos hop, ix93, ix93, if_pos (ob_nI (by omega) (by decide)), if_pos (ob_nI (by omega) (by decide)), if_pos hop, nm_e0, nm_e0, nI_clamp (show B - i - j < 2 ^ 31 by omega), nI_clamp (show 93 * x + i < 2 ^ 31 by omega), nI_clamp (show 93 * y + j < 2 ^ 31 by omega), e5, hxb, hyb j (by omega), rs_at, c1, pk_mul, nI_add, ru_rs, rs_at, rs_rs, ← nI_succ, ← g1]
    · have hu := rv_upd (f := f) (k := B - i - j) (n := xd f (B - i - j) + xb * (Y / 2 ^ (92 - j) % 2)) (by omega) (by omega)
      rw [g3]
      have hm := q_mod Y (92 - j)
      rw [show 92 - j + 1 = 93 - j by omega] at hm
      rw [hm, show 93 - (j + 1) = 92 - j by omega]
      exact pp_fin (show 2 ^ (92 - j) * 2 ^ (B - i - 92) = 2 ^ (B - i - j) from by rw [← Nat.pow_add, show 92 - j + (B - i - 92) = B - i - j by omega]) hu
theorem pp_fin2 {a P K Q Y D U V : Nat} (hQ : P * K = Q) (h1 : U = V + a * (Y * Q)) : U + D * Y * K = V + (D + P * a) * Y * K := by
  subst hQ
  rw [h1]
  simp only [Nat.add_mul, Nat.mul_add, Nat.mul_assoc, Nat.mul_comm, Nat.mul_left_comm]
  omega
theorem pp_out {ms : rm_S} {x y p p' B X Y : Nat} (hx : x < 8) (hy : y < 8) (hp : p ≤ 93) (hp' : p' ≤ 93) (h1 : ms 1 x = nI p) (h2 : ms 1 y = nI p') (hxb : ∀ l, l < p → ms 5 (93 * x + l) = nI (X / 2 ^ (92 - l) % 2)) (hyb : ∀ l, l < p' → ms 5 (93 * y + l) = nI (Y / 2 ^ (92 - l) % 2)) (hX : X % 2 ^ (93 - p) = 0) (hY : Y % 2 ^ (93 - p') = 0) (hY2 : Y < 2 ^ 93) (hB1 : 198 ≤ B) (hB2 : B ≤ 998) (n : Nat) : ∀ (N i : Nat) (f : Nat → Int32), i + n = p → n < N → cts f (93 * i) →
    ∃ f', RM_putProduct_23 N (nI x) (nI y) (nI B) (nI i) (rm_setr ms 6 f) = RM_putProduct_113 2000 0 (rm_setr ms 6 f') ∧ cts f' 8649 ∧ rv f' = rv f + X % 2 ^ (93 - i) * Y * 2 ^ (B - 184) := by
  have e1 : ∀ f, rm_setr ms 6 f 1 = ms 1 := fun f => rs_ne (by decide)
  have hox : ob_in (nI x) 8 = true := ob_nI hx (by decide)
  induction n with
  | zero =>
    intro N i f hi hN hc
    obtain ⟨N, rfl⟩ : ∃ M, N = M + 1 := ⟨N - 1, by omega⟩
    obtain rfl : i = p := by omega
    refine ⟨f, ?_, fun k hk => ⟨(hc k hk).1, by have := (hc k hk).2; omega⟩, by rw [hX, Nat.zero_mul, Nat.zero_mul, Nat.add_zero]⟩
    rw [RM_putProduct_23, if_pos hox, nI_clamp (by omega), e1, h1, if_pos ((nI_leI (by omega) (by omega)).mpr (Nat.le_refl _))]
  | succ n ih =>
    intro N i f hi hN hc
    obtain ⟨N, rfl⟩ : ∃ M, N = M + 1 := ⟨N - 1, by omega⟩
    obtain ⟨f1, g1, g2, g3⟩ := pp_in (RM_putProduct_23 N) hx hy (show i < 93 by omega) hp' h2 (hxb i (by omega)) (Nat.mod_lt _ (by decide)) hyb hY hB1 hB2 p' 2000 0 f (by omega) (by omega) hc
    obtain ⟨f', k1, k2, k3⟩ := ih N (i + 1) f1 (by omega) (by omega) g2
    refine ⟨f', ?_, k2, ?_⟩
    · rw [RM_putProduct_23, if_pos hox, nI_clamp (by omega), e1, h1, if_neg (fun h => absurd ((nI_leI (by omega) (by omega)).mp h) (by omega)), show (0 : Int32) = nI 0 from rfl, g1, k1]
      rfl
    · rw [Nat.sub_zero, Nat.mod_eq_of_lt hY2] at g3
      have hm := q_mod X (92 - i)
      rw [show 92 - i + 1 = 93 - i by omega] at hm
      rw [k3, hm, show 93 - (i + 1) = 92 - i by omega]
      exact pp_fin2 (show 2 ^ (92 - i) * 2 ^ (B - 184) = 2 ^ (B - i - 92) from by rw [← Nat.pow_add, show 92 - i + (B - 184) = B - i - 92 by omega]) g3
theorem pn_fin {P U1 U2 V c q r d : Nat} (h1 : U1 + c * (P * 2) = V + (c + q) * (P * 2)) (h2 : U2 + d * P = U1 + r * P) (hd : d = q * 2 + r) : U2 = V := by
  subst hd
  simp only [Nat.add_mul, Nat.mul_add, Nat.mul_assoc, Nat.mul_comm, Nat.mul_left_comm] at *
  omega
theorem pn_loop {ms : rm_S} (n : Nat) : ∀ (N k : Nat) (f : Nat → Int32), k + n = 1023 → n < N → cts f 17298 → (∀ l, l < k → xd f l < 2) → (∀ l, k < l → l < 1024 → xd f l ≤ 8649) →
    ∃ f', RM_putProduct_113 N (nI k) (rm_setr ms 6 f) = some (rm_setr ms 6 f') ∧ rv f' = rv f ∧ cts f' 17298 ∧ ∀ l, l < 1023 → xd f' l < 2 := by
  induction n with
  | zero =>
    intro N k f hk hN hc h1 h2
    obtain ⟨N, rfl⟩ : ∃ M, N = M + 1 := ⟨N - 1, by omega⟩
    obtain rfl : k = 1023 := by omega
    exact ⟨f, by rw [RM_putProduct_113, if_pos (by decide)], rfl, hc, h1⟩
  | succ n ih =>
    intro N k f hk hN hc h1 h2
    obtain ⟨N, rfl⟩ : ∃ M, N = M + 1 := ⟨N - 1, by omega⟩
    obtain ⟨c1, c2⟩ := hc k (by omega)
    obtain ⟨d1, d2⟩ := hc (k + 1) (by omega)
    have d3 := h2 (k + 1) (by omega) (by omega)
    have hk1 : nI k + (1 : Int32) = nI (k + 1) := (nI_succ k).symm
    have hn : ¬ (1024 : Int32) ≤ nI (k + 1) := fun h => absurd ((nI_leI (a := 1024) (by omega) (by omega)).mp h) (by omega)
    have hdv : f k / (2 : Int32) = nI (xd f k / 2) := by
      rw [c1]
      have h9 : xd (fun _ => nI (xd f k)) k = xd f k := xd_nI rfl (by omega)
      exact pk_div (by omega) (by decide) (by decide)
    have hg1 := cts_upd (f := f) (k := k + 1) (n := xd f (k + 1) + xd f k / 2) hc (Nat.le_refl _) (by omega) (by omega)
    have hu1 := rv_upd (f := f) (k := k + 1) (n := xd f (k + 1) + xd f k / 2) (by omega) (by omega)
    have hgk : upd f (k + 1) (nI (xd f (k + 1) + xd f k / 2)) k = f k := upd_ne (by omega)
    have hxk : xd (upd f (k + 1) (nI (xd f (k + 1) + xd f k / 2))) k = xd f k := by unfold xd; rw [upd_ne (by omega)]
    have hxl : ∀ l, l ≠ k + 1 → xd (upd f (k + 1) (nI (xd f (k + 1) + xd f k / 2))) l = xd f l := fun l hl => by unfold xd; rw [upd_ne hl]
    generalize hg : upd f (k + 1) (nI (xd f (k + 1) + xd f k / 2)) = g at hg1 hu1 hgk hxk hxl
    have hg2 := cts_upd (f := g) (k := k) (n := xd f k - xd f k / 2 * 2) hg1 (Nat.le_refl _) (by omega) (by omega)
    have hu2 := rv_upd (f := g) (k := k) (n := xd f k - xd f k / 2 * 2) (by omega) (by omega)
    have hyl : ∀ l, l ≠ k → xd (upd g k (nI (xd f k - xd f k / 2 * 2))) l = xd g l := fun l hl => by unfold xd; rw [upd_ne hl]
    have hyk : xd (upd g k (nI (xd f k - xd f k / 2 * 2))) k = xd f k - xd f k / 2 * 2 := xd_nI (by rw [upd_same]) (by omega)
    obtain ⟨f', a1, a2, a3, a4⟩ := ih N (k + 1) (upd g k (nI (xd f k - xd f k / 2 * 2))) (by omega) (by omega) hg2 (fun l hl => by
        by_cases e : l = k
        · rw [e, hyk]; omega
        · rw [hyl l e, hxl l (by omega)]; exact h1 l (by omega)) (fun l h3 h4 => by rw [hyl l (by omega), hxl l (by omega)]; exact h2 l (by omega) h4)
    refine ⟨f', ?_, ?_, a3, a4⟩
    · have ho : ob_in (nI k) 1024 = true := ob_nI (by omega) (by decide)
      have ho1 : ob_in (nI (k + 1)) 1024 = true := ob_nI (by omega) (by decide)
      have hsub : f k - f k / (2 : Int32) * (2 : Int32) = nI (xd f k - xd f k / 2 * 2) := by
        rw [hdv, show (2 : Int32) = nI 2 from rfl, pk_mul]
        rw [c1]
        have h9 : xd f k / 2 * 2 ≤ xd f k := by omega
        generalize xd f k = w at h9 c2
        rw [← nI_minus h9 (by omega)]
      have hup : rm_up (rm_setr ms 6 f) 6 (k + 1) (nI (xd f (k + 1) + xd f k / 2)) = rm_setr ms 6 g := by rw [ru_rs, rs_at, rs_rs, hg]
      rw [RM_putProduct_113, hk1, if_neg hn, if_pos ho1, if_pos ho, if_pos ho1, nm_e0, nI_clamp (show k + 1 < 2 ^ 31 by omega), nI_clamp (show k < 2 ^ 31 by omega), rs_at, hdv, d1, nI_add, hup, if_pos ho, if_pos ho, rs_at, hgk, hsub, nm_e0, nm_e0, ru_rs, rs_at, rs_rs, a1]
    · rw [hxk] at hu2
      rw [Nat.pow_succ] at hu1
      rw [a2]
      exact pn_fin hu1 hu2 (by omega)
/-- the row behind putProduct -/
theorem pp_ok {st : rn_S} {m1 : rm_S} {x y p p' : Nat} {e1 e2 : Int} {X Y sh : Nat} (hx : x < 8) (hy : y < 8) (hp2 : p ≤ 93) (hp' : p' ≤ 93) (h1 : m1 1 x = nI p) (h2 : m1 1 y = nI p') (hg1 : reg3 st m1 x p e1 X) (hg2 : reg3 st m1 y p' e2 Y) (hz : ∀ i, i < 1024 → m1 6 i = 0) (hsh : (sh : Int) = e1 + e2 + 414) :
    ∃ f, RM_putProduct m1 (nI x) (nI y) = some (rm_setr m1 6 f) ∧ isb f ∧ rv f = X * Y * 2 ^ sh := by
  obtain ⟨b1, b2, b3, b4, b5, b6, b7, b8, b9, b10⟩ := hg1
  obtain ⟨c1, c2, c3, c4, c5, c6, c7, c8, c9, c10⟩ := hg2
  have hz0 : ∀ i, i < 1024 → xd (m1 6) i = 0 := fun i hi => by unfold xd; rw [hz i hi]; rfl
  have hrv0 : rv (m1 6) = 0 := by rw [rv_def]; exact dv_zero hz0
  have hc0 : cts (m1 6) (93 * 0) := fun k hk => ⟨by rw [hz0 k hk, hz k hk]; rfl, by rw [hz0 k hk]; omega⟩
  obtain ⟨f1, g1, g2, g3⟩ := pp_out (ms := m1) (B := sh + 184) hx hy hp2 hp' h1 h2 b10 c10 b7 c7 c6 (by omega) (by omega) p 2000 0 (m1 6) (by omega) (by omega) hc0
  obtain ⟨f, a1, a2, a3, a4⟩ := pn_loop (ms := m1) 1023 2000 0 f1 (by omega) (by omega) (fun k hk => ⟨(g2 k hk).1, by have := (g2 k hk).2; omega⟩) (fun l hl => absurd hl (Nat.not_lt_zero _)) (fun l _ h => (g2 l h).2)
  have hval : rv f = X * Y * 2 ^ sh := by rw [a2, g3, hrv0, Nat.zero_add, Nat.sub_zero, Nat.mod_eq_of_lt b6, show sh + 184 - 184 = sh by omega]
  have hlt : rv f < 2 ^ 1024 := by
    rw [hval]
    have q1 : X * Y < 2 ^ 93 * 2 ^ 93 := Nat.mul_lt_mul'' b6 c6
    have q2 := Nat.mul_lt_mul_of_pos_right q1 (p2_pos sh)
    rw [← Nat.pow_add, ← Nat.pow_add] at q2
    exact Nat.lt_of_lt_of_le q2 (p2_le (by omega))
  refine ⟨f, ?_, ?_, hval⟩
  · have hB : (600 : Int32) + m1 4 x + m1 4 y - (2 : Int32) = nI (sh + 184) := by
      apply Int32.toInt_inj.mp
      have e600 : (600 : Int32).toInt = 600 := rfl
      have e2' : (2 : Int32).toInt = 2 := rfl
      have q1 : ((600 : Int32) + m1 4 x).toInt = 600 + e1 := by rw [ar_add (by omega) (by omega), e600, b2]
      have q2 : ((600 : Int32) + m1 4 x + m1 4 y).toInt = 600 + e1 + e2 := by rw [ar_add (by omega) (by omega), q1, c2]
      rw [ar_sub (by omega) (by omega), q2, e2', nI_toInt (by omega)]
      omega
    unfold RM_putProduct
    rw [if_pos (ob_nI hx (by decide)), if_pos (ob_nI hy (by decide)), nm_e0, nI_clamp (by omega), nI_clamp (by omega), hB]
    rw [rs_id] at g1
    rw [show (0 : Int32) = nI 0 from rfl] at g1 ⊢
    rw [g1, a1]
  · intro k hk
    obtain ⟨q1, q2⟩ := a3 k hk
    have q3 : xd f k < 2 := by
      by_cases e : k < 1023
      · exact a4 k e
      · obtain rfl : k = 1023 := by omega
        have q4 := dv_le (B := 2) (f := xd f) (k := 1023) (n := 1024) (by decide)
        rw [← rv_def] at q4
        have q5 := Nat.lt_of_le_of_lt q4 hlt
        have q6 : (2 : Nat) ^ 1024 = 2 * 2 ^ 1023 := Nat.pow_succ'
        rw [q6] at q5
        exact Nat.lt_of_mul_lt_mul_right q5
    rw [q1]
    rcases (show xd f k = 0 ∨ xd f k = 1 by omega) with h | h <;> rw [h]
    · exact Or.inl rfl
    · exact Or.inr rfl
