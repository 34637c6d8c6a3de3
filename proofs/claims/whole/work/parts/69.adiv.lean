/-! div: alike -/
theorem mk_ok {st : rn_S} (hok : ok33 (rn_ex st)) {R : Nat} (hk : wk st 0 R) {p0 : Int32} {pl : Nat} (hw : p0.toInt + 589 = pl) (hp : pl < 1023) {n : Nat} (hx : xv (rn_ex st) = 2 * n * 2 ^ pl) (hf : (2 * n + 1) * 2 ^ pl < 2 ^ 1023) :
    ∃ t, RN_markRemainder st p0 = t ∧ same_c st t ∧ ok33 (rn_ex t) ∧ xv (rn_ex t) = (2 * n + if R = 0 then 0 else 1) * 2 ^ pl := by
  rw [RN_markRemainder, nm_e0, in_ok hk]
  by_cases h : R = 0
  · rw [if_pos h, if_neg (by decide), if_pos h]
    exact ⟨st, rfl, ⟨rfl, fun _ _ => ⟨rfl, rfl, rfl, rfl⟩⟩, hok, by rw [hx, Nat.add_zero]⟩
  · rw [if_neg h, if_pos rfl, if_neg h, nm_e0]
    rw [Nat.add_mul, Nat.one_mul, ← hx] at hf
    obtain ⟨f, a1, a2, a3⟩ := ex_addPos hok hw hp hf
    refine ⟨_, a1, same_sx st f, a2, ?_⟩
    rw [sx_ex, a3, hx, Nat.add_mul (2 * n), Nat.one_mul]
theorem dq_step {q Y R X P b : Nat} (hb : b < 2) (h : R + 2 * q * Y = X * P) (hR : b * Y ≤ R) : 2 * (R - b * Y) + 2 * (2 * q + b) * Y = X * (P * 2) := by
  obtain ⟨Z, rfl⟩ : ∃ Z, R = b * Y + Z := ⟨R - b * Y, by omega⟩
  rw [Nat.add_sub_cancel_left, ← Nat.mul_assoc, ← h]
  rcases (show b = 0 ∨ b = 1 by omega) with rfl | rfl
  · simp only [Nat.add_mul, Nat.mul_add, Nat.mul_assoc, Nat.mul_comm, Nat.mul_left_comm]
    omega
  · simp only [Nat.add_mul, Nat.mul_add, Nat.mul_assoc, Nat.mul_comm, Nat.mul_left_comm]
    omega
theorem wq_loop {X Y w : Nat} {st0 : rn_S} (hY : Y < 2 ^ 93) (hw1 : 96 ≤ w) (hw2 : w ≤ 1000) {L3 : Int32} (hL : L3.toInt + 589 = w) (n : Nat) : ∀ (N i : Nat) (st : rn_S) (R q : Nat), i + n = 96 → n < N → same_c st0 st → ok33 (rn_ex st) → xv (rn_ex st) = q * 2 ^ (w - i + 1) → q < 2 ^ i → wk st 0 R → wk st 1 Y → R + 2 * q * Y = X * 2 ^ i → R < 2 * Y →
    ∃ t, RN_workOutQuotient_36 N L3 (nI i) st = t ∧ same_c st0 t ∧ ok33 (rn_ex t) ∧ ∃ q R, R + 2 * q * Y = X * 2 ^ 96 ∧ R < 2 * Y ∧ xv (rn_ex t) = (2 * q + if R = 0 then 0 else 1) * 2 ^ (w - 96) := by
  induction n with
  | zero =>
    intro N i st R q hi hN hs hok hx hq k0 k1 he hR
    obtain ⟨N, rfl⟩ : ∃ M, N = M + 1 := ⟨N - 1, by omega⟩
    have hi' : i = 96 := by omega
    subst hi'
    have e1 : (L3 - (96 : Int32)).toInt + 589 = ((w - 96 : Nat) : Int) := by
      rw [ar_sub (by rw [show (96 : Int32).toInt = 96 from rfl]; omega) (by rw [show (96 : Int32).toInt = 96 from rfl]; omega), show (96 : Int32).toInt = 96 from rfl]
      omega
    have hx2 : xv (rn_ex st) = 2 * q * 2 ^ (w - 96) := by
      rw [hx, Nat.pow_succ, Nat.mul_comm (2 ^ (w - 96)), ← Nat.mul_assoc, Nat.mul_comm q]
    have hf : (2 * q + 1) * 2 ^ (w - 96) < 2 ^ 1023 := by
      have h1 : (2 * q + 1) * 2 ^ (w - 96) < 2 ^ 97 * 2 ^ (w - 96) := Nat.mul_lt_mul_of_pos_right (by omega) (p2_pos _)
      rw [← Nat.pow_add] at h1
      exact Nat.lt_of_lt_of_le h1 (p2_le (by omega))
    obtain ⟨t, a1, a2, a3, a4⟩ := mk_ok hok k0 e1 (by omega) hx2 hf
    refine ⟨t, ?_, same_tr hs a2, a3, q, R, he, hR, a4⟩
    rw [RN_workOutQuotient_36, if_pos (by decide), nm_e0, a1]
  | succ n ih =>
    intro N i st R q hi hN hs hok hx hq k0 k1 he hR
    obtain ⟨N, rfl⟩ : ∃ M, N = M + 1 := ⟨N - 1, by omega⟩
    have hn : ¬ (96 : Int32) ≤ nI i := fun h => absurd ((nI_leI (a := 96) (by omega) (by omega)).mp h) (by omega)
    have ei : (nI i).toInt = i := nI_toInt (by omega)
    have e1 : (L3 - nI i).toInt + 589 = ((w - i : Nat) : Int) := by
      rw [ar_sub (by omega) (by omega), ei]
      omega
    have ew : w - i = w - (i + 1) + 1 := by omega
    rw [RN_workOutQuotient_36, if_neg hn, nm_e0, re_ok k0 k1]
    by_cases hc : Y ≤ R
    · rw [if_pos hc, if_neg (by decide), nm_e0, nm_e0]
      obtain ⟨t1, a1, a2, a3⟩ := le_ok (by decide) k0 k1 hc
      rw [a1]
      have hf : xv (rn_ex t1) + 2 ^ (w - i) < 2 ^ 1023 := by
        rw [a2.2.1, hx]
        have h1 : (q + 1) * 2 ^ (w - i + 1) ≤ 2 ^ i * 2 ^ (w - i + 1) := Nat.mul_le_mul_right _ hq
        rw [← Nat.pow_add, show i + (w - i + 1) = w + 1 by omega, Nat.add_mul, Nat.one_mul] at h1
        have h2 : 2 ^ (w - i) < 2 ^ (w - i + 1) := p2_lt (by omega)
        have h3 : 2 ^ (w + 1) ≤ 2 ^ 1023 := p2_le (by omega)
        omega
      obtain ⟨f, b1, b2, b3⟩ := ex_addPos (st := t1) (by rw [a2.2.1]; exact hok) e1 (by omega) hf
      have k0' : wk (rn_setx t1 f) 0 (R - Y) := wk_sx f a3
      have k1' : wk (rn_setx t1 f) 1 Y := wk_sx f (wk_fr a2 (by decide) k1)
      obtain ⟨t2, c1, c2, c3⟩ := sh1_ok k0' (c := 0) (by decide) (by omega)
      have e0 : (0 : Int32) = nI 0 := zz_0
      rw [b1, RN_workOutQuotient_80, nm_e0, nm_e0, e0, c1, ← nI_succ]
      refine ih N (i + 1) t2 (2 * (R - Y) + 0) (2 * q + 1) (by omega) (by omega) (same_tr hs (same_tr a2.1 (same_tr (same_sx t1 f) c2.1))) (by rw [c2.2.1, sx_ex]; exact b2) ?_ (by rw [Nat.pow_succ]; omega) c3 (wk_fr c2 (by decide) k1') ?_ (by omega)
      · rw [c2.2.1, sx_ex, b3, a2.2.1, hx, ← ew, Nat.pow_succ, Nat.add_mul, Nat.one_mul, Nat.mul_comm (2 ^ (w - i)) 2, ← Nat.mul_assoc, Nat.mul_comm q 2]
      · have := dq_step (b := 1) (by decide) he (by omega)
        rw [Nat.one_mul] at this
        rw [Nat.add_zero, Nat.pow_succ]
        exact this
    · rw [if_neg hc, if_pos rfl]
      obtain ⟨t2, c1, c2, c3⟩ := sh1_ok k0 (c := 0) (by decide) (by omega)
      have e0 : (0 : Int32) = nI 0 := zz_0
      rw [RN_workOutQuotient_80, nm_e0, nm_e0, e0, c1, ← nI_succ]
      refine ih N (i + 1) t2 (2 * R + 0) (2 * q + 0) (by omega) (by omega) (same_tr hs c2.1) (by rw [c2.2.1]; exact hok) ?_ (by rw [Nat.pow_succ]; omega) c3 (wk_fr c2 (by decide) k1) ?_ (by omega)
      · rw [c2.2.1, hx, ← ew, Nat.pow_succ, Nat.add_zero, Nat.mul_comm (2 ^ (w - i)) 2, ← Nat.mul_assoc, Nat.mul_comm q 2]
      · have := dq_step (b := 0) (by decide) he (by omega)
        rw [Nat.zero_mul, Nat.sub_zero] at this
        rw [Nat.add_zero (2 * R), Nat.pow_succ]
        exact this
theorem wq_ok {st : rn_S} {ms : rm_S} {x y p p' : Nat} {e1 e2 : Int} {X Y w : Nat} (hx : x < 8) (hy : y < 8) (hg1 : reg3 st ms x p e1 X) (hg2 : reg3 st ms y p' e2 Y) (hw : (w : Int) = e1 - e2 + 589) :
    ∃ t, RN_workOutQuotient st x y = t ∧ same_c st t ∧ ok33 (rn_ex t) ∧ ∃ q R, R + 2 * q * Y = X * 2 ^ 96 ∧ R < 2 * Y ∧ xv (rn_ex t) = (2 * q + if R = 0 then 0 else 1) * 2 ^ (w - 96) := by
  obtain ⟨c1, c2, c3, c4, c5, c6, c7, c8, c9, c10⟩ := hg1
  obtain ⟨d1, d2, d3, d4, d5, d6, d7, d8, d9, d10⟩ := hg2
  have x1 : (RV_exponent st x).toInt = e1 := by
    rw [RV_exponent, ar_add (by rw [show (93 : Int32).toInt = 93 from rfl]; omega) (by rw [show (93 : Int32).toInt = 93 from rfl]; omega), show (93 : Int32).toInt = 93 from rfl]
    exact c1
  have x2 : (RV_exponent st y).toInt = e2 := by
    rw [RV_exponent, ar_add (by rw [show (93 : Int32).toInt = 93 from rfl]; omega) (by rw [show (93 : Int32).toInt = 93 from rfl]; omega), show (93 : Int32).toInt = 93 from rfl]
    exact d1
  have x3 : (RV_exponent st x - RV_exponent st y).toInt + 589 = w := by
    rw [ar_sub (by omega) (by omega), x1, x2]
    omega
  obtain ⟨f0, y1, y2, y3⟩ := ex_clear st
  obtain ⟨t1, a1, a2, a3⟩ := wt_ok (st := rn_setx st f0) (w := 0) (v := x) c8 c9
  have hl1 : rn_lb t1 y = rn_lb st y := (a2.1.2 y hy).2.2.2
  obtain ⟨t2, b1, b2, b3⟩ := wt_ok (st := t1) (w := 1) (v := y) (X := Y) (by rw [hl1]; exact d8) (by rw [hl1]; exact d9)
  rw [RN_workOutQuotient, nm_e0, nm_e0, nm_e0, nm_e0, nm_e0, nm_e0, y1, a1, b1]
  refine wq_loop d6 (by omega) (by omega) x3 96 97 0 t2 X 0 (by omega) (by omega) (same_tr (same_sx st f0) (same_tr a2.1 b2.1)) (by rw [b2.2.1, a2.2.1, sx_ex]; exact y2) (by rw [b2.2.1, a2.2.1, sx_ex, y3, Nat.zero_mul]) (by decide) (wk_fr b2 (by decide) a3) b3 (by rw [Nat.mul_zero, Nat.zero_mul, Nat.pow_zero, Nat.mul_one, Nat.add_zero]) (by omega)
/-- the reference -/
theorem rs_comm {st : rm_S} {k q : Nat} (h : k ≠ q) (f g : Nat → Int32) : rm_setr (rm_setr st k f) q g = rm_setr (rm_setr st q g) k f := by
  funext r
  by_cases h1 : r = q
  · subst h1
    rw [rs_at, rs_ne (fun h' => h h'.symm), rs_at]
  · rw [rs_ne h1]
    by_cases h2 : r = k
    · subst h2
      rw [rs_at, rs_at]
    · rw [rs_ne h2, rs_ne h2, rs_ne h1]
theorem reg3_m {st : rn_S} {ms m1 : rm_S} {r p : Nat} {e : Int} {X : Nat} (h : reg3 st ms r p e X) (h4 : m1 4 = ms 4) (h5 : m1 5 = ms 5) : reg3 st m1 r p e X := by
  obtain ⟨c1, c2, c3, c4, c5, c6, c7, c8, c9, c10⟩ := h
  exact ⟨c1, by rw [h4]; exact c2, c3, c4, c5, c6, c7, c8, c9, by rw [h5]; exact c10⟩
theorem bo_at {st : rn_S} {ms : rm_S} {x p : Nat} {e : Int} {X : Nat} (hx : x < 8) (hp2 : p ≤ 93) (h1 : ms 1 x = nI p) (hg : reg3 st ms x p e X) {k : Nat} (hk : k < 93) : RM_bitOf ms (nI x) ((92 : Int32) - nI k) = some (nI (X / 2 ^ k % 2)) := by
  have e1 : (92 : Int32) - nI k = nI (92 - k) := nI_minus (a := 92) (by omega) (by omega)
  rw [e1, bo_ok hx hp2 h1 hg (by omega), show 92 - (92 - k) = k by omega]
theorem hi93 {X k : Nat} (hX : X < 2 ^ 93) (hk : 93 ≤ k) : X / 2 ^ k % 2 = 0 := by
  rw [Nat.div_eq_of_lt (Nat.lt_of_lt_of_le hX (p2_le hk))]
theorem le93 {k : Nat} (h : 93 ≤ k) (h2 : k < 1000) : (93 : Int32) ≤ nI k := (nI_leI (a := 93) (by omega) (by omega)).mpr h
theorem d2_loop {st : rn_S} {m1 : rm_S} {x y p p' : Nat} {e1 e2 : Int} {X Y : Nat} (hx : x < 8) (hy : y < 8) (hp : p ≤ 93) (hp' : p' ≤ 93) (h1 : m1 1 x = nI p) (h2 : m1 1 y = nI p') (hg1 : reg3 st m1 x p e1 X) (hg2 : reg3 st m1 y p' e2 Y) (n : Nat) : ∀ (N k : Nat) (g g' : Nat → Int32), k + n = 104 → n < N → (∀ i, i < k → g i = nI (X / 2 ^ i % 2)) → (∀ i, i < k → g' i = nI (Y / 2 ^ i % 2)) →
    ∃ f f', RM_divide_2 N (nI x) (nI y) (nI k) (rm_setr (rm_setr m1 8 g) 9 g') = RM_divide_85 2000 ((600 : Int32) + m1 4 x - m1 4 y) (nI 0) (rm_setr (rm_setr m1 8 f) 9 f') ∧ bw f X ∧ bw f' Y := by
  have hox : ob_in (nI x) 8 = true := ob_nI hx (by decide)
  have hcx : (nI x).toNatClampNeg = x := nI_clamp (by omega)
  have hoy : ob_in (nI y) 8 = true := ob_nI hy (by decide)
  have hcy : (nI y).toNatClampNeg = y := nI_clamp (by omega)
  have hX : X < 2 ^ 93 := hg1.2.2.2.2.2.1
  have hY : Y < 2 ^ 93 := hg2.2.2.2.2.2.1
  induction n with
  | zero =>
    intro N k g g' hk hN q1 q2
    obtain ⟨N, rfl⟩ : ∃ M, N = M + 1 := ⟨N - 1, by omega⟩
    refine ⟨g, g', ?_, ⟨by omega, fun i hi => q1 i (by omega)⟩, ⟨by omega, fun i hi => q2 i (by omega)⟩⟩
    rw [RM_divide_2, if_pos (le104 (by omega)), if_pos hox, if_pos hoy, nm_e0, hcx, hcy, rs_ne (show (4 : Nat) ≠ 9 by decide), rs_ne (show (4 : Nat) ≠ 8 by decide), nI_0]
  | succ n ih =>
    intro N k g g' hk hN q1 q2
    obtain ⟨N, rfl⟩ : ∃ M, N = M + 1 := ⟨N - 1, by omega⟩
    have ho : ob_in (nI k) 104 = true := ob_nI (by omega) (by decide)
    have hc : (nI k).toNatClampNeg = k := nI_clamp (by omega)
    have goal : ∃ f f', RM_divide_2 N (nI x) (nI y) (nI (k + 1)) (rm_setr (rm_setr m1 8 (upd g k (nI (X / 2 ^ k % 2)))) 9 (upd g' k (nI (Y / 2 ^ k % 2)))) = RM_divide_85 2000 ((600 : Int32) + m1 4 x - m1 4 y) (nI 0) (rm_setr (rm_setr m1 8 f) 9 f') ∧ bw f X ∧ bw f' Y := by
      refine ih N (k + 1) _ _ (by omega) (by omega) ?_ ?_
      · intro i hi
        by_cases h : i = k
        · rw [h, upd_same]
        · rw [upd_ne h]
          exact q1 i (by omega)
      · intro i hi
        by_cases h : i = k
        · rw [h, upd_same]
        · rw [upd_ne h]
          exact q2 i (by omega)
    have s1 : rm_up (rm_setr (rm_setr m1 8 g) 9 g') 8 k (nI (X / 2 ^ k % 2)) = rm_setr (rm_setr m1 8 (upd g k (nI (X / 2 ^ k % 2)))) 9 g' := by
      rw [ru_rs, rs_ne (show (8 : Nat) ≠ 9 by decide), rs_at, rs_comm (show (9 : Nat) ≠ 8 by decide), rs_rs]
    have s2 : rm_up (rm_setr (rm_setr m1 8 (upd g k (nI (X / 2 ^ k % 2)))) 9 g') 9 k (nI (Y / 2 ^ k % 2)) = rm_setr (rm_setr m1 8 (upd g k (nI (X / 2 ^ k % 2)))) 9 (upd g' k (nI (Y / 2 ^ k % 2))) := by
      rw [ru_rs, rs_at, rs_rs]
    have n1 : ∀ (f f' : Nat → Int32) (q : Nat), q ≤ 5 → rm_setr (rm_setr m1 8 f) 9 f' q = m1 q := fun f f' q hq => by
      rw [rs_ne (show q ≠ 9 by omega), rs_ne (show q ≠ 8 by omega)]
    rw [RM_divide_2, if_neg (ge104 (by omega))]
    by_cases h : 93 ≤ k
    · have z1 : (0 : Int32) = nI (X / 2 ^ k % 2) := by rw [hi93 hX h]; rfl
      have z2 : (0 : Int32) = nI (Y / 2 ^ k % 2) := by rw [hi93 hY h]; rfl
      rw [← z1] at s1 s2 goal
      rw [← z2] at s2 goal
      rw [if_pos (le93 h (by omega)), RM_divide_32, if_pos ho, nm_e0, if_pos (le93 h (by omega)), RM_divide_57, if_pos ho, nm_e0, nm_e0, hc, s1, s2, ← nI_succ]
      exact goal
    · rw [if_neg (ge93 (by omega)), bo_at hx hp (by rw [n1 _ _ _ (by decide)]; exact h1) (reg3_m hg1 (n1 _ _ _ (by decide)) (n1 _ _ _ (by decide))) (by omega), ob1_some, RM_divide_32, if_pos ho, nm_e0, if_neg (ge93 (by omega)), hc, s1, bo_at hy hp' (by rw [n1 _ _ _ (by decide)]; exact h2) (reg3_m hg2 (n1 _ _ _ (by decide)) (n1 _ _ _ (by decide))) (by omega), ob1_some, RM_divide_57, if_pos ho, nm_e0, nm_e0, hc, s2, ← nI_succ]
      exact goal
theorem bit_set {f : Nat → Int32} (hb : isb f) {k c : Nat} (hk : k < 1024) (h0 : f k = 0) (hc : c < 2) : isb (upd f k (nI c)) ∧ rv (upd f k (nI c)) = rv f + c * 2 ^ k := by
  refine ⟨fun i hi => ?_, ?_⟩
  · by_cases h : i = k
    · rw [h, upd_same]
      rcases (show c = 0 ∨ c = 1 by omega) with rfl | rfl
      · exact Or.inl rfl
      · exact Or.inr rfl
    · rw [upd_ne h]
      exact hb i hi
  · have h1 := rv_upd (f := f) hk (show c < 2147483648 by omega)
    rw [(xd_0 hb hk).mp h0, Nat.zero_mul, Nat.add_zero] at h1
    exact h1
theorem same_r {m0 ms : rm_S} {k : Nat} (hk : 6 ≤ k) (h : same_m m0 ms) (f : Nat → Int32) : same_m m0 (rm_setr ms k f) := ⟨(rs_ne (by omega)).trans h.1, (rs_ne (by omega)).trans h.2.1, (rs_ne (by omega)).trans h.2.2.1, (rs_ne (by omega)).trans h.2.2.2.1, (rs_ne (by omega)).trans h.2.2.2.2⟩
theorem mk_row {m0 ms : rm_S} (hs : same_m m0 ms) (hb : isb (ms 6)) {k n R : Nat} (hk : k < 1024) (h0 : ms 6 k = 0) (hV : rv (ms 6) = 2 * n * 2 ^ k) : ∃ f, rm_up ms 6 k (if R = 0 then 0 else 1) = rm_setr ms 6 f ∧ isb f ∧ rv f = (2 * n + if R = 0 then 0 else 1) * 2 ^ k := by
  by_cases h : R = 0
  · rw [if_pos h, if_pos h, show (0 : Int32) = nI 0 from zz_0]
    obtain ⟨a1, a2⟩ := bit_set hb hk h0 (show 0 < 2 by decide)
    exact ⟨_, rfl, a1, by rw [a2, hV, Nat.zero_mul, Nat.add_zero, Nat.add_zero]⟩
  · rw [if_neg h, if_neg h, show (1 : Int32) = nI 1 by decide]
    obtain ⟨a1, a2⟩ := bit_set hb hk h0 (show 1 < 2 by decide)
    exact ⟨_, rfl, a1, by rw [a2, hV, Nat.add_mul]⟩
theorem dd_loop {m0 : rm_S} {X Y L : Nat} (hY : Y < 2 ^ 93) (hL1 : 99 ≤ L) (hL2 : L < 1024) (n : Nat) : ∀ (N i : Nat) (ms : rm_S) (R q : Nat), i + n = 99 → n < N → same_m m0 ms → isb (ms 6) → (∀ k, k ≤ L - i → ms 6 k = 0) → rv (ms 6) = q * 2 ^ (L - i + 1) → bw (ms 8) R → bw (ms 9) Y → R + 2 * q * Y = X * 2 ^ i → R < 2 * Y →
    ∃ u, RM_divide_85 N (nI L) (nI i) ms = some u ∧ same_m m0 u ∧ isb (u 6) ∧ ∃ q R, R + 2 * q * Y = X * 2 ^ 99 ∧ R < 2 * Y ∧ rv (u 6) = (2 * q + if R = 0 then 0 else 1) * 2 ^ (L - 99) := by
  induction n with
  | zero =>
    intro N i ms R q hi hN hs hb hz hV h8 h9 he hR
    obtain ⟨N, rfl⟩ : ∃ M, N = M + 1 := ⟨N - 1, by omega⟩
    have hi' : i = 99 := by omega
    subst hi'
    have e1 : nI L - (99 : Int32) = nI (L - 99) := nI_minus (b := 99) (by omega) (by omega)
    have hV2 : rv (ms 6) = 2 * q * 2 ^ (L - 99) := by
      rw [hV, Nat.pow_succ, Nat.mul_comm (2 ^ (L - 99)), ← Nat.mul_assoc, Nat.mul_comm q]
    obtain ⟨f, a1, a2, a3⟩ := mk_row (R := R) hs hb (show L - 99 < 1024 by omega) (hz _ (by omega)) hV2
    refine ⟨rm_setr ms 6 f, ?_, same_r (by decide) hs f, by rw [rs_at]; exact a2, q, R, he, hR, by rw [rs_at]; exact a3⟩
    rw [RM_divide_85, if_pos (by decide), il_ok h8, ob1_some, e1]
    by_cases h : R = 0
    · rw [if_pos h] at a1
      rw [if_pos h, if_pos rfl, RM_divide_144, if_pos (ob_nI (by omega) (by decide)), nm_e0, nI_clamp (by omega), a1]
    · rw [if_neg h] at a1
      rw [if_neg h, if_neg (by decide), RM_divide_144, if_pos (ob_nI (by omega) (by decide)), nm_e0, nI_clamp (by omega), a1]
  | succ n ih =>
    intro N i ms R q hi hN hs hb hz hV h8 h9 he hR
    obtain ⟨N, rfl⟩ : ∃ M, N = M + 1 := ⟨N - 1, by omega⟩
    have hn : ¬ (99 : Int32) ≤ nI i := fun h => absurd ((nI_leI (a := 99) (by omega) (by omega)).mp h) (by omega)
    have e1 : nI L - nI i = nI (L - i) := nI_minus (by omega) (by omega)
    have ew : L - i = L - (i + 1) + 1 := by omega
    have e0 : (0 : Int32) = nI 0 := zz_0
    rw [RM_divide_85, if_neg hn, rr_ok h8 h9, ob1_some]
    by_cases hc : Y ≤ R
    · obtain ⟨f, a1, a2⟩ := tk_ok h8 h9 hc
      obtain ⟨b1, b2⟩ := bit_set hb (show L - i < 1024 by omega) (hz _ (by omega)) (show 1 < 2 by decide)
      obtain ⟨f2, c1, c2⟩ := db_ok (ms := rm_setr (rm_setr ms 8 f) 6 (upd (ms 6) (L - i) (nI 1))) (R := R - Y) (c := 0) (by rw [rs_ne (show (8 : Nat) ≠ 6 by decide), rs_at]; exact a2) (by omega) (by decide)
      rw [if_pos hc, if_neg (by decide), a1, ob1_some, e1, if_pos (ob_nI (by omega) (by decide)), nm_e0, nI_clamp (by omega), RM_divide_113, ru_rs, rs_ne (show (6 : Nat) ≠ 8 by decide), show (1 : Int32) = nI 1 by decide, e0, c1, ob1_some, nm_e0, show nI i + nI 1 = nI (i + 1) from nI_add _ _]
      refine ih N (i + 1) _ (2 * (R - Y) + 0) (2 * q + 1) (by omega) (by omega) (same_r (by decide) (same_r (by decide) (same_r (by decide) hs _) _) _) ?_ ?_ ?_ ?_ ?_ ?_ (by omega)
      · rw [rs_ne (show (6 : Nat) ≠ 8 by decide), rs_at]
        exact b1
      · intro k hk
        rw [rs_ne (show (6 : Nat) ≠ 8 by decide), rs_at, upd_ne (by omega)]
        exact hz k (by omega)
      · rw [rs_ne (show (6 : Nat) ≠ 8 by decide), rs_at, b2, hV, ← ew, Nat.pow_succ, Nat.add_mul, Nat.mul_comm (2 ^ (L - i)) 2, ← Nat.mul_assoc, Nat.mul_comm q 2]
      · rw [rs_at]
        exact c2
      · rw [rs_ne (show (9 : Nat) ≠ 8 by decide), rs_ne (show (9 : Nat) ≠ 6 by decide), rs_ne (show (9 : Nat) ≠ 8 by decide)]
        exact h9
      · have := dq_step (b := 1) (by decide) he (by omega)
        rw [Nat.one_mul] at this
        rw [Nat.add_zero, Nat.pow_succ]
        exact this
    · obtain ⟨f2, c1, c2⟩ := db_ok (ms := ms) (R := R) (c := 0) h8 (by omega) (by decide)
      rw [if_neg hc, if_pos rfl, RM_divide_113, e0, c1, ob1_some, nm_e0, ← nI_succ]
      refine ih N (i + 1) _ (2 * R + 0) (2 * q + 0) (by omega) (by omega) (same_r (by decide) hs _) ?_ ?_ ?_ ?_ ?_ ?_ (by omega)
      · rw [rs_ne (show (6 : Nat) ≠ 8 by decide)]
        exact hb
      · intro k hk
        rw [rs_ne (show (6 : Nat) ≠ 8 by decide)]
        exact hz k (by omega)
      · rw [rs_ne (show (6 : Nat) ≠ 8 by decide), hV, ← ew, Nat.pow_succ, Nat.add_zero, Nat.mul_comm (2 ^ (L - i)) 2, ← Nat.mul_assoc, Nat.mul_comm q 2]
      · rw [rs_at]
        exact c2
      · rw [rs_ne (show (9 : Nat) ≠ 8 by decide)]
        exact h9
      · have := dq_step (b := 0) (by decide) he (by omega)
        rw [Nat.zero_mul, Nat.sub_zero] at this
        rw [Nat.add_zero (2 * R), Nat.pow_succ]
        exact this
theorem rv_0 {f : Nat → Int32} (h : ∀ i, i < 1024 → f i = 0) : isb f ∧ rv f = 0 := by
  refine ⟨fun k hk => Or.inl (h k hk), ?_⟩
  rw [rv_def]
  exact dv_zero (fun i hi => by unfold xd; rw [h i hi]; rfl)
theorem rd_ok {st : rn_S} {m1 : rm_S} {x y p p' : Nat} {e1 e2 : Int} {X Y L : Nat} (hx : x < 8) (hy : y < 8) (hp : p ≤ 93) (hp' : p' ≤ 93) (h1 : m1 1 x = nI p) (h2 : m1 1 y = nI p') (hg1 : reg3 st m1 x p e1 X) (hg2 : reg3 st m1 y p' e2 Y) (hz : ∀ i, i < 1024 → m1 6 i = 0) (hL : (L : Int) = 600 + e1 - e2) :
    ∃ u, RM_divide m1 (nI x) (nI y) = some u ∧ same_m m1 u ∧ isb (u 6) ∧ ∃ q R, R + 2 * q * Y = X * 2 ^ 99 ∧ R < 2 * Y ∧ rv (u 6) = (2 * q + if R = 0 then 0 else 1) * 2 ^ (L - 99) := by
  obtain ⟨f, f', a1, a2, a3⟩ := d2_loop hx hy hp hp' h1 h2 hg1 hg2 104 2000 0 (m1 8) (rm_setr m1 8 (m1 8) 9) (by omega) (by omega) (fun i hi => absurd hi (by omega)) (fun i hi => absurd hi (by omega))
  rw [rs_id, rs_id, nI_0] at a1
  obtain ⟨c1, c2, c3, c4, c5, c6, c7, c8, c9, c10⟩ := hg1
  obtain ⟨d1, d2, d3, d4, d5, d6, d7, d8, d9, d10⟩ := hg2
  have eL : (600 : Int32) + m1 4 x - m1 4 y = nI L := by
    apply Int32.toInt_inj.mp
    have k1 : (600 : Int32).toInt = 600 := by decide
    have k2 : ((600 : Int32) + m1 4 x).toInt = 600 + e1 := by rw [ar_add (by omega) (by omega), k1, c2]
    rw [ar_sub (by omega) (by omega), k2, d2, nI_toInt (by omega)]
    omega
  rw [eL, ← nI_0] at a1
  obtain ⟨z1, z2⟩ := rv_0 (f := rm_setr (rm_setr m1 8 f) 9 f' 6) (by rw [rs_ne (by decide), rs_ne (by decide)]; exact hz)
  obtain ⟨u, b1, b2⟩ := dd_loop (m0 := m1) (X := X) d6 (show 99 ≤ L by omega) (by omega) 99 2000 0 (rm_setr (rm_setr m1 8 f) 9 f') X 0 (by omega) (by omega) (same_r (by decide) (same_r (by decide) ⟨rfl, rfl, rfl, rfl, rfl⟩ _) _) z1 (by rw [rs_ne (by decide), rs_ne (by decide)]; exact fun k hk => hz k (by omega)) (by rw [z2, Nat.zero_mul]) (by rw [rs_ne (by decide), rs_at]; exact a2) (by rw [rs_at]; exact a3) (by rw [Nat.mul_zero, Nat.zero_mul, Nat.pow_zero, Nat.mul_one, Nat.add_zero]) (by omega)
  exact ⟨u, by unfold RM_divide; rw [← nI_0, a1, b1], b2⟩
