/-! the class's product of two registers -/
theorem dv_upd {B : Nat} {f g : Nat → Nat} {k n : Nat} (hk : k < n) (h : ∀ i, i < n → i ≠ k → g i = f i) : dv B g n + f k * B ^ k = dv B f n + g k * B ^ k := by
  induction n with
  | zero => omega
  | succ n ih =>
    rw [dv, dv]
    by_cases e : k = n
    · subst e
      rw [dv_congr (fun i hi => h i (by omega) (by omega))]
      omega
    · have h1 := ih (by omega) (fun i hi hn => h i (by omega) hn)
      rw [h n (by omega) (by omega)]
      omega
theorem tp_fin {B P lo hi c a b G D U V W Z : Nat} (h1 : lo + hi * B = c + a * b + G) (h2 : U + G * P = V + lo * P) (h3 : W + Z = U + hi * (P * B) + a * (D * (P * B))) : W + Z = V + c * P + a * ((b + B * D) * P) := by
  have h4 : (lo + hi * B) * P = (c + a * b + G) * P := by rw [h1]
  simp only [Nat.add_mul, Nat.mul_add, Nat.mul_assoc, Nat.mul_comm, Nat.mul_left_comm] at *
  omega
theorem tp_in (k56 : Nat → Nat → Nat → Int32 → rn_S → rn_S) {st : rn_S} {x y i : Nat} (hx : x < 8) (hy : y < 8) (hi : i < 3) (hlx : ∀ l, l < 3 → 0 ≤ (rn_lb st x l).toInt) (hly : ∀ l, l < 3 → 0 ≤ (rn_lb st y l).toInt) (n : Nat) : ∀ (N j : Nat) (c : Int64) (g : Nat → Int32), j + n = 3 → n < N → 0 ≤ c.toInt → c.toInt < 2147483648 → (∀ l, l < 6 → 0 ≤ (g l).toInt) →
    ∃ g', RV_takeProduct_67 k56 N 9 x y (nI i) c (nI j) (rn_setl st 9 g) = k56 9 x y (nI (i + 1)) (rn_setl st 9 g') ∧ (∀ l, l < 6 → 0 ≤ (g' l).toInt) ∧ (∀ l, i + 3 < l → g' l = g l) ∧
      dv B31 (xd g') 6 + xd g (i + 3) * B31 ^ (i + 3) = dv B31 (xd g) 6 + c.toInt.toNat * B31 ^ (i + j) + xd (rn_lb st x) i * (dv B31 (fun l => xd (rn_lb st y) (j + l)) n * B31 ^ (i + j)) := by
  have lx : ∀ g, rn_lb (rn_setl st 9 g) x = rn_lb st x := fun g => by
    show (if x = 9 then g else _) = _
    rw [if_neg (by omega)]; rfl
  have ly : ∀ g, rn_lb (rn_setl st 9 g) y = rn_lb st y := fun g => by
    show (if y = 9 then g else _) = _
    rw [if_neg (by omega)]; rfl
  induction n with
  | zero =>
    intro N j c g hj hN hc0 hc1 hg
    obtain ⟨N, rfl⟩ : ∃ M, N = M + 1 := ⟨N - 1, by omega⟩
    obtain rfl : j = 3 := by omega
    have hc32 : (c.toInt32).toInt = c.toInt := by rw [Int64.toInt_toInt32, ar_b32 (by omega) (by omega)]
    refine ⟨upd g (i + 3) c.toInt32, ?_, fun l hl => ?_, fun l hl => upd_ne (by omega), ?_⟩
    · rw [RV_takeProduct_67, if_pos (by decide), nm_e0, nm_e0, show nI i + (3 : Int32) = nI (i + 3) from (nI_add i 3), nI_clamp (by omega), sl_lbs, sl_lb, sl_sl, ← nI_succ]
    · by_cases e : l = i + 3
      · rw [e, upd_same, hc32]; exact hc0
      · rw [upd_ne e]; exact hg l hl
    · have h1 := dv_upd (B := B31) (f := xd g) (g := xd (upd g (i + 3) c.toInt32)) (k := i + 3) (n := 6) (by omega) (fun l _ hne => by unfold xd; rw [upd_ne hne])
      have h2 : xd (upd g (i + 3) c.toInt32) (i + 3) = c.toInt.toNat := by unfold xd; rw [upd_same, hc32]
      rw [h2] at h1
      rw [h1, dv, Nat.zero_mul, Nat.mul_zero]
      exact (Nat.add_zero _).symm
  | succ n ih =>
    intro N j c g hj hN hc0 hc1 hg
    obtain ⟨N, rfl⟩ : ∃ M, N = M + 1 := ⟨N - 1, by omega⟩
    have hn : ¬ (3 : Int32) ≤ nI j := fun h => absurd ((nI_leI (a := 3) (by omega) (by omega)).mp h) (by omega)
    have ha := hlx i hi
    have ha2 := ar_hi (rn_lb st x i)
    have hb := hly j (by omega)
    have hb2 := ar_hi (rn_lb st y j)
    have hgg := hg (i + j) (by omega)
    have hg2 := ar_hi (g (i + j))
    have hm0 : 0 ≤ (rn_lb st x i).toInt * (rn_lb st y j).toInt := Int.mul_nonneg ha hb
    have hm1 : (rn_lb st x i).toInt * (rn_lb st y j).toInt ≤ 2147483647 * 2147483647 := Int.le_trans (Int.mul_le_mul_of_nonneg_right (show _ ≤ (2147483647 : Int) by omega) hb) (Int.mul_le_mul_of_nonneg_left (by omega) (by decide))
    have em : ((rn_lb st x i).toInt64 * (rn_lb st y j).toInt64).toInt = (rn_lb st x i).toInt * (rn_lb st y j).toInt := by
      rw [ar_lmul (by rw [Int32.toInt_toInt64, Int32.toInt_toInt64]; omega) (by rw [Int32.toInt_toInt64, Int32.toInt_toInt64]; omega), Int32.toInt_toInt64, Int32.toInt_toInt64]
    have es : ((rn_lb st x i).toInt64 * (rn_lb st y j).toInt64 + (g (i + j)).toInt64).toInt = (rn_lb st x i).toInt * (rn_lb st y j).toInt + (g (i + j)).toInt := by
      rw [ar_ladd (by rw [Int32.toInt_toInt64, em]; omega) (by rw [Int32.toInt_toInt64, em]; omega), Int32.toInt_toInt64, em]
    have e50 : (c + ((rn_lb st x i).toInt64 * (rn_lb st y j).toInt64 + (g (i + j)).toInt64)).toInt = c.toInt + ((rn_lb st x i).toInt * (rn_lb st y j).toInt + (g (i + j)).toInt) := by
      rw [ar_ladd (by rw [es]; omega) (by rw [es]; omega), es]
    rw [RV_takeProduct_67, if_neg hn, show nI i + nI j = nI (i + j) from nI_add i j, nI_clamp (show i < 2 ^ 31 by omega), nI_clamp (show j < 2 ^ 31 by omega), nI_clamp (show i + j < 2 ^ 31 by omega), lx, ly, sl_lb, nm_e0, nm_e0, nm_e0, nm_e0, sl_lbs, sl_lb, sl_sl, ← nI_succ]
    generalize c + ((rn_lb st x i).toInt64 * (rn_lb st y j).toInt64 + (g (i + j)).toInt64) = x50 at e50
    have elo := cy_lo x50
    have ehi := cy_hi x50
    have hlo0 := cy_lo0 x50
    generalize x50.toInt32 &&& (2147483647 : Int32) = lo at elo hlo0
    generalize x50 >>> ((31 : Int32).toInt64 &&& 63) = hi at ehi
    rw [e50] at elo ehi
    obtain ⟨g', f1, f2, f3, f4⟩ := ih N (j + 1) hi (upd g (i + j) lo) (by omega) (by omega) (by omega) (by omega) (fun l hl => by
      by_cases e : l = i + j
      · rw [e, upd_same]; exact hlo0
      · rw [upd_ne e]; exact hg l hl)
    refine ⟨g', f1, f2, fun l hl => by rw [f3 l hl, upd_ne (by omega)], ?_⟩
    have h1 := dv_upd (B := B31) (f := xd g) (g := xd (upd g (i + j) lo)) (k := i + j) (n := 6) (by omega) (fun l _ hne => by unfold xd; rw [upd_ne hne])
    have h2 : xd (upd g (i + j) lo) (i + j) = lo.toInt.toNat := by unfold xd; rw [upd_same]
    have h3 : xd (upd g (i + j) lo) (i + 3) = xd g (i + 3) := by unfold xd; rw [upd_ne (by omega)]
    rw [h2] at h1
    rw [h3, show i + (j + 1) = (i + j) + 1 from rfl, Nat.pow_succ] at f4
    have h4 : dv B31 (fun l => xd (rn_lb st y) (j + l)) (n + 1) = xd (rn_lb st y) j + B31 * dv B31 (fun l => xd (rn_lb st y) (j + 1 + l)) n := by
      rw [Nat.add_comm n 1, dv_split 1 n, dv_one, Nat.pow_one, Nat.add_zero]
      rw [dv_congr (f := fun i => xd (rn_lb st y) (j + (1 + i))) (g := fun l => xd (rn_lb st y) (j + 1 + l)) (fun l _ => by rw [Nat.add_assoc])]
    rw [h4]
    refine tp_fin ?_ h1 f4
    have e1 : xd (rn_lb st x) i = (rn_lb st x i).toInt.toNat := rfl
    have e2 : xd (rn_lb st y) j = (rn_lb st y j).toInt.toNat := rfl
    have e3 : xd g (i + j) = (g (i + j)).toInt.toNat := rfl
    have e4 : (rn_lb st x i).toInt.toNat * (rn_lb st y j).toInt.toNat = ((rn_lb st x i).toInt * (rn_lb st y j).toInt).toNat := (Int.toNat_mul ha hb).symm
    rw [e1, e2, e3, e4, show B31 = 2147483648 from rfl]
    generalize (rn_lb st x i).toInt * (rn_lb st y j).toInt = M at *
    omega
theorem tp_fin2 {B P a D Y U V : Nat} (h1 : U = V + a * (Y * P)) : U + D * (P * B) * Y = V + (a + B * D) * P * Y := by
  rw [h1]
  simp only [Nat.add_mul, Nat.mul_add, Nat.mul_assoc, Nat.mul_comm, Nat.mul_left_comm]
  omega
theorem tp_out {st : rn_S} {x y : Nat} (hx : x < 8) (hy : y < 8) (hlx : ∀ l, l < 3 → 0 ≤ (rn_lb st x l).toInt) (hly : ∀ l, l < 3 → 0 ≤ (rn_lb st y l).toInt) (n : Nat) : ∀ (N i : Nat) (g : Nat → Int32), i + n = 3 → n < N → (∀ l, l < 6 → 0 ≤ (g l).toInt) → (∀ l, i + 3 ≤ l → l < 6 → g l = 0) →
    ∃ g', RV_takeProduct_56 N 9 x y (nI i) (rn_setl st 9 g) = rn_setl st 9 g' ∧ (∀ l, l < 6 → 0 ≤ (g' l).toInt) ∧
      dv B31 (xd g') 6 = dv B31 (xd g) 6 + dv B31 (fun l => xd (rn_lb st x) (i + l)) n * B31 ^ i * dv B31 (xd (rn_lb st y)) 3 := by
  induction n with
  | zero =>
    intro N i g hi hN hg hz
    obtain ⟨N, rfl⟩ : ∃ M, N = M + 1 := ⟨N - 1, by omega⟩
    obtain rfl : i = 3 := by omega
    refine ⟨g, by rw [RV_takeProduct_56, if_pos (by decide)], hg, ?_⟩
    rw [show dv B31 (fun l => xd (rn_lb st x) (3 + l)) 0 = 0 from rfl, Nat.zero_mul, Nat.zero_mul, Nat.add_zero]
  | succ n ih =>
    intro N i g hi hN hg hz
    obtain ⟨N, rfl⟩ : ∃ M, N = M + 1 := ⟨N - 1, by omega⟩
    have hn : ¬ (3 : Int32) ≤ nI i := fun h => absurd ((nI_leI (a := 3) (by omega) (by omega)).mp h) (by omega)
    obtain ⟨g1, f1, f2, f3, f4⟩ := tp_in (RV_takeProduct_56 N) hx hy (show i < 3 by omega) hlx hly 3 4 0 0 g (by omega) (by omega) (by decide) (by decide) hg
    obtain ⟨g', k1, k2, k3⟩ := ih N (i + 1) g1 (by omega) (by omega) f2 (fun l h1 h2 => by rw [f3 l (by omega)]; exact hz l (by omega) h2)
    refine ⟨g', ?_, k2, ?_⟩
    · rw [RV_takeProduct_56, if_neg hn, show (0 : Int32) = nI 0 from rfl, f1, k1]
    · have hz3 : xd g (i + 3) = 0 := by unfold xd; rw [hz (i + 3) (by omega) (by omega)]; rfl
      have hY : dv B31 (fun l => xd (rn_lb st y) (0 + l)) 3 = dv B31 (xd (rn_lb st y)) 3 := dv_congr (fun l _ => by rw [Nat.zero_add])
      rw [hz3, Nat.zero_mul, Nat.add_zero, show (0 : Int64).toInt.toNat = 0 from rfl, Nat.zero_mul, Nat.add_zero, hY, Nat.add_zero] at f4
      have h4 : dv B31 (fun l => xd (rn_lb st x) (i + l)) (n + 1) = xd (rn_lb st x) i + B31 * dv B31 (fun l => xd (rn_lb st x) (i + 1 + l)) n := by
        rw [Nat.add_comm n 1, dv_split 1 n, dv_one, Nat.pow_one, Nat.add_zero]
        rw [dv_congr (f := fun l => xd (rn_lb st x) (i + (1 + l))) (g := fun l => xd (rn_lb st x) (i + 1 + l)) (fun l _ => by rw [Nat.add_assoc])]
      rw [k3, h4, Nat.pow_succ]
      exact tp_fin2 f4
theorem fl_loop (n : Nat) : ∀ (N k : Nat) (st : rn_S) (g : Nat → Int32), k + n = 6 → n < N → (∀ l, l < k → g l = 0) → ∃ g', JA_fill_limbs_5 N 9 0 (nI k) (nI 6) (rn_setl st 9 g) = rn_setl st 9 g' ∧ ∀ l, l < 6 → g' l = 0 := by
  induction n with
  | zero =>
    intro N k st g hk hN hz
    obtain ⟨N, rfl⟩ : ∃ M, N = M + 1 := ⟨N - 1, by omega⟩
    obtain rfl : k = 6 := by omega
    exact ⟨g, by rw [JA_fill_limbs_5, if_pos (by decide)], hz⟩
  | succ n ih =>
    intro N k st g hk hN hz
    obtain ⟨N, rfl⟩ : ∃ M, N = M + 1 := ⟨N - 1, by omega⟩
    have hn : ¬ nI 6 ≤ nI k := fun h => absurd ((nI_leI (by omega) (by omega)).mp h) (by omega)
    obtain ⟨g', f1, f2⟩ := ih N (k + 1) st (upd g k 0) (by omega) (by omega) (fun l hl => by
      by_cases e : l = k
      · rw [e, upd_same]
      · rw [upd_ne e]; exact hz l (by omega))
    exact ⟨g', by rw [JA_fill_limbs_5, if_neg hn, nm_e0, nm_e0, nI_clamp (by omega), sl_lbs, sl_lb, sl_sl, ← nI_succ, f1], f2⟩
/-- value 9 behind takeProduct of two regular registers -/
theorem tp_ok {st : rn_S} {x y X Y : Nat} (hx : x < 8) (hy : y < 8) (kx : rn_kd st x = 3) (ky : rn_kd st y = 3) (hlx : ∀ l, l < 3 → 0 ≤ (rn_lb st x l).toInt) (hly : ∀ l, l < 3 → 0 ≤ (rn_lb st y l).toInt) (hX : dv B31 (fun i => (rn_lb st x i).toInt.toNat) 3 = X) (hY : dv B31 (fun i => (rn_lb st y i).toInt.toNat) 3 = Y) :
    ∃ g, RV_takeProduct st 9 x y = rn_setl (rn_lws (RV_become st 9 3 (rn_sg st x * rn_sg st y)) 9 (rn_lw st x + rn_lw st y)) 9 g ∧ (∀ l, l < 6 → 0 ≤ (g l).toInt) ∧ dv B31 (xd g) 6 = X * Y := by
  have hpk : RN_productKind (rn_kd st x) (rn_kd st y) = 3 := by rw [kx, ky]; rfl
  have hlw : ∀ z, rn_lw (RV_become st 9 3 (rn_sg st x * rn_sg st y)) z = rn_lw st z := fun z => rfl
  unfold RV_takeProduct
  rw [nm_e0, hpk, nm_e0, if_pos (show rn_kd (RV_become st 9 3 (rn_sg st x * rn_sg st y)) 9 = 3 from by rw [be_kd, upd_same]), nm_e0, nm_e0, hlw, hlw]
  generalize hs1 : rn_lws (RV_become st 9 3 (rn_sg st x * rn_sg st y)) 9 (rn_lw st x + rn_lw st y) = s1
  have hlb : rn_lb s1 = rn_lb st := by rw [← hs1]; rfl
  obtain ⟨g0, f1, f2⟩ := fl_loop 6 7 0 s1 (rn_lb s1 9) (by omega) (by omega) (fun l hl => absurd hl (Nat.not_lt_zero _))
  rw [sl_id] at f1
  have hfill : JA_fill_limbs s1 9 0 = rn_setl s1 9 g0 := by
    unfold JA_fill_limbs
    rw [nm_e0]
    exact f1
  have hz0 : ∀ l, l < 6 → 0 ≤ (g0 l).toInt := fun l hl => by rw [f2 l hl]; decide
  obtain ⟨g, k1, k2, k3⟩ := tp_out (st := s1) hx hy (by rw [hlb]; exact hlx) (by rw [hlb]; exact hly) 3 4 0 g0 (by omega) (by omega) hz0 (fun l _ h => f2 l h)
  refine ⟨g, by rw [hfill, show (0 : Int32) = nI 0 from rfl, k1], k2, ?_⟩
  have hd0 : dv B31 (xd g0) 6 = 0 := dv_zero (fun l hl => by unfold xd; rw [f2 l hl]; rfl)
  have hX2 : dv B31 (fun l => xd (rn_lb s1 x) (0 + l)) 3 = X := by
    rw [← hX, hlb]
    exact dv_congr (fun l _ => by rw [Nat.zero_add]; rfl)
  have hY2 : dv B31 (xd (rn_lb s1 y)) 3 = Y := by
    rw [← hY, hlb]
    exact dv_congr (fun l _ => rfl)
  rw [k3, hd0, hX2, hY2, Nat.pow_zero, Nat.mul_one, Nat.zero_add]
