/-! the class's Wide: a whole number in two halves -/
def wk (st : rn_S) (w R : Nat) : Prop := ∃ h l : Nat, rn_wh st w = lN h ∧ rn_wl st w = lN l ∧ h < 2 ^ 42 ∧ l < 2 ^ 62 ∧ R = h * 2 ^ 62 + l
def fr (st t : rn_S) (w : Nat) : Prop := same_c st t ∧ rn_ex t = rn_ex st ∧ ∀ u, u ≠ w → rn_wh t u = rn_wh st u ∧ rn_wl t u = rn_wl st u
theorem wk_fr {st t : rn_S} {w u R : Nat} (h : fr st t w) (hu : u ≠ w) (hk : wk st u R) : wk t u R := by
  obtain ⟨a, b, h1, h2, h3⟩ := hk
  exact ⟨a, b, (h.2.2 u hu).1.trans h1, (h.2.2 u hu).2.trans h2, h3⟩
theorem wk_sx {st : rn_S} {w R : Nat} (f : Nat → Int32) (hk : wk st w R) : wk (rn_setx st f) w R := hk
theorem fr_set (st : rn_S) (w : Nat) (a b : Int64) : fr st (rn_wls (rn_whs st w a) w b) w := ⟨⟨rfl, fun _ _ => ⟨rfl, rfl, rfl, rfl⟩⟩, rfl, fun _ hu => ⟨pk_uLn hu, pk_uLn hu⟩⟩
theorem wh_set (st : rn_S) (w : Nat) (a b : Int64) : rn_wh (rn_wls (rn_whs st w a) w b) w = a := pk_uLs
theorem wl_set (st : rn_S) (w : Nat) (a b : Int64) : rn_wl (rn_wls (rn_whs st w a) w b) w = b := pk_uLs
theorem wk_set {st : rn_S} {w R h l : Nat} (h1 : h < 2 ^ 42) (h2 : l < 2 ^ 62) (h3 : R = h * 2 ^ 62 + l) : wk (rn_wls (rn_whs st w (lN h)) w (lN l)) w R := ⟨h, l, wh_set _ _ _ _, wl_set _ _ _ _, h1, h2, h3⟩
theorem lN_shr {n j : Nat} (hn : n < 2 ^ 62) (hj : j < 64) {sh : Int64} (hsh : sh.toBitVec.smod 64 = BitVec.ofNat 64 j) : lN n >>> sh = lN (n / 2 ^ j) := by
  apply Int64.toInt_inj.mp
  have h2 : (lN n >>> sh).toInt = ((lN n).toBitVec.sshiftRight' (sh.toBitVec.smod 64)).toInt := rfl
  have h5 : n / 2 ^ j ≤ n := Nat.div_le_self _ _
  rw [h2, hsh, BitVec.sshiftRight', BitVec.toInt_sshiftRight, Int.shiftRight_eq_div_pow]
  have h3 : (lN n).toBitVec.toInt = n := pk_lT (by omega)
  rw [h3, BitVec.toNat_ofNat, Nat.mod_eq_of_lt (show j < 2 ^ 64 by omega), pk_lT (by omega)]
  rfl
theorem lN_low {l i c : Nat} (hi : i ≤ 2) (hl : l < 2 ^ 62) (hc : c < 2 ^ i) {sh : Int64} (hsh : (sh.toBitVec.smod 64).toNat = i) : ((lN l <<< sh) &&& (4611686018427387903 : Int64)) ||| lN c = lN (2 ^ i * (l % 2 ^ (62 - i)) + c) := by
  have hp : 2 ^ i ≤ 4 := p2_le (b := 2) hi
  have ha1 : l * 2 ^ i < 2 ^ 64 := by
    have : l * 2 ^ i ≤ l * 4 := Nat.mul_le_mul_left _ hp
    omega
  have e2 : (2 : Nat) ^ 62 = 2 ^ i * 2 ^ (62 - i) := by rw [← Nat.pow_add, show i + (62 - i) = 62 by omega]
  have hlt : 2 ^ i * (l % 2 ^ (62 - i)) + c < 2 ^ 62 := by
    have h1 := Nat.mod_lt l (p2_pos (62 - i))
    have h2 : 2 ^ i * (l % 2 ^ (62 - i) + 1) ≤ 2 ^ i * 2 ^ (62 - i) := Nat.mul_le_mul_left _ h1
    rw [← e2, Nat.mul_add, Nat.mul_one] at h2
    omega
  apply Int64.toBitVec_inj.mp
  have h1 : (((lN l <<< sh) &&& (4611686018427387903 : Int64)) ||| lN c).toBitVec = ((BitVec.ofNat 64 l <<< (sh.toBitVec.smod 64)) &&& BitVec.ofNat 64 4611686018427387903) ||| BitVec.ofNat 64 c := rfl
  have h2 : (lN (2 ^ i * (l % 2 ^ (62 - i)) + c)).toBitVec = BitVec.ofNat 64 (2 ^ i * (l % 2 ^ (62 - i)) + c) := rfl
  rw [h1, h2]
  apply BitVec.eq_of_toNat_eq
  rw [BitVec.toNat_or, BitVec.toNat_and, BitVec.shiftLeft_eq', BitVec.toNat_shiftLeft, hsh, BitVec.toNat_ofNat, BitVec.toNat_ofNat, BitVec.toNat_ofNat, BitVec.toNat_ofNat, Nat.shiftLeft_eq]
  rw [Nat.mod_eq_of_lt (show l < 2 ^ 64 by omega), Nat.mod_eq_of_lt (show c < 2 ^ 64 by omega), Nat.mod_eq_of_lt ha1, Nat.mod_eq_of_lt (Nat.lt_trans hlt (by decide)), show (4611686018427387903 : Nat) % 2 ^ 64 = 2 ^ 62 - 1 from rfl, Nat.and_two_pow_sub_one_eq_mod, e2, Nat.mul_comm l, Nat.mul_mod_mul_left, Nat.two_pow_add_eq_or_of_lt hc]
theorem lN_hi {h l i j : Nat} (hij : i + j = 62) (hi : i ≤ 2) (hh : h * 2 ^ i + l / 2 ^ j < 2 ^ 62) (hl : l < 2 ^ 62) {sh sh' : Int64} (h1 : (sh.toBitVec.smod 64).toNat = i) (h2 : sh'.toBitVec.smod 64 = BitVec.ofNat 64 j) : (lN h <<< sh) ||| (lN l >>> sh') = lN (h * 2 ^ i + l / 2 ^ j) := by
  rw [lN_shr hl (by omega) h2]
  refine lN_or (by omega) ?_ (Nat.lt_trans hh (by decide)) h1
  apply Nat.div_lt_of_lt_mul
  rw [← Nat.pow_add, show j + i = 62 by omega]
  exact hl
theorem sh1_ok {st : rn_S} {w R c : Nat} (hk : wk st w R) (hc : c < 2) (hR : 2 * R + c < 2 ^ 104) : ∃ t, RW_shift st w 1 (nI c) = t ∧ fr st t w ∧ wk t w (2 * R + c) := by
  obtain ⟨h, l, h1, h2, h3, h4, h5⟩ := hk
  refine ⟨_, rfl, ?_⟩
  have e1 : (lN h <<< ((1 : Int32).toInt64 &&& 63)) ||| (lN l >>> (((62 : Int32) - 1).toInt64 &&& 63)) = lN (h * 2 ^ 1 + l / 2 ^ 61) := lN_hi (i := 1) (j := 61) (by decide) (by decide) (by omega) h4 (by decide) (by decide)
  have e2 : ((lN l <<< ((1 : Int32).toInt64 &&& 63)) &&& (4611686018427387903 : Int64)) ||| lN c = lN (2 ^ 1 * (l % 2 ^ (62 - 1)) + c) := lN_low (i := 1) (by decide) h4 hc (by decide)
  have e3 : (nI c).toInt64 = lN c := nI_l (by omega)
  rw [RW_shift, nm_e0, nm_e0, h1, h2, e1]
  have e4 : rn_wl (rn_whs st w (lN (h * 2 ^ 1 + l / 2 ^ 61))) w = lN l := h2
  rw [e4, e3, e2]
  exact ⟨fr_set _ _ _ _, wk_set (by omega) (by omega) (by omega)⟩
theorem sh2_ok {st : rn_S} {w R c : Nat} (hk : wk st w R) (hc : c < 4) (hR : 4 * R + c < 2 ^ 104) : ∃ t, RW_shift st w 2 (nI c) = t ∧ fr st t w ∧ wk t w (4 * R + c) := by
  obtain ⟨h, l, h1, h2, h3, h4, h5⟩ := hk
  refine ⟨_, rfl, ?_⟩
  have e1 : (lN h <<< ((2 : Int32).toInt64 &&& 63)) ||| (lN l >>> (((62 : Int32) - 2).toInt64 &&& 63)) = lN (h * 2 ^ 2 + l / 2 ^ 60) := lN_hi (i := 2) (j := 60) (by decide) (by decide) (by omega) h4 (by decide) (by decide)
  have e2 : ((lN l <<< ((2 : Int32).toInt64 &&& 63)) &&& (4611686018427387903 : Int64)) ||| lN c = lN (2 ^ 2 * (l % 2 ^ (62 - 2)) + c) := lN_low (i := 2) (by decide) h4 hc (by decide)
  have e3 : (nI c).toInt64 = lN c := nI_l (by omega)
  rw [RW_shift, nm_e0, nm_e0, h1, h2, e1]
  have e4 : rn_wl (rn_whs st w (lN (h * 2 ^ 2 + l / 2 ^ 60))) w = lN l := h2
  rw [e4, e3, e2]
  exact ⟨fr_set _ _ _ _, wk_set (by omega) (by omega) (by omega)⟩
theorem wc_ok (st : rn_S) (w : Nat) : ∃ t, RW_clear st w = t ∧ fr st t w ∧ wk t w 0 := by
  refine ⟨_, rfl, ?_⟩
  rw [RW_clear, nm_e0, nm_e0]
  exact ⟨fr_set _ _ _ _, wk_set (h := 0) (l := 0) (by omega) (by omega) (by omega)⟩
theorem ws_ok {st : rn_S} {w u R : Nat} (hk : wk st u R) : ∃ t, RW_takeSame st w u = t ∧ fr st t w ∧ wk t w R := by
  obtain ⟨h, l, h1, h2, h3, h4, h5⟩ := hk
  refine ⟨_, rfl, ?_⟩
  rw [RW_takeSame, nm_e0, nm_e0, h1]
  have e4 : rn_wl (rn_whs st w (lN h)) u = lN l := h2
  rw [e4]
  exact ⟨fr_set _ _ _ _, wk_set h3 h4 h5⟩
theorem in_ok {st : rn_S} {w R : Nat} (hk : wk st w R) : RW_isNothing st w = if R = 0 then 1 else 0 := by
  obtain ⟨h, l, h1, h2, h3, h4, h5⟩ := hk
  have k1 : (lg_cmp (lN h) 0 = 0) ↔ h = 0 := by rw [lg_cmp_eq]; exact pk_lEQ (b := 0) (by omega) (by omega)
  have k2 : (lg_cmp (lN l) 0 = 0) ↔ l = 0 := by rw [lg_cmp_eq]; exact pk_lEQ (b := 0) (by omega) (by omega)
  rw [RW_isNothing, h1, h2]
  by_cases hh : h = 0
  · by_cases hl : l = 0
    · rw [if_pos (k1.mpr hh), if_pos (k2.mpr hl), if_pos (by omega)]
    · rw [if_pos (k1.mpr hh), if_neg (fun x => hl (k2.mp x)), if_neg (by omega)]
  · rw [if_neg (fun x => hh (k1.mp x)), if_neg (by omega)]
theorem re_ok {st : rn_S} {w u R U : Nat} (hk : wk st w R) (hu : wk st u U) : RW_reaches st w u = if U ≤ R then 1 else 0 := by
  obtain ⟨h, l, h1, h2, h3, h4, h5⟩ := hk
  obtain ⟨g, m, g1, g2, g3, g4, g5⟩ := hu
  have k1 : (0 < lg_cmp (lN h) (lN g)) ↔ g < h := by rw [lg_cmp_gt]; exact pk_lLT (by omega) (by omega)
  have k2 : (lg_cmp (lN h) (lN g) = 0) ↔ h = g := by rw [lg_cmp_eq]; exact pk_lEQ (by omega) (by omega)
  have k3 : (lg_cmp (lN l) (lN m) < 0) ↔ l < m := by rw [lg_cmp_lt]; exact pk_lLT (by omega) (by omega)
  rw [RW_reaches, h1, h2, g1, g2, RW_reaches_36]
  by_cases c1 : g < h
  · rw [if_pos (k1.mpr c1), if_pos (by omega)]
  · rw [if_neg (fun x => c1 (k1.mp x))]
    by_cases c2 : h = g
    · rw [if_pos (k2.mpr c2)]
      by_cases c3 : l < m
      · rw [if_pos (k3.mpr c3), if_neg (by omega)]
      · rw [if_neg (fun x => c3 (k3.mp x)), if_pos (by omega)]
    · rw [if_neg (fun x => c2 (k2.mp x)), if_neg (by omega)]
theorem le_ok {st : rn_S} {w u R U : Nat} (huw : u ≠ w) (hk : wk st w R) (hu : wk st u U) (hUR : U ≤ R) : ∃ t, RW_lessen st w u = t ∧ fr st t w ∧ wk t w (R - U) := by
  obtain ⟨h, l, h1, h2, h3, h4, h5⟩ := hk
  obtain ⟨g, m, g1, g2, g3, g4, g5⟩ := hu
  refine ⟨_, rfl, ?_⟩
  have hg : g ≤ h := by omega
  have e1 : rn_wl (rn_whs st w (lN (h - g))) w = lN l := h2
  have e2 : rn_wl (rn_whs st w (lN (h - g))) u = lN m := g2
  rw [RW_lessen, nm_e0, nm_e0, h1, g1, lN_sub hg, e1, e2]
  by_cases c : m ≤ l
  · rw [lN_sub c, wl_set, if_pos ((ge63 (by omega)).mpr (by omega))]
    exact ⟨fr_set _ _ _ _, wk_set (by omega) (by omega) (by omega)⟩
  · have i1 : (lN l).toInt = l := pk_lT (by omega)
    have i2 : (lN m).toInt = m := pk_lT (by omega)
    have i3 : (lN l - lN m).toInt = (l : Int) - m := by
      rw [ar_lsub (by omega) (by omega), i1, i2]
    have i4 : lN l - lN m + (4611686018427387904 : Int64) = lN (l + 4611686018427387904 - m) := by
      apply Int64.toInt_inj.mp
      have i5 : (4611686018427387904 : Int64).toInt = 4611686018427387904 := by decide
      rw [ar_ladd (by omega) (by omega), i3, i5, pk_lT (by omega)]
      omega
    have i6 : ¬ (0 ≤ lg_cmp (lN l - lN m) 0) := by
      rw [lg_cmp_ge]
      intro hx
      have := Int64.le_iff_toInt_le.mp hx
      rw [i3, show (0 : Int64).toInt = 0 from rfl] at this
      omega
    rw [wl_set, if_neg i6, nm_e0, nm_e0, i4]
    have e3 : ∀ x y z, rn_wh (rn_wls (rn_wls (rn_whs st w x) w y) w z) w = x := fun x y z => pk_uLs
    rw [e3, show (1 : Int64) = lN 1 from rfl, lN_sub (show 1 ≤ h - g by omega)]
    refine ⟨⟨⟨rfl, fun _ _ => ⟨rfl, rfl, rfl, rfl⟩⟩, rfl, fun v hv => ⟨?_, ?_⟩⟩, h - g - 1, l + 4611686018427387904 - m, pk_uLs, pk_uLs, by omega, by omega, by omega⟩
    · exact (pk_uLn hv).trans (pk_uLn hv)
    · exact (pk_uLn hv).trans (pk_uLn hv)
theorem wt_ok {st : rn_S} {w v X : Nat} (hl : ∀ i, i < 3 → 0 ≤ (rn_lb st v i).toInt) (hX : dv B31 (fun i => (rn_lb st v i).toInt.toNat) 3 = X) : ∃ t, RW_take st w v = t ∧ fr st t w ∧ wk t w X := by
  refine ⟨_, rfl, ?_⟩
  have hd : ∀ i, i < 3 → rn_lb st v i = nI (xd (rn_lb st v) i) := fun i hi => nI_of0 (hl i hi)
  have hb : ∀ i, xd (rn_lb st v) i < 2147483648 := fun i => xd_lt i
  have b0 := hb 0
  have b1 := hb 1
  have b2 := hb 2
  have hX2 : xd (rn_lb st v) 0 + 2147483648 * (xd (rn_lb st v) 1 + 2147483648 * (xd (rn_lb st v) 2)) = X := by
    rw [← hX]
    have := dv_split (B := B31) (f := fun i => (rn_lb st v i).toInt.toNat) 1 2
    rw [this, dv_one]
    have := dv_split (B := B31) (f := fun i => (rn_lb st v (1 + i)).toInt.toNat) 1 1
    rw [this, dv_one, dv_one]
    rfl
  generalize hx0 : xd (rn_lb st v) 0 = x0 at *
  generalize hx1 : xd (rn_lb st v) 1 = x1 at *
  generalize hx2 : xd (rn_lb st v) 2 = x2 at *
  have e0 : rn_lb st v 0 = nI x0 := by rw [← hx0]; exact hd 0 (by decide)
  have e1 : rn_lb st v 1 = nI x1 := by rw [← hx1]; exact hd 1 (by decide)
  have e2 : rn_lb st v 2 = nI x2 := by rw [← hx2]; exact hd 2 (by decide)
  have f0 : ∀ a, rn_lb (rn_whs st w a) v = rn_lb st v := fun a => rfl
  rw [RW_take, nm_e0, nm_e0, f0, show (0 : Int32).toNatClampNeg = 0 from rfl, show (1 : Int32).toNatClampNeg = 1 from rfl, show (2 : Int32).toNatClampNeg = 2 from rfl, e0, e1, e2, nI_l (by omega), nI_l (by omega), nI_l (by omega), lN_or (i := 31) (by decide) (by omega) (by omega) (by decide)]
  exact ⟨fr_set _ _ _ _, wk_set (by omega) (by omega) (by omega)⟩
