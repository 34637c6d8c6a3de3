/-! The relation between the class's registers and the reference's -/
def iskind (k : Int32) : Prop := k = 0 ∨ k = 1 ∨ k = 2 ∨ k = 3
def reg3 (st : rn_S) (ms : rm_S) (r p : Nat) (e : Int) (X : Nat) : Prop :=
  (rn_lw st r).toInt + 93 = e ∧ (ms 4 r).toInt = e ∧ -200 ≤ e ∧ e ≤ 200 ∧ 2 ^ 92 ≤ X ∧ X < 2 ^ 93 ∧ X % 2 ^ (93 - p) = 0 ∧ (∀ i, i < 3 → 0 ≤ (rn_lb st r i).toInt) ∧ dv B31 (fun i => (rn_lb st r i).toInt.toNat) 3 = X ∧ ∀ i, i < p → ms 5 (93 * r + i) = nI (X / 2 ^ (92 - i) % 2)
def RelR (st : rn_S) (ms : rm_S) (r p : Nat) : Prop :=
  1 ≤ p ∧ p ≤ 93 ∧ rn_pr st r = nI p ∧ ms 1 r = nI p ∧ rn_kd st r = ms 2 r ∧ rn_sg st r = ms 3 r ∧ iskind (rn_kd st r) ∧ (rn_kd st r = 0 → rn_sg st r = 0) ∧ (rn_kd st r ≠ 0 → issign (rn_sg st r)) ∧ (rn_kd st r = 3 → ∃ e X, reg3 st ms r p e X)
def Rel (st : rn_S) (ms : rm_S) : Prop := ∀ r, r < 8 → ∃ p, RelR st ms r p
/-- a value that may be stored -/
def valok (p : Nat) (k s : Int32) (e : Int) (X : Nat) : Prop :=
  iskind k ∧ (k = 0 → s = 0) ∧ (k ≠ 0 → issign s) ∧ (k = 3 → -200 ≤ e ∧ e ≤ 200 ∧ 2 ^ 92 ≤ X ∧ X < 2 ^ 93 ∧ X % 2 ^ (93 - p) = 0)
theorem rel_put {st t : rn_S} {ms u : rm_S} (hR : Rel st ms) {v p : Nat} (hv : v < 8) (hp : rn_pr st v = nI p) (hp1 : 1 ≤ p) (hp2 : p ≤ 93) {k s : Int32} {e : Int} {X : Nat} (hok : valok p k s e X) (hc : put_c st t v k s e X) (hm : put_m ms u v p k s e X) : Rel t u := by
  obtain ⟨c1, c2, c3, c4, c5⟩ := hc
  obtain ⟨m1, m2, m3, m4, m5⟩ := hm
  intro r hr
  obtain ⟨p1, a1, a2, a3, a4, a5, a6, a7, a8, a9, a10⟩ := hR r hr
  by_cases h : r = v
  · subst h
    have hpp : p1 = p := (nI_eq (by omega) (by omega)).mp (a3.symm.trans hp)
    subst hpp
    obtain ⟨o1, o2, o3, o4⟩ := hok
    refine ⟨p1, hp1, hp2, by rw [c1]; exact hp, by rw [m1]; exact a4, ?_, ?_, ?_, ?_, ?_, ?_⟩
    · rw [c2, m2, upd_same, upd_same]
    · rw [c3, m3, upd_same, upd_same]
    · rw [c2, upd_same]; exact o1
    · rw [c2, c3, upd_same, upd_same]; exact o2
    · rw [c2, c3, upd_same, upd_same]; exact o3
    · rw [c2, upd_same]
      intro hk
      obtain ⟨q1, q2, q3⟩ := c5 hk
      obtain ⟨q4, q5⟩ := m5 hk
      obtain ⟨q6, q7, q8, q9, q10⟩ := o4 hk
      exact ⟨e, X, q1, q4, q6, q7, q8, q9, q10, q2, q3, q5⟩
  · obtain ⟨d1, d2⟩ := c4 r h
    obtain ⟨d3, d4⟩ := m4 r hr h
    refine ⟨p1, a1, a2, by rw [c1]; exact a3, by rw [m1]; exact a4, ?_, ?_, ?_, ?_, ?_, ?_⟩
    · rw [c2, m2, upd_ne h, upd_ne h]; exact a5
    · rw [c3, m3, upd_ne h, upd_ne h]; exact a6
    · rw [c2, upd_ne h]; exact a7
    · rw [c2, c3, upd_ne h, upd_ne h]; exact a8
    · rw [c2, c3, upd_ne h, upd_ne h]; exact a9
    · rw [c2, upd_ne h]
      intro hk
      obtain ⟨e1, X1, b1, b2, b3, b4, b5, b6, b7, b8, b9, b10⟩ := a10 hk
      exact ⟨e1, X1, by rw [d1]; exact b1, by rw [d3]; exact b2, b3, b4, b5, b6, b7, by rw [d2]; exact b8, by rw [d2]; exact b9, fun i hi => by rw [d4 i (by omega)]; exact b10 i hi⟩
/-- the registers alone matter -/
def same_c (st s1 : rn_S) : Prop := rn_pr s1 = rn_pr st ∧ (∀ w, w < 8 → rn_kd s1 w = rn_kd st w ∧ rn_sg s1 w = rn_sg st w ∧ rn_lw s1 w = rn_lw st w ∧ rn_lb s1 w = rn_lb st w)
theorem rel_same {st s1 : rn_S} {ms m1 : rm_S} (hR : Rel st ms) (hc : same_c st s1) (hm : same_m ms m1) : Rel s1 m1 := by
  intro r hr
  obtain ⟨p, a1, a2, a3, a4, a5, a6, a7, a8, a9, a10⟩ := hR r hr
  obtain ⟨c1, c2⟩ := hc
  obtain ⟨k1, k2, k3, k4⟩ := c2 r hr
  obtain ⟨m1', m2, m3, m4, m5⟩ := hm
  refine ⟨p, a1, a2, by rw [c1]; exact a3, by rw [m1']; exact a4, by rw [k1, m2]; exact a5, by rw [k2, m3]; exact a6, by rw [k1]; exact a7, by rw [k1, k2]; exact a8, by rw [k1, k2]; exact a9, ?_⟩
  rw [k1]
  intro hk
  obtain ⟨e1, X1, b1, b2, b3, b4, b5, b6, b7, b8, b9, b10⟩ := a10 hk
  exact ⟨e1, X1, by rw [k3]; exact b1, by rw [m4]; exact b2, b3, b4, b5, b6, b7, by rw [k4]; exact b8, by rw [k4]; exact b9, by rw [m5]; exact b10⟩
/-- the rounding gives values that may be stored -/
theorem sp_ok {p : Nat} (hp1 : 1 ≤ p) (hp2 : p ≤ 93) {mode s : Int32} (hs : issign s) {h : Int} {q : Nat} {m : Bool} (hq1 : 2 ^ p ≤ q) (hq2 : q < 2 ^ (p + 1)) : valok p (sp p mode s h q m).1 s (sp p mode s h q m).2.2.1 (sp p mode s h q m).2.1 := by
  have hp9 : (2 : Nat) ^ p = 2 * 2 ^ (p - 1) := by
    obtain ⟨j, rfl⟩ : ∃ j, p = j + 1 := ⟨p - 1, by omega⟩
    rw [Nat.pow_succ, show j + 1 - 1 = j by omega]
    omega
  have hp8 : (2 : Nat) ^ (p + 1) = 2 * 2 ^ p := by rw [Nat.pow_succ]; omega
  have hpp := p2_pos (p - 1)
  have h92 : (2 : Nat) ^ 92 = 2 ^ (p - 1) * 2 ^ (93 - p) := by rw [← Nat.pow_add, show p - 1 + (93 - p) = 92 by omega]
  have h93 : (2 : Nat) ^ 93 = 2 ^ p * 2 ^ (93 - p) := by rw [← Nat.pow_add, show p + (93 - p) = 93 by omega]
  have h92m : (2 : Nat) ^ 92 % 2 ^ (93 - p) = 0 := by rw [h92]; exact Nat.mul_mod_left _ _
  have hNle : sp_N p mode s h q m ≤ 2 ^ p ∧ 2 ^ (p - 1) ≤ sp_N p mode s h q m := by
    unfold sp_N
    have hb : (sp_up p mode s h q m).toNat ≤ 1 := Bool.toNat_le _
    omega
  unfold sp
  by_cases c1 : 200 < sp_e p mode s h q m
  · rw [if_pos c1]
    by_cases c2 : mode = 0 ∨ sp_gr mode s = true
    · rw [if_pos c2]
      show valok p 1 s 0 0
      exact ⟨Or.inr (Or.inl rfl), fun h9 => absurd h9 (by decide), fun _ => hs, fun h9 => absurd h9 (by decide)⟩
    · rw [if_neg c2]
      show valok p 3 s 200 ((2 ^ p - 1) * 2 ^ (93 - p))
      refine ⟨Or.inr (Or.inr (Or.inr rfl)), fun h9 => absurd h9 (by decide), fun _ => hs, fun _ => ⟨by omega, by omega, ?_, ?_, Nat.mul_mod_left _ _⟩⟩
      · rw [h92]
        exact Nat.mul_le_mul_right _ (by omega)
      · rw [h93]
        exact Nat.mul_lt_mul_of_pos_right (by omega) (p2_pos _)
  · rw [if_neg c1]
    by_cases c2 : sp_e p mode s h q m < -200
    · rw [if_pos c2]
      by_cases c3 : sp_zero p mode s h q m = true
      · rw [if_pos c3]
        show valok p 2 s 0 0
        exact ⟨Or.inr (Or.inr (Or.inl rfl)), fun h9 => absurd h9 (by decide), fun _ => hs, fun h9 => absurd h9 (by decide)⟩
      · rw [if_neg c3]
        show valok p 3 s (-200) (2 ^ 92)
        exact ⟨Or.inr (Or.inr (Or.inr rfl)), fun h9 => absurd h9 (by decide), fun _ => hs, fun _ => ⟨by omega, by omega, Nat.le_refl _, p2_lt (by decide), h92m⟩⟩
    · rw [if_neg c2]
      show valok p 3 s (sp_e p mode s h q m) (if sp_N p mode s h q m = 2 ^ p then 2 ^ 92 else sp_N p mode s h q m * 2 ^ (93 - p))
      refine ⟨Or.inr (Or.inr (Or.inr rfl)), fun h9 => absurd h9 (by decide), fun _ => hs, fun _ => ⟨by omega, by omega, ?_⟩⟩
      by_cases hN : sp_N p mode s h q m = 2 ^ p
      · rw [if_pos hN]
        exact ⟨Nat.le_refl _, p2_lt (by decide), h92m⟩
      · rw [if_neg hN]
        refine ⟨?_, ?_, Nat.mul_mod_left _ _⟩
        · rw [h92]
          exact Nat.mul_le_mul_right _ hNle.2
        · rw [h93]
          exact Nat.mul_lt_mul_of_pos_right (Nat.lt_of_le_of_ne hNle.1 hN) (p2_pos _)
/-- both sides round alike -/
theorem both_round {st : rn_S} {ms : rm_S} (hR : Rel st ms) {v : Nat} (hv : v < 8) {s mode : Int32} (hs : issign s) (hm : ismode mode) (hok : ok33 (rn_ex st)) (hb : isb (ms 6)) {T h : Nat} (hT : hb_at (xv (rn_ex st)) T) (hh : hb_at (rv (ms 6)) h) (h1 : 95 ≤ T) (h2 : T ≤ 1000) (h3 : 94 ≤ h) (h4 : h < 1024) (hTh : (T : Int) - 589 = (h : Int) - 600)
    (hq : ∀ p, 1 ≤ p → p ≤ 93 → xv (rn_ex st) / 2 ^ (T - p) = rv (ms 6) / 2 ^ (h - p) ∧ (xv (rn_ex st) % 2 ^ (T - p) = 0 ↔ rv (ms 6) % 2 ^ (h - p) = 0)) :
    ∃ o t u, RN_storeExact st (nI v) s mode = (o, t) ∧ RM_round ms (nI v) s mode = some (o, u) ∧ Rel t u := by
  obtain ⟨p, a1, a2, a3, a4, -⟩ := hR v hv
  obtain ⟨hq1, hq2⟩ := hq p a1 a2
  have hmm : decide (rv (ms 6) % 2 ^ (h - p) ≠ 0) = decide (xv (rn_ex st) % 2 ^ (T - p) ≠ 0) := by
    apply decide_eq_decide.mpr
    exact not_congr hq2.symm
  obtain ⟨t, b1, b2⟩ := cl_exact hok (d := nI v) (nI_clamp (by omega)) a3 a1 a2 hs hm hT h1 h2 rfl rfl
  obtain ⟨u, c1, c2⟩ := md_round hv a4 a1 a2 hs hm hb hh h3 h4 hq1.symm hmm
  rw [← hTh] at c1 c2
  have hqb := q_bnd hT (show p ≤ T by omega)
  exact ⟨_, t, u, b1, c1, rel_put hR hv a3 a1 a2 (sp_ok a1 a2 hs hqb.1 hqb.2) b2 c2⟩
/-- nothing to round: storePlain and keep -/
theorem both_plain {st : rn_S} {ms : rm_S} (hR : Rel st ms) {v : Nat} (hv : v < 8) {k s : Int32} (hk : k = 0 ∨ k = 1 ∨ k = 2) (hs : k ≠ 0 → issign s) :
    ∃ t u, RN_storePlain st (nI v) k s = (0, t) ∧ RM_keep ms (nI v) k s = some (0, u) ∧ Rel t u := by
  obtain ⟨p, a1, a2, a3, a4, -⟩ := hR v hv
  have hk3 : k ≠ 3 := by rcases hk with h | h | h <;> rw [h] <;> decide
  have hik : iskind k := by
    rcases hk with h | h | h
    · exact Or.inl h
    · exact Or.inr (Or.inl h)
    · exact Or.inr (Or.inr (Or.inl h))
  have e1 : RN_storePlain st (nI v) k s = (0, RV_become st v k (if k = 0 then 0 else s)) := by
    unfold RN_storePlain RN_storePlain_16
    rw [nI_clamp (by omega)]
    by_cases h0 : k = 0
    · rw [if_pos h0, if_pos h0, nm_e0]
    · rw [if_neg h0, if_neg h0, nm_e0]
  have e2 : RM_keep ms (nI v) k s = some (0, rm_up (rm_up ms 2 v k) 3 v (if k = 0 then 0 else s)) := by
    unfold RM_keep RM_keep_21
    rw [if_pos (ob_nI hv (by decide)), nm_e0, nI_clamp (by omega)]
    by_cases h0 : k = 0
    · rw [if_pos h0, if_pos h0, if_pos (ob_nI hv (by decide)), nm_e0]
    · rw [if_neg h0, if_neg h0, if_pos (ob_nI hv (by decide)), nm_e0]
  refine ⟨_, _, e1, e2, rel_put hR hv a3 a1 a2 (k := k) (s := if k = 0 then 0 else s) (e := 0) (X := 0) ⟨hik, fun h => by rw [if_pos h], fun h => by rw [if_neg h]; exact hs h, fun h => absurd h hk3⟩ ⟨rfl, rfl, rfl, fun w _ => ⟨rfl, rfl⟩, fun h => absurd h hk3⟩ ⟨rfl, rfl, rfl, fun w _ _ => ⟨rfl, fun i _ => rfl⟩, fun h => absurd h hk3⟩⟩
