/-! fma: alike -/
def fm_tail (ms : rm_S) (v x y z : Nat) (mode k9 s9 : Int32) : Option (Int32 × rm_S) := (if k9 = 0 then RM_fma_106 (nI v) ms else (if ms 2 z = 0 then RM_fma_106 (nI v) ms else (if k9 = (1 : Int32) then (if ms 2 z = (1 : Int32) then (if s9 = ms 3 z then RM_fma_114 (nI v) (nI x) (nI y) (nI z) mode k9 (ms 2 z) s9 ms else RM_fma_106 (nI v) ms) else RM_fma_114 (nI v) (nI x) (nI y) (nI z) mode k9 (ms 2 z) s9 ms) else RM_fma_114 (nI v) (nI x) (nI y) (nI z) mode k9 (ms 2 z) s9 ms)))
theorem both_fma {st : rn_S} {ms : rm_S} (hR : Rel st ms) {v x y z : Nat} (hv : v < 8) (hx : x < 8) (hy : y < 8) (hz : z < 8) {mode : Int32} (hm : ismode mode) :
    ∃ o t u, RN_storeSum (RV_takeProduct st 9 x y) (nI v) 9 z (rn_sg (RV_takeProduct st 9 x y) z) mode = (o, t) ∧ fm_tail ms v x y z mode (RN_productKind (rn_kd st x) (rn_kd st y)) (rn_sg st x * rn_sg st y) = some (o, u) ∧ Rel t u := by
  obtain ⟨t9, e9, hsm, hk9, hs9, ik9, is9, h93⟩ := prod9 hR hx hy
  rw [e9, ← hk9, ← hs9]
  have hR9 : Rel t9 ms := rel_same hR hsm ⟨rfl, rfl, rfl, rfl, rfl⟩
  obtain ⟨p', b1, b2, b3, b4, b5, b6, b7, b8, b9, b10⟩ := hR9 z hz
  have hoz : ob_in (nI z) 8 = true := ob_nI hz (by decide)
  have hcz : (nI z).toNatClampNeg = z := nI_clamp (by omega)
  have plain : ∀ k s : Int32, (k = 0 ∨ k = 1 ∨ k = 2) → (k ≠ 0 → issign s) → ∃ o t u, RN_storePlain t9 (nI v) k s = (o, t) ∧ RM_keep ms (nI v) k s = some (o, u) ∧ Rel t u := fun k s hk hs => by
    obtain ⟨t, u, r1, r2, r3⟩ := both_plain hR9 hv hk hs
    exact ⟨0, t, u, r1, r2, r3⟩
  unfold fm_tail
  by_cases x0 : rn_kd t9 9 = 0
  · simp only [RN_storeSum, RN_storeSum_14, x0, if_true, bd_id, RM_fma_106, ob2_id]
    exact plain 0 0 (Or.inl rfl) (fun h => absurd rfl h)
  · by_cases y0 : rn_kd t9 z = 0
    · have y0' : ms 2 z = 0 := b5 ▸ y0
      simp only [RN_storeSum, RN_storeSum_14, x0, y0, y0', if_true, if_false, bd_id, RM_fma_106, ob2_id]
      exact plain 0 0 (Or.inl rfl) (fun h => absurd rfl h)
    · have y0' : ¬ ms 2 z = 0 := b5 ▸ y0
      have sx := is9 x0
      have sy := b9 y0
      by_cases x1 : rn_kd t9 9 = 1
      · by_cases y1 : rn_kd t9 z = 1
        · have y1' : ms 2 z = 1 := b5 ▸ y1
          by_cases he : rn_sg t9 9 = rn_sg t9 z
          · have he' : rn_sg t9 9 = ms 3 z := b6 ▸ he
            simp only [RN_storeSum, RN_storeSum_55, RN_storeSum_71, RN_storeSum_91, x1, y1, y1', k10, he', b6, if_true, if_false, bd_id, RM_fma_114, RM_fma_126, RM_fma_147, ob2_id]
            exact plain 1 (ms 3 z) (Or.inr (Or.inl rfl)) (fun _ => b6 ▸ sy)
          · have he' : ¬ rn_sg t9 9 = ms 3 z := b6 ▸ he
            simp only [RN_storeSum, x1, y1, y1', k10, he', b6, if_true, if_false, bd_id, RM_fma_106, ob2_id]
            exact plain 0 0 (Or.inl rfl) (fun h => absurd rfl h)
        · have y1' : ¬ ms 2 z = 1 := b5 ▸ y1
          simp only [RN_storeSum, RN_storeSum_55, RN_storeSum_71, RN_storeSum_91, x1, y0, y1, y0', y1', k10, if_true, if_false, bd_id, RM_fma_114, RM_fma_126, RM_fma_147, ob2_id]
          exact plain 1 _ (Or.inr (Or.inl rfl)) (fun _ => sx)
      · by_cases y1 : rn_kd t9 z = 1
        · have y1' : ms 2 z = 1 := b5 ▸ y1
          simp only [RN_storeSum, RN_storeSum_55, RN_storeSum_71, RN_storeSum_91, x0, x1, y1, y1', k10, if_true, if_false, bd_id, RM_fma_114, RM_fma_126, RM_fma_147, hoz, hcz, ob2_id, b6]
          exact plain 1 _ (Or.inr (Or.inl rfl)) (fun _ => b6 ▸ sy)
        · have y1' : ¬ ms 2 z = 1 := b5 ▸ y1
          sorry
