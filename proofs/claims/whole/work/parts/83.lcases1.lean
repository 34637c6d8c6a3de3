set_option maxHeartbeats 4000000 in
set_option maxRecDepth 100000 in
theorem lc_0 {p : Program} {l : Launch} {e : Env} {s : State} {m : MethodId} {below : List Frame} {meth : Method} {c : Code} {b L : Nat} {xs : Nat → Int32} {D : va_G} {a b2 : Nat → Nat} {ci co cm : ClassId} (C : lw_ctx p s m c b L xs D a b2 ci co cm) (hL : L ≤ 3073) {Q : State → Prop} {st : rn_S} {ms : rm_S} {k : Nat} (hk : k + 6 ≤ L) {ls : Array Slot} {H : Heap} {locs : List Loc} (hl : lv_has ls 4 [(3, .int (nI k)), (2, .ref (b2 0)), (1, .ref (a 0)), (0, .ref b)]) (hPa : va_P D vwCl (rn_g a ci co st) H) (hPb : va_P D vwCl (rm_g b2 cm ms) H) (hS : va_S (fun q => s.heap.size ≤ q) s.heap H locs) {r : Int32} {t : rn_S} {u : rm_S} (e1 : RN_setPrec st ((xs (k + 1))) ((xs (k + 2))) = (r, t)) (e2 : RM_setPrec ms ((xs (k + 1))) ((xs (k + 2))) = some (r, u))
    (kk : ∀ (H1 : Heap) (locs1 : List Loc), va_P D vwCl (rn_g a ci co t) H1 → va_P D vwCl (rm_g b2 cm u) H1 → va_S (fun q => s.heap.size ≤ q) s.heap H1 locs1 → W p l e room_1 s m #[Value.ref b] below meth c H1 locs1 39 3283 Q (F0 m 856 ls [])) : W p l e room_1 s m #[Value.ref b] below meth c H locs 39 3283 Q (F0 m 124 ls []) := by
  obtain ⟨hx, hb, hml, hown, hts, hX, hbl, hK, hK2, hN, hi, hi2, hA1, hB1, hdis⟩ := C
  have hown : s.vm.findClass "RoundedNumbersLaw" = some m.cls := hown
  have ht2 := lw_t2 hts
  refine lv_aload_n hx hb dl_124 rfl (lv_at hl 2 rfl) ?_
  refine lv_aload_n hx hb dl_125 rfl (lv_at hl 3 rfl) ?_
  refine lv_iload_n hx hb dl_126 rfl (lv_at hl 0 rfl) ?_
  refine lv_iconst (v := 1) hx hb dl_127 (by decide) ?_
  refine lv_iadd hx hb dl_128 ?_
  refine lw_ld hx hb hX hbl hS (j := 1) rfl (by omega) (by omega) dl_129 ?_
  refine lv_aload_n hx hb dl_130 rfl (lv_at hl 3 rfl) ?_
  refine lv_iload_n hx hb dl_131 rfl (lv_at hl 0 rfl) ?_
  refine lv_iconst (v := 2) hx hb dl_132 (by decide) ?_
  refine lv_iadd hx hb dl_133 ?_
  refine lw_ld hx hb hX hbl hS (j := 2) rfl (by omega) (by omega) dl_134 ?_
  refine lw_ci (va_runV (As := [.int (xs (k + 1)), .int (xs (k + 2))]) (rest := []) ⟨hx, hb, hml, hown, ht2⟩ (c_RN_setPrec l (D := D) a ci co hi st ((xs (k + 1))) ((xs (k + 2))) r t e1 _) (kc_LL_21 ht2 ⟨by decide, by decide⟩) ⟨ct_blind, rn_rc0 hK hPa, ct_ok hPa hK hN⟩ rfl rfl hl.1 rfl (lv_room (Nat.le_of_ble_eq_true rfl)) dl_135 ⟨by decide, by decide⟩) (lw_xa hA1) hPb (lw_da hdis) hS (fun H locs hPa hPb hS => ?_)
  refine lv_aload_n hx hb dl_138 rfl (lv_at hl 1 rfl) ?_
  refine lv_aload_n hx hb dl_139 rfl (lv_at hl 3 rfl) ?_
  refine lv_iload_n hx hb dl_140 rfl (lv_at hl 0 rfl) ?_
  refine lv_iconst (v := 1) hx hb dl_141 (by decide) ?_
  refine lv_iadd hx hb dl_142 ?_
  refine lw_ld hx hb hX hbl hS (j := 1) rfl (by omega) (by omega) dl_143 ?_
  refine lv_aload_n hx hb dl_144 rfl (lv_at hl 3 rfl) ?_
  refine lv_iload_n hx hb dl_145 rfl (lv_at hl 0 rfl) ?_
  refine lv_iconst (v := 2) hx hb dl_146 (by decide) ?_
  refine lv_iadd hx hb dl_147 ?_
  refine lw_ld hx hb hX hbl hS (j := 2) rfl (by omega) (by omega) dl_148 ?_
  refine lw_ci (va_runV (As := [.int (xs (k + 1)), .int (xs (k + 2))]) (rest := [.int r]) ⟨hx, hb, hml, hown, ht2⟩ (c_RM_setPrec l (D := D) b2 cm hi2 ms ((xs (k + 1))) ((xs (k + 2))) r u e2 _) (kc_LL_25 ht2 ⟨by decide, by decide⟩) ⟨ct_blind, rm_rc hK2 hPb, ct_ok hPb hK2 hN⟩ rfl rfl hl.1 rfl (lv_room (Nat.le_of_ble_eq_true rfl)) dl_149 ⟨by decide, by decide⟩) (lw_xb hB1) hPa (lw_db hdis) hS (fun H locs hPb hPa hS => ?_)
  exact lv_icmp_eq hx hb dl_152 (tgt := 856) (by decide) (fun _ => kk H locs hPa hPb hS) (fun h => absurd rfl h)
set_option maxHeartbeats 4000000 in
set_option maxRecDepth 100000 in
theorem lc_1 {p : Program} {l : Launch} {e : Env} {s : State} {m : MethodId} {below : List Frame} {meth : Method} {c : Code} {b L : Nat} {xs : Nat → Int32} {D : va_G} {a b2 : Nat → Nat} {ci co cm : ClassId} (C : lw_ctx p s m c b L xs D a b2 ci co cm) (hL : L ≤ 3073) {Q : State → Prop} {st : rn_S} {ms : rm_S} {k : Nat} (hk : k + 6 ≤ L) {ls : Array Slot} {H : Heap} {locs : List Loc} (hl : lv_has ls 4 [(3, .int (nI k)), (2, .ref (b2 0)), (1, .ref (a 0)), (0, .ref b)]) (hPa : va_P D vwCl (rn_g a ci co st) H) (hPb : va_P D vwCl (rm_g b2 cm ms) H) (hS : va_S (fun q => s.heap.size ≤ q) s.heap H locs) {r : Int32} {t : rn_S} {u : rm_S} (e1 : RN_loadInt st ((xs (k + 1))) ((xs (k + 2))) ((xs (k + 3))) = (r, t)) (e2 : RM_loadInt ms ((xs (k + 1))) ((xs (k + 2))) ((xs (k + 3))) = some (r, u))
    (kk : ∀ (H1 : Heap) (locs1 : List Loc), va_P D vwCl (rn_g a ci co t) H1 → va_P D vwCl (rm_g b2 cm u) H1 → va_S (fun q => s.heap.size ≤ q) s.heap H1 locs1 → W p l e room_1 s m #[Value.ref b] below meth c H1 locs1 39 3283 Q (F0 m 856 ls [])) : W p l e room_1 s m #[Value.ref b] below meth c H locs 39 3283 Q (F0 m 157 ls []) := by
  obtain ⟨hx, hb, hml, hown, hts, hX, hbl, hK, hK2, hN, hi, hi2, hA1, hB1, hdis⟩ := C
  have hown : s.vm.findClass "RoundedNumbersLaw" = some m.cls := hown
  have ht2 := lw_t2 hts
  refine lv_aload_n hx hb dl_157 rfl (lv_at hl 2 rfl) ?_
  refine lv_aload_n hx hb dl_158 rfl (lv_at hl 3 rfl) ?_
  refine lv_iload_n hx hb dl_159 rfl (lv_at hl 0 rfl) ?_
  refine lv_iconst (v := 1) hx hb dl_160 (by decide) ?_
  refine lv_iadd hx hb dl_161 ?_
  refine lw_ld hx hb hX hbl hS (j := 1) rfl (by omega) (by omega) dl_162 ?_
  refine lv_aload_n hx hb dl_163 rfl (lv_at hl 3 rfl) ?_
  refine lv_iload_n hx hb dl_164 rfl (lv_at hl 0 rfl) ?_
  refine lv_iconst (v := 2) hx hb dl_165 (by decide) ?_
  refine lv_iadd hx hb dl_166 ?_
  refine lw_ld hx hb hX hbl hS (j := 2) rfl (by omega) (by omega) dl_167 ?_
  refine lv_aload_n hx hb dl_168 rfl (lv_at hl 3 rfl) ?_
  refine lv_iload_n hx hb dl_169 rfl (lv_at hl 0 rfl) ?_
  refine lv_iconst (v := 3) hx hb dl_170 (by decide) ?_
  refine lv_iadd hx hb dl_171 ?_
  refine lw_ld hx hb hX hbl hS (j := 3) rfl (by omega) (by omega) dl_172 ?_
  refine lw_ci (va_runV (As := [.int (xs (k + 1)), .int (xs (k + 2)), .int (xs (k + 3))]) (rest := []) ⟨hx, hb, hml, hown, ht2⟩ (c_RN_loadInt l (D := D) a ci co hi st ((xs (k + 1))) ((xs (k + 2))) ((xs (k + 3))) r t e1 _) (kc_LL_26 ht2 ⟨by decide, by decide⟩) ⟨ct_blind, rn_rc0 hK hPa, ct_ok hPa hK hN⟩ rfl rfl hl.1 rfl (lv_room (Nat.le_of_ble_eq_true rfl)) dl_173 ⟨by decide, by decide⟩) (lw_xa hA1) hPb (lw_da hdis) hS (fun H locs hPa hPb hS => ?_)
  refine lv_aload_n hx hb dl_176 rfl (lv_at hl 1 rfl) ?_
  refine lv_aload_n hx hb dl_177 rfl (lv_at hl 3 rfl) ?_
  refine lv_iload_n hx hb dl_178 rfl (lv_at hl 0 rfl) ?_
  refine lv_iconst (v := 1) hx hb dl_179 (by decide) ?_
  refine lv_iadd hx hb dl_180 ?_
  refine lw_ld hx hb hX hbl hS (j := 1) rfl (by omega) (by omega) dl_181 ?_
  refine lv_aload_n hx hb dl_182 rfl (lv_at hl 3 rfl) ?_
  refine lv_iload_n hx hb dl_183 rfl (lv_at hl 0 rfl) ?_
  refine lv_iconst (v := 2) hx hb dl_184 (by decide) ?_
  refine lv_iadd hx hb dl_185 ?_
  refine lw_ld hx hb hX hbl hS (j := 2) rfl (by omega) (by omega) dl_186 ?_
  refine lv_aload_n hx hb dl_187 rfl (lv_at hl 3 rfl) ?_
  refine lv_iload_n hx hb dl_188 rfl (lv_at hl 0 rfl) ?_
  refine lv_iconst (v := 3) hx hb dl_189 (by decide) ?_
  refine lv_iadd hx hb dl_190 ?_
  refine lw_ld hx hb hX hbl hS (j := 3) rfl (by omega) (by omega) dl_191 ?_
  refine lw_ci (va_runV (As := [.int (xs (k + 1)), .int (xs (k + 2)), .int (xs (k + 3))]) (rest := [.int r]) ⟨hx, hb, hml, hown, ht2⟩ (c_RM_loadInt l (D := D) b2 cm hi2 ms ((xs (k + 1))) ((xs (k + 2))) ((xs (k + 3))) r u e2 _) (kc_LL_30 ht2 ⟨by decide, by decide⟩) ⟨ct_blind, rm_rc hK2 hPb, ct_ok hPb hK2 hN⟩ rfl rfl hl.1 rfl (lv_room (Nat.le_of_ble_eq_true rfl)) dl_192 ⟨by decide, by decide⟩) (lw_xb hB1) hPa (lw_db hdis) hS (fun H locs hPb hPa hS => ?_)
  exact lv_icmp_eq hx hb dl_195 (tgt := 856) (by decide) (fun _ => kk H locs hPa hPb hS) (fun h => absurd rfl h)
set_option maxHeartbeats 4000000 in
set_option maxRecDepth 100000 in
theorem lc_2 {p : Program} {l : Launch} {e : Env} {s : State} {m : MethodId} {below : List Frame} {meth : Method} {c : Code} {b L : Nat} {xs : Nat → Int32} {D : va_G} {a b2 : Nat → Nat} {ci co cm : ClassId} (C : lw_ctx p s m c b L xs D a b2 ci co cm) (hL : L ≤ 3073) {Q : State → Prop} {st : rn_S} {ms : rm_S} {k : Nat} (hk : k + 6 ≤ L) {ls : Array Slot} {H : Heap} {locs : List Loc} (hl : lv_has ls 4 [(3, .int (nI k)), (2, .ref (b2 0)), (1, .ref (a 0)), (0, .ref b)]) (hPa : va_P D vwCl (rn_g a ci co st) H) (hPb : va_P D vwCl (rm_g b2 cm ms) H) (hS : va_S (fun q => s.heap.size ≤ q) s.heap H locs) {r : Int32} {t : rn_S} {u : rm_S} (e1 : RN_loadScaled st ((xs (k + 1))) (((((xs (k + 2)).toInt64) <<< ((32 : Int32).toInt64 &&& 63)) ||| (((xs (k + 3)).toInt64) &&& 4294967295))) ((xs (k + 4))) ((xs (k + 5))) = (r, t)) (e2 : RM_loadScaled ms ((xs (k + 1))) (((((xs (k + 2)).toInt64) <<< ((32 : Int32).toInt64 &&& 63)) ||| (((xs (k + 3)).toInt64) &&& 4294967295))) ((xs (k + 4))) ((xs (k + 5))) = some (r, u))
    (kk : ∀ (H1 : Heap) (locs1 : List Loc), va_P D vwCl (rn_g a ci co t) H1 → va_P D vwCl (rm_g b2 cm u) H1 → va_S (fun q => s.heap.size ≤ q) s.heap H1 locs1 → W p l e room_1 s m #[Value.ref b] below meth c H1 locs1 39 3283 Q (F0 m 856 ls [])) : W p l e room_1 s m #[Value.ref b] below meth c H locs 39 3283 Q (F0 m 200 ls []) := by
  obtain ⟨hx, hb, hml, hown, hts, hX, hbl, hK, hK2, hN, hi, hi2, hA1, hB1, hdis⟩ := C
  have hown : s.vm.findClass "RoundedNumbersLaw" = some m.cls := hown
  have ht2 := lw_t2 hts
  refine lv_aload_n hx hb dl_200 rfl (lv_at hl 2 rfl) ?_
  refine lv_aload_n hx hb dl_201 rfl (lv_at hl 3 rfl) ?_
  refine lv_iload_n hx hb dl_202 rfl (lv_at hl 0 rfl) ?_
  refine lv_iconst (v := 1) hx hb dl_203 (by decide) ?_
  refine lv_iadd hx hb dl_204 ?_
  refine lw_ld hx hb hX hbl hS (j := 1) rfl (by omega) (by omega) dl_205 ?_
  refine lv_aload_n hx hb dl_206 rfl (lv_at hl 3 rfl) ?_
  refine lv_iload_n hx hb dl_207 rfl (lv_at hl 0 rfl) ?_
  refine lv_iconst (v := 2) hx hb dl_208 (by decide) ?_
  refine lv_iadd hx hb dl_209 ?_
  refine lw_ld hx hb hX hbl hS (j := 2) rfl (by omega) (by omega) dl_210 ?_
  refine lv_i2l hx hb dl_211 rfl ?_
  refine lv_bipush (v := 32) hx hb dl_212 (by decide) ?_
  refine lv_lshl hx hb dl_214 rfl ?_
  refine lv_aload_n hx hb dl_215 rfl (lv_at hl 3 rfl) ?_
  refine lv_iload_n hx hb dl_216 rfl (lv_at hl 0 rfl) ?_
  refine lv_iconst (v := 3) hx hb dl_217 (by decide) ?_
  refine lv_iadd hx hb dl_218 ?_
  refine lw_ld hx hb hX hbl hS (j := 3) rfl (by omega) (by omega) dl_219 ?_
  refine lv_i2l hx hb dl_220 rfl ?_
  refine lv_ldc2 (v := 4294967295) hx hb hown (ht2 _ (List.mem_cons_of_mem _ mw_406)) dl_221 ?_
  refine lv_land hx hb dl_224 ?_
  refine lv_lor hx hb dl_225 ?_
  refine lv_aload_n hx hb dl_226 rfl (lv_at hl 3 rfl) ?_
  refine lv_iload_n hx hb dl_227 rfl (lv_at hl 0 rfl) ?_
  refine lv_iconst (v := 4) hx hb dl_228 (by decide) ?_
  refine lv_iadd hx hb dl_229 ?_
  refine lw_ld hx hb hX hbl hS (j := 4) rfl (by omega) (by omega) dl_230 ?_
  refine lv_aload_n hx hb dl_231 rfl (lv_at hl 3 rfl) ?_
  refine lv_iload_n hx hb dl_232 rfl (lv_at hl 0 rfl) ?_
  refine lv_iconst (v := 5) hx hb dl_233 (by decide) ?_
  refine lv_iadd hx hb dl_234 ?_
  refine lw_ld hx hb hX hbl hS (j := 5) rfl (by omega) (by omega) dl_235 ?_
  refine lw_ci (va_runV (As := [.int (xs (k + 1)), .long ((((xs (k + 2)).toInt64) <<< ((32 : Int32).toInt64 &&& 63)) ||| (((xs (k + 3)).toInt64) &&& 4294967295)), .int (xs (k + 4)), .int (xs (k + 5))]) (rest := []) ⟨hx, hb, hml, hown, ht2⟩ (c_RN_loadScaled l (D := D) a ci co hi st ((xs (k + 1))) (((((xs (k + 2)).toInt64) <<< ((32 : Int32).toInt64 &&& 63)) ||| (((xs (k + 3)).toInt64) &&& 4294967295))) ((xs (k + 4))) ((xs (k + 5))) r t e1 _) (kc_LL_33 ht2 ⟨by decide, by decide⟩) ⟨ct_blind, rn_rc0 hK hPa, ct_ok hPa hK hN⟩ rfl rfl hl.1 rfl (lv_room (Nat.le_of_ble_eq_true rfl)) dl_236 ⟨by decide, by decide⟩) (lw_xa hA1) hPb (lw_da hdis) hS (fun H locs hPa hPb hS => ?_)
  refine lv_aload_n hx hb dl_239 rfl (lv_at hl 1 rfl) ?_
  refine lv_aload_n hx hb dl_240 rfl (lv_at hl 3 rfl) ?_
  refine lv_iload_n hx hb dl_241 rfl (lv_at hl 0 rfl) ?_
  refine lv_iconst (v := 1) hx hb dl_242 (by decide) ?_
  refine lv_iadd hx hb dl_243 ?_
  refine lw_ld hx hb hX hbl hS (j := 1) rfl (by omega) (by omega) dl_244 ?_
  refine lv_aload_n hx hb dl_245 rfl (lv_at hl 3 rfl) ?_
  refine lv_iload_n hx hb dl_246 rfl (lv_at hl 0 rfl) ?_
  refine lv_iconst (v := 2) hx hb dl_247 (by decide) ?_
  refine lv_iadd hx hb dl_248 ?_
  refine lw_ld hx hb hX hbl hS (j := 2) rfl (by omega) (by omega) dl_249 ?_
  refine lv_i2l hx hb dl_250 rfl ?_
  refine lv_bipush (v := 32) hx hb dl_251 (by decide) ?_
  refine lv_lshl hx hb dl_253 rfl ?_
  refine lv_aload_n hx hb dl_254 rfl (lv_at hl 3 rfl) ?_
  refine lv_iload_n hx hb dl_255 rfl (lv_at hl 0 rfl) ?_
  refine lv_iconst (v := 3) hx hb dl_256 (by decide) ?_
  refine lv_iadd hx hb dl_257 ?_
  refine lw_ld hx hb hX hbl hS (j := 3) rfl (by omega) (by omega) dl_258 ?_
  refine lv_i2l hx hb dl_259 rfl ?_
  refine lv_ldc2 (v := 4294967295) hx hb hown (ht2 _ (List.mem_cons_of_mem _ mw_406)) dl_260 ?_
  refine lv_land hx hb dl_263 ?_
  refine lv_lor hx hb dl_264 ?_
  refine lv_aload_n hx hb dl_265 rfl (lv_at hl 3 rfl) ?_
  refine lv_iload_n hx hb dl_266 rfl (lv_at hl 0 rfl) ?_
  refine lv_iconst (v := 4) hx hb dl_267 (by decide) ?_
  refine lv_iadd hx hb dl_268 ?_
  refine lw_ld hx hb hX hbl hS (j := 4) rfl (by omega) (by omega) dl_269 ?_
  refine lv_aload_n hx hb dl_270 rfl (lv_at hl 3 rfl) ?_
  refine lv_iload_n hx hb dl_271 rfl (lv_at hl 0 rfl) ?_
  refine lv_iconst (v := 5) hx hb dl_272 (by decide) ?_
  refine lv_iadd hx hb dl_273 ?_
  refine lw_ld hx hb hX hbl hS (j := 5) rfl (by omega) (by omega) dl_274 ?_
  refine lw_ci (va_runV (As := [.int (xs (k + 1)), .long ((((xs (k + 2)).toInt64) <<< ((32 : Int32).toInt64 &&& 63)) ||| (((xs (k + 3)).toInt64) &&& 4294967295)), .int (xs (k + 4)), .int (xs (k + 5))]) (rest := [.int r]) ⟨hx, hb, hml, hown, ht2⟩ (c_RM_loadScaled l (D := D) b2 cm hi2 ms ((xs (k + 1))) (((((xs (k + 2)).toInt64) <<< ((32 : Int32).toInt64 &&& 63)) ||| (((xs (k + 3)).toInt64) &&& 4294967295))) ((xs (k + 4))) ((xs (k + 5))) r u e2 _) (kc_LL_37 ht2 ⟨by decide, by decide⟩) ⟨ct_blind, rm_rc hK2 hPb, ct_ok hPb hK2 hN⟩ rfl rfl hl.1 rfl (lv_room (Nat.le_of_ble_eq_true rfl)) dl_275 ⟨by decide, by decide⟩) (lw_xb hB1) hPa (lw_db hdis) hS (fun H locs hPb hPa hS => ?_)
  exact lv_icmp_eq hx hb dl_278 (tgt := 856) (by decide) (fun _ => kk H locs hPa hPb hS) (fun h => absurd rfl h)
set_option maxHeartbeats 4000000 in
set_option maxRecDepth 100000 in
theorem lc_3 {p : Program} {l : Launch} {e : Env} {s : State} {m : MethodId} {below : List Frame} {meth : Method} {c : Code} {b L : Nat} {xs : Nat → Int32} {D : va_G} {a b2 : Nat → Nat} {ci co cm : ClassId} (C : lw_ctx p s m c b L xs D a b2 ci co cm) (hL : L ≤ 3073) {Q : State → Prop} {st : rn_S} {ms : rm_S} {k : Nat} (hk : k + 6 ≤ L) {ls : Array Slot} {H : Heap} {locs : List Loc} (hl : lv_has ls 4 [(3, .int (nI k)), (2, .ref (b2 0)), (1, .ref (a 0)), (0, .ref b)]) (hPa : va_P D vwCl (rn_g a ci co st) H) (hPb : va_P D vwCl (rm_g b2 cm ms) H) (hS : va_S (fun q => s.heap.size ≤ q) s.heap H locs) {r : Int32} {t : rn_S} {u : rm_S} (e1 : RN_copy st ((xs (k + 1))) ((xs (k + 2))) ((xs (k + 3))) = (r, t)) (e2 : RM_copy ms ((xs (k + 1))) ((xs (k + 2))) ((xs (k + 3))) = some (r, u))
    (kk : ∀ (H1 : Heap) (locs1 : List Loc), va_P D vwCl (rn_g a ci co t) H1 → va_P D vwCl (rm_g b2 cm u) H1 → va_S (fun q => s.heap.size ≤ q) s.heap H1 locs1 → W p l e room_1 s m #[Value.ref b] below meth c H1 locs1 39 3283 Q (F0 m 856 ls [])) : W p l e room_1 s m #[Value.ref b] below meth c H locs 39 3283 Q (F0 m 283 ls []) := by
  obtain ⟨hx, hb, hml, hown, hts, hX, hbl, hK, hK2, hN, hi, hi2, hA1, hB1, hdis⟩ := C
  have hown : s.vm.findClass "RoundedNumbersLaw" = some m.cls := hown
  have ht2 := lw_t2 hts
  refine lv_aload_n hx hb dl_283 rfl (lv_at hl 2 rfl) ?_
  refine lv_aload_n hx hb dl_284 rfl (lv_at hl 3 rfl) ?_
  refine lv_iload_n hx hb dl_285 rfl (lv_at hl 0 rfl) ?_
  refine lv_iconst (v := 1) hx hb dl_286 (by decide) ?_
  refine lv_iadd hx hb dl_287 ?_
  refine lw_ld hx hb hX hbl hS (j := 1) rfl (by omega) (by omega) dl_288 ?_
  refine lv_aload_n hx hb dl_289 rfl (lv_at hl 3 rfl) ?_
  refine lv_iload_n hx hb dl_290 rfl (lv_at hl 0 rfl) ?_
  refine lv_iconst (v := 2) hx hb dl_291 (by decide) ?_
  refine lv_iadd hx hb dl_292 ?_
  refine lw_ld hx hb hX hbl hS (j := 2) rfl (by omega) (by omega) dl_293 ?_
  refine lv_aload_n hx hb dl_294 rfl (lv_at hl 3 rfl) ?_
  refine lv_iload_n hx hb dl_295 rfl (lv_at hl 0 rfl) ?_
  refine lv_iconst (v := 3) hx hb dl_296 (by decide) ?_
  refine lv_iadd hx hb dl_297 ?_
  refine lw_ld hx hb hX hbl hS (j := 3) rfl (by omega) (by omega) dl_298 ?_
  refine lw_ci (va_runV (As := [.int (xs (k + 1)), .int (xs (k + 2)), .int (xs (k + 3))]) (rest := []) ⟨hx, hb, hml, hown, ht2⟩ (c_RN_copy l (D := D) a ci co hi st ((xs (k + 1))) ((xs (k + 2))) ((xs (k + 3))) r t e1 _) (kc_LL_38 ht2 ⟨by decide, by decide⟩) ⟨ct_blind, rn_rc0 hK hPa, ct_ok hPa hK hN⟩ rfl rfl hl.1 rfl (lv_room (Nat.le_of_ble_eq_true rfl)) dl_299 ⟨by decide, by decide⟩) (lw_xa hA1) hPb (lw_da hdis) hS (fun H locs hPa hPb hS => ?_)
  refine lv_aload_n hx hb dl_302 rfl (lv_at hl 1 rfl) ?_
  refine lv_aload_n hx hb dl_303 rfl (lv_at hl 3 rfl) ?_
  refine lv_iload_n hx hb dl_304 rfl (lv_at hl 0 rfl) ?_
  refine lv_iconst (v := 1) hx hb dl_305 (by decide) ?_
  refine lv_iadd hx hb dl_306 ?_
  refine lw_ld hx hb hX hbl hS (j := 1) rfl (by omega) (by omega) dl_307 ?_
  refine lv_aload_n hx hb dl_308 rfl (lv_at hl 3 rfl) ?_
  refine lv_iload_n hx hb dl_309 rfl (lv_at hl 0 rfl) ?_
  refine lv_iconst (v := 2) hx hb dl_310 (by decide) ?_
  refine lv_iadd hx hb dl_311 ?_
  refine lw_ld hx hb hX hbl hS (j := 2) rfl (by omega) (by omega) dl_312 ?_
  refine lv_aload_n hx hb dl_313 rfl (lv_at hl 3 rfl) ?_
  refine lv_iload_n hx hb dl_314 rfl (lv_at hl 0 rfl) ?_
  refine lv_iconst (v := 3) hx hb dl_315 (by decide) ?_
  refine lv_iadd hx hb dl_316 ?_
  refine lw_ld hx hb hX hbl hS (j := 3) rfl (by omega) (by omega) dl_317 ?_
  refine lw_ci (va_runV (As := [.int (xs (k + 1)), .int (xs (k + 2)), .int (xs (k + 3))]) (rest := [.int r]) ⟨hx, hb, hml, hown, ht2⟩ (c_RM_copy l (D := D) b2 cm hi2 ms ((xs (k + 1))) ((xs (k + 2))) ((xs (k + 3))) r u e2 _) (kc_LL_41 ht2 ⟨by decide, by decide⟩) ⟨ct_blind, rm_rc hK2 hPb, ct_ok hPb hK2 hN⟩ rfl rfl hl.1 rfl (lv_room (Nat.le_of_ble_eq_true rfl)) dl_318 ⟨by decide, by decide⟩) (lw_xb hB1) hPa (lw_db hdis) hS (fun H locs hPb hPa hS => ?_)
  exact lv_icmp_eq hx hb dl_321 (tgt := 856) (by decide) (fun _ => kk H locs hPa hPb hS) (fun h => absurd rfl h)
set_option maxHeartbeats 4000000 in
set_option maxRecDepth 100000 in
theorem lc_4 {p : Program} {l : Launch} {e : Env} {s : State} {m : MethodId} {below : List Frame} {meth : Method} {c : Code} {b L : Nat} {xs : Nat → Int32} {D : va_G} {a b2 : Nat → Nat} {ci co cm : ClassId} (C : lw_ctx p s m c b L xs D a b2 ci co cm) (hL : L ≤ 3073) {Q : State → Prop} {st : rn_S} {ms : rm_S} {k : Nat} (hk : k + 6 ≤ L) {ls : Array Slot} {H : Heap} {locs : List Loc} (hl : lv_has ls 4 [(3, .int (nI k)), (2, .ref (b2 0)), (1, .ref (a 0)), (0, .ref b)]) (hPa : va_P D vwCl (rn_g a ci co st) H) (hPb : va_P D vwCl (rm_g b2 cm ms) H) (hS : va_S (fun q => s.heap.size ≤ q) s.heap H locs) {r : Int32} {t : rn_S} {u : rm_S} (e1 : RN_negate st ((xs (k + 1))) ((xs (k + 2))) ((xs (k + 3))) = (r, t)) (e2 : RM_negate ms ((xs (k + 1))) ((xs (k + 2))) ((xs (k + 3))) = some (r, u))
    (kk : ∀ (H1 : Heap) (locs1 : List Loc), va_P D vwCl (rn_g a ci co t) H1 → va_P D vwCl (rm_g b2 cm u) H1 → va_S (fun q => s.heap.size ≤ q) s.heap H1 locs1 → W p l e room_1 s m #[Value.ref b] below meth c H1 locs1 39 3283 Q (F0 m 856 ls [])) : W p l e room_1 s m #[Value.ref b] below meth c H locs 39 3283 Q (F0 m 326 ls []) := by
  obtain ⟨hx, hb, hml, hown, hts, hX, hbl, hK, hK2, hN, hi, hi2, hA1, hB1, hdis⟩ := C
  have hown : s.vm.findClass "RoundedNumbersLaw" = some m.cls := hown
  have ht2 := lw_t2 hts
  refine lv_aload_n hx hb dl_326 rfl (lv_at hl 2 rfl) ?_
  refine lv_aload_n hx hb dl_327 rfl (lv_at hl 3 rfl) ?_
  refine lv_iload_n hx hb dl_328 rfl (lv_at hl 0 rfl) ?_
  refine lv_iconst (v := 1) hx hb dl_329 (by decide) ?_
  refine lv_iadd hx hb dl_330 ?_
  refine lw_ld hx hb hX hbl hS (j := 1) rfl (by omega) (by omega) dl_331 ?_
  refine lv_aload_n hx hb dl_332 rfl (lv_at hl 3 rfl) ?_
  refine lv_iload_n hx hb dl_333 rfl (lv_at hl 0 rfl) ?_
  refine lv_iconst (v := 2) hx hb dl_334 (by decide) ?_
  refine lv_iadd hx hb dl_335 ?_
  refine lw_ld hx hb hX hbl hS (j := 2) rfl (by omega) (by omega) dl_336 ?_
  refine lv_aload_n hx hb dl_337 rfl (lv_at hl 3 rfl) ?_
  refine lv_iload_n hx hb dl_338 rfl (lv_at hl 0 rfl) ?_
  refine lv_iconst (v := 3) hx hb dl_339 (by decide) ?_
  refine lv_iadd hx hb dl_340 ?_
  refine lw_ld hx hb hX hbl hS (j := 3) rfl (by omega) (by omega) dl_341 ?_
  refine lw_ci (va_runV (As := [.int (xs (k + 1)), .int (xs (k + 2)), .int (xs (k + 3))]) (rest := []) ⟨hx, hb, hml, hown, ht2⟩ (c_RN_negate l (D := D) a ci co hi st ((xs (k + 1))) ((xs (k + 2))) ((xs (k + 3))) r t e1 _) (kc_LL_42 ht2 ⟨by decide, by decide⟩) ⟨ct_blind, rn_rc0 hK hPa, ct_ok hPa hK hN⟩ rfl rfl hl.1 rfl (lv_room (Nat.le_of_ble_eq_true rfl)) dl_342 ⟨by decide, by decide⟩) (lw_xa hA1) hPb (lw_da hdis) hS (fun H locs hPa hPb hS => ?_)
  refine lv_aload_n hx hb dl_345 rfl (lv_at hl 1 rfl) ?_
  refine lv_aload_n hx hb dl_346 rfl (lv_at hl 3 rfl) ?_
  refine lv_iload_n hx hb dl_347 rfl (lv_at hl 0 rfl) ?_
  refine lv_iconst (v := 1) hx hb dl_348 (by decide) ?_
  refine lv_iadd hx hb dl_349 ?_
  refine lw_ld hx hb hX hbl hS (j := 1) rfl (by omega) (by omega) dl_350 ?_
  refine lv_aload_n hx hb dl_351 rfl (lv_at hl 3 rfl) ?_
  refine lv_iload_n hx hb dl_352 rfl (lv_at hl 0 rfl) ?_
  refine lv_iconst (v := 2) hx hb dl_353 (by decide) ?_
  refine lv_iadd hx hb dl_354 ?_
  refine lw_ld hx hb hX hbl hS (j := 2) rfl (by omega) (by omega) dl_355 ?_
  refine lv_aload_n hx hb dl_356 rfl (lv_at hl 3 rfl) ?_
  refine lv_iload_n hx hb dl_357 rfl (lv_at hl 0 rfl) ?_
  refine lv_iconst (v := 3) hx hb dl_358 (by decide) ?_
  refine lv_iadd hx hb dl_359 ?_
  refine lw_ld hx hb hX hbl hS (j := 3) rfl (by omega) (by omega) dl_360 ?_
  refine lw_ci (va_runV (As := [.int (xs (k + 1)), .int (xs (k + 2)), .int (xs (k + 3))]) (rest := [.int r]) ⟨hx, hb, hml, hown, ht2⟩ (c_RM_negate l (D := D) b2 cm hi2 ms ((xs (k + 1))) ((xs (k + 2))) ((xs (k + 3))) r u e2 _) (kc_LL_45 ht2 ⟨by decide, by decide⟩) ⟨ct_blind, rm_rc hK2 hPb, ct_ok hPb hK2 hN⟩ rfl rfl hl.1 rfl (lv_room (Nat.le_of_ble_eq_true rfl)) dl_361 ⟨by decide, by decide⟩) (lw_xb hB1) hPa (lw_db hdis) hS (fun H locs hPb hPa hS => ?_)
  exact lv_icmp_eq hx hb dl_364 (tgt := 856) (by decide) (fun _ => kk H locs hPa hPb hS) (fun h => absurd rfl h)
set_option maxHeartbeats 4000000 in
set_option maxRecDepth 100000 in
theorem lc_5 {p : Program} {l : Launch} {e : Env} {s : State} {m : MethodId} {below : List Frame} {meth : Method} {c : Code} {b L : Nat} {xs : Nat → Int32} {D : va_G} {a b2 : Nat → Nat} {ci co cm : ClassId} (C : lw_ctx p s m c b L xs D a b2 ci co cm) (hL : L ≤ 3073) {Q : State → Prop} {st : rn_S} {ms : rm_S} {k : Nat} (hk : k + 6 ≤ L) {ls : Array Slot} {H : Heap} {locs : List Loc} (hl : lv_has ls 4 [(3, .int (nI k)), (2, .ref (b2 0)), (1, .ref (a 0)), (0, .ref b)]) (hPa : va_P D vwCl (rn_g a ci co st) H) (hPb : va_P D vwCl (rm_g b2 cm ms) H) (hS : va_S (fun q => s.heap.size ≤ q) s.heap H locs) {r : Int32} {t : rn_S} {u : rm_S} (e1 : RN_add st ((xs (k + 1))) ((xs (k + 2))) ((xs (k + 3))) ((xs (k + 4))) = (r, t)) (e2 : RM_add ms ((xs (k + 1))) ((xs (k + 2))) ((xs (k + 3))) ((xs (k + 4))) = some (r, u))
    (kk : ∀ (H1 : Heap) (locs1 : List Loc), va_P D vwCl (rn_g a ci co t) H1 → va_P D vwCl (rm_g b2 cm u) H1 → va_S (fun q => s.heap.size ≤ q) s.heap H1 locs1 → W p l e room_1 s m #[Value.ref b] below meth c H1 locs1 39 3283 Q (F0 m 856 ls [])) : W p l e room_1 s m #[Value.ref b] below meth c H locs 39 3283 Q (F0 m 369 ls []) := by
  obtain ⟨hx, hb, hml, hown, hts, hX, hbl, hK, hK2, hN, hi, hi2, hA1, hB1, hdis⟩ := C
  have hown : s.vm.findClass "RoundedNumbersLaw" = some m.cls := hown
  have ht2 := lw_t2 hts
  refine lv_aload_n hx hb dl_369 rfl (lv_at hl 2 rfl) ?_
  refine lv_aload_n hx hb dl_370 rfl (lv_at hl 3 rfl) ?_
  refine lv_iload_n hx hb dl_371 rfl (lv_at hl 0 rfl) ?_
  refine lv_iconst (v := 1) hx hb dl_372 (by decide) ?_
  refine lv_iadd hx hb dl_373 ?_
  refine lw_ld hx hb hX hbl hS (j := 1) rfl (by omega) (by omega) dl_374 ?_
  refine lv_aload_n hx hb dl_375 rfl (lv_at hl 3 rfl) ?_
  refine lv_iload_n hx hb dl_376 rfl (lv_at hl 0 rfl) ?_
  refine lv_iconst (v := 2) hx hb dl_377 (by decide) ?_
  refine lv_iadd hx hb dl_378 ?_
  refine lw_ld hx hb hX hbl hS (j := 2) rfl (by omega) (by omega) dl_379 ?_
  refine lv_aload_n hx hb dl_380 rfl (lv_at hl 3 rfl) ?_
  refine lv_iload_n hx hb dl_381 rfl (lv_at hl 0 rfl) ?_
  refine lv_iconst (v := 3) hx hb dl_382 (by decide) ?_
  refine lv_iadd hx hb dl_383 ?_
  refine lw_ld hx hb hX hbl hS (j := 3) rfl (by omega) (by omega) dl_384 ?_
  refine lv_aload_n hx hb dl_385 rfl (lv_at hl 3 rfl) ?_
  refine lv_iload_n hx hb dl_386 rfl (lv_at hl 0 rfl) ?_
  refine lv_iconst (v := 4) hx hb dl_387 (by decide) ?_
  refine lv_iadd hx hb dl_388 ?_
  refine lw_ld hx hb hX hbl hS (j := 4) rfl (by omega) (by omega) dl_389 ?_
  refine lw_ci (va_runV (As := [.int (xs (k + 1)), .int (xs (k + 2)), .int (xs (k + 3)), .int (xs (k + 4))]) (rest := []) ⟨hx, hb, hml, hown, ht2⟩ (c_RN_add l (D := D) a ci co hi st ((xs (k + 1))) ((xs (k + 2))) ((xs (k + 3))) ((xs (k + 4))) r t e1 _) (kc_LL_46 ht2 ⟨by decide, by decide⟩) ⟨ct_blind, rn_rc0 hK hPa, ct_ok hPa hK hN⟩ rfl rfl hl.1 rfl (lv_room (Nat.le_of_ble_eq_true rfl)) dl_390 ⟨by decide, by decide⟩) (lw_xa hA1) hPb (lw_da hdis) hS (fun H locs hPa hPb hS => ?_)
  refine lv_aload_n hx hb dl_393 rfl (lv_at hl 1 rfl) ?_
  refine lv_aload_n hx hb dl_394 rfl (lv_at hl 3 rfl) ?_
  refine lv_iload_n hx hb dl_395 rfl (lv_at hl 0 rfl) ?_
  refine lv_iconst (v := 1) hx hb dl_396 (by decide) ?_
  refine lv_iadd hx hb dl_397 ?_
  refine lw_ld hx hb hX hbl hS (j := 1) rfl (by omega) (by omega) dl_398 ?_
  refine lv_aload_n hx hb dl_399 rfl (lv_at hl 3 rfl) ?_
  refine lv_iload_n hx hb dl_400 rfl (lv_at hl 0 rfl) ?_
  refine lv_iconst (v := 2) hx hb dl_401 (by decide) ?_
  refine lv_iadd hx hb dl_402 ?_
  refine lw_ld hx hb hX hbl hS (j := 2) rfl (by omega) (by omega) dl_403 ?_
  refine lv_aload_n hx hb dl_404 rfl (lv_at hl 3 rfl) ?_
  refine lv_iload_n hx hb dl_405 rfl (lv_at hl 0 rfl) ?_
  refine lv_iconst (v := 3) hx hb dl_406 (by decide) ?_
  refine lv_iadd hx hb dl_407 ?_
  refine lw_ld hx hb hX hbl hS (j := 3) rfl (by omega) (by omega) dl_408 ?_
  refine lv_aload_n hx hb dl_409 rfl (lv_at hl 3 rfl) ?_
  refine lv_iload_n hx hb dl_410 rfl (lv_at hl 0 rfl) ?_
  refine lv_iconst (v := 4) hx hb dl_411 (by decide) ?_
  refine lv_iadd hx hb dl_412 ?_
  refine lw_ld hx hb hX hbl hS (j := 4) rfl (by omega) (by omega) dl_413 ?_
  refine lw_ci (va_runV (As := [.int (xs (k + 1)), .int (xs (k + 2)), .int (xs (k + 3)), .int (xs (k + 4))]) (rest := [.int r]) ⟨hx, hb, hml, hown, ht2⟩ (c_RM_add l (D := D) b2 cm hi2 ms ((xs (k + 1))) ((xs (k + 2))) ((xs (k + 3))) ((xs (k + 4))) r u e2 _) (kc_LL_50 ht2 ⟨by decide, by decide⟩) ⟨ct_blind, rm_rc hK2 hPb, ct_ok hPb hK2 hN⟩ rfl rfl hl.1 rfl (lv_room (Nat.le_of_ble_eq_true rfl)) dl_414 ⟨by decide, by decide⟩) (lw_xb hB1) hPa (lw_db hdis) hS (fun H locs hPb hPa hS => ?_)
  exact lv_icmp_eq hx hb dl_417 (tgt := 856) (by decide) (fun _ => kk H locs hPa hPb hS) (fun h => absurd rfl h)
set_option maxHeartbeats 4000000 in
set_option maxRecDepth 100000 in
theorem lc_6 {p : Program} {l : Launch} {e : Env} {s : State} {m : MethodId} {below : List Frame} {meth : Method} {c : Code} {b L : Nat} {xs : Nat → Int32} {D : va_G} {a b2 : Nat → Nat} {ci co cm : ClassId} (C : lw_ctx p s m c b L xs D a b2 ci co cm) (hL : L ≤ 3073) {Q : State → Prop} {st : rn_S} {ms : rm_S} {k : Nat} (hk : k + 6 ≤ L) {ls : Array Slot} {H : Heap} {locs : List Loc} (hl : lv_has ls 4 [(3, .int (nI k)), (2, .ref (b2 0)), (1, .ref (a 0)), (0, .ref b)]) (hPa : va_P D vwCl (rn_g a ci co st) H) (hPb : va_P D vwCl (rm_g b2 cm ms) H) (hS : va_S (fun q => s.heap.size ≤ q) s.heap H locs) {r : Int32} {t : rn_S} {u : rm_S} (e1 : RN_sub st ((xs (k + 1))) ((xs (k + 2))) ((xs (k + 3))) ((xs (k + 4))) = (r, t)) (e2 : RM_sub ms ((xs (k + 1))) ((xs (k + 2))) ((xs (k + 3))) ((xs (k + 4))) = some (r, u))
    (kk : ∀ (H1 : Heap) (locs1 : List Loc), va_P D vwCl (rn_g a ci co t) H1 → va_P D vwCl (rm_g b2 cm u) H1 → va_S (fun q => s.heap.size ≤ q) s.heap H1 locs1 → W p l e room_1 s m #[Value.ref b] below meth c H1 locs1 39 3283 Q (F0 m 856 ls [])) : W p l e room_1 s m #[Value.ref b] below meth c H locs 39 3283 Q (F0 m 422 ls []) := by
  obtain ⟨hx, hb, hml, hown, hts, hX, hbl, hK, hK2, hN, hi, hi2, hA1, hB1, hdis⟩ := C
  have hown : s.vm.findClass "RoundedNumbersLaw" = some m.cls := hown
  have ht2 := lw_t2 hts
  refine lv_aload_n hx hb dl_422 rfl (lv_at hl 2 rfl) ?_
  refine lv_aload_n hx hb dl_423 rfl (lv_at hl 3 rfl) ?_
  refine lv_iload_n hx hb dl_424 rfl (lv_at hl 0 rfl) ?_
  refine lv_iconst (v := 1) hx hb dl_425 (by decide) ?_
  refine lv_iadd hx hb dl_426 ?_
  refine lw_ld hx hb hX hbl hS (j := 1) rfl (by omega) (by omega) dl_427 ?_
  refine lv_aload_n hx hb dl_428 rfl (lv_at hl 3 rfl) ?_
  refine lv_iload_n hx hb dl_429 rfl (lv_at hl 0 rfl) ?_
  refine lv_iconst (v := 2) hx hb dl_430 (by decide) ?_
  refine lv_iadd hx hb dl_431 ?_
  refine lw_ld hx hb hX hbl hS (j := 2) rfl (by omega) (by omega) dl_432 ?_
  refine lv_aload_n hx hb dl_433 rfl (lv_at hl 3 rfl) ?_
  refine lv_iload_n hx hb dl_434 rfl (lv_at hl 0 rfl) ?_
  refine lv_iconst (v := 3) hx hb dl_435 (by decide) ?_
  refine lv_iadd hx hb dl_436 ?_
  refine lw_ld hx hb hX hbl hS (j := 3) rfl (by omega) (by omega) dl_437 ?_
  refine lv_aload_n hx hb dl_438 rfl (lv_at hl 3 rfl) ?_
  refine lv_iload_n hx hb dl_439 rfl (lv_at hl 0 rfl) ?_
  refine lv_iconst (v := 4) hx hb dl_440 (by decide) ?_
  refine lv_iadd hx hb dl_441 ?_
  refine lw_ld hx hb hX hbl hS (j := 4) rfl (by omega) (by omega) dl_442 ?_
  refine lw_ci (va_runV (As := [.int (xs (k + 1)), .int (xs (k + 2)), .int (xs (k + 3)), .int (xs (k + 4))]) (rest := []) ⟨hx, hb, hml, hown, ht2⟩ (c_RN_sub l (D := D) a ci co hi st ((xs (k + 1))) ((xs (k + 2))) ((xs (k + 3))) ((xs (k + 4))) r t e1 _) (kc_LL_51 ht2 ⟨by decide, by decide⟩) ⟨ct_blind, rn_rc0 hK hPa, ct_ok hPa hK hN⟩ rfl rfl hl.1 rfl (lv_room (Nat.le_of_ble_eq_true rfl)) dl_443 ⟨by decide, by decide⟩) (lw_xa hA1) hPb (lw_da hdis) hS (fun H locs hPa hPb hS => ?_)
  refine lv_aload_n hx hb dl_446 rfl (lv_at hl 1 rfl) ?_
  refine lv_aload_n hx hb dl_447 rfl (lv_at hl 3 rfl) ?_
  refine lv_iload_n hx hb dl_448 rfl (lv_at hl 0 rfl) ?_
  refine lv_iconst (v := 1) hx hb dl_449 (by decide) ?_
  refine lv_iadd hx hb dl_450 ?_
  refine lw_ld hx hb hX hbl hS (j := 1) rfl (by omega) (by omega) dl_451 ?_
  refine lv_aload_n hx hb dl_452 rfl (lv_at hl 3 rfl) ?_
  refine lv_iload_n hx hb dl_453 rfl (lv_at hl 0 rfl) ?_
  refine lv_iconst (v := 2) hx hb dl_454 (by decide) ?_
  refine lv_iadd hx hb dl_455 ?_
  refine lw_ld hx hb hX hbl hS (j := 2) rfl (by omega) (by omega) dl_456 ?_
  refine lv_aload_n hx hb dl_457 rfl (lv_at hl 3 rfl) ?_
  refine lv_iload_n hx hb dl_458 rfl (lv_at hl 0 rfl) ?_
  refine lv_iconst (v := 3) hx hb dl_459 (by decide) ?_
  refine lv_iadd hx hb dl_460 ?_
  refine lw_ld hx hb hX hbl hS (j := 3) rfl (by omega) (by omega) dl_461 ?_
  refine lv_aload_n hx hb dl_462 rfl (lv_at hl 3 rfl) ?_
  refine lv_iload_n hx hb dl_463 rfl (lv_at hl 0 rfl) ?_
  refine lv_iconst (v := 4) hx hb dl_464 (by decide) ?_
  refine lv_iadd hx hb dl_465 ?_
  refine lw_ld hx hb hX hbl hS (j := 4) rfl (by omega) (by omega) dl_466 ?_
  refine lw_ci (va_runV (As := [.int (xs (k + 1)), .int (xs (k + 2)), .int (xs (k + 3)), .int (xs (k + 4))]) (rest := [.int r]) ⟨hx, hb, hml, hown, ht2⟩ (c_RM_sub l (D := D) b2 cm hi2 ms ((xs (k + 1))) ((xs (k + 2))) ((xs (k + 3))) ((xs (k + 4))) r u e2 _) (kc_LL_54 ht2 ⟨by decide, by decide⟩) ⟨ct_blind, rm_rc hK2 hPb, ct_ok hPb hK2 hN⟩ rfl rfl hl.1 rfl (lv_room (Nat.le_of_ble_eq_true rfl)) dl_467 ⟨by decide, by decide⟩) (lw_xb hB1) hPa (lw_db hdis) hS (fun H locs hPb hPa hS => ?_)
  exact lv_icmp_eq hx hb dl_470 (tgt := 856) (by decide) (fun _ => kk H locs hPa hPb hS) (fun h => absurd rfl h)
set_option maxHeartbeats 4000000 in
set_option maxRecDepth 100000 in
theorem lc_7 {p : Program} {l : Launch} {e : Env} {s : State} {m : MethodId} {below : List Frame} {meth : Method} {c : Code} {b L : Nat} {xs : Nat → Int32} {D : va_G} {a b2 : Nat → Nat} {ci co cm : ClassId} (C : lw_ctx p s m c b L xs D a b2 ci co cm) (hL : L ≤ 3073) {Q : State → Prop} {st : rn_S} {ms : rm_S} {k : Nat} (hk : k + 6 ≤ L) {ls : Array Slot} {H : Heap} {locs : List Loc} (hl : lv_has ls 4 [(3, .int (nI k)), (2, .ref (b2 0)), (1, .ref (a 0)), (0, .ref b)]) (hPa : va_P D vwCl (rn_g a ci co st) H) (hPb : va_P D vwCl (rm_g b2 cm ms) H) (hS : va_S (fun q => s.heap.size ≤ q) s.heap H locs) {r : Int32} {t : rn_S} {u : rm_S} (e1 : RN_mul st ((xs (k + 1))) ((xs (k + 2))) ((xs (k + 3))) ((xs (k + 4))) = (r, t)) (e2 : RM_mul ms ((xs (k + 1))) ((xs (k + 2))) ((xs (k + 3))) ((xs (k + 4))) = some (r, u))
    (kk : ∀ (H1 : Heap) (locs1 : List Loc), va_P D vwCl (rn_g a ci co t) H1 → va_P D vwCl (rm_g b2 cm u) H1 → va_S (fun q => s.heap.size ≤ q) s.heap H1 locs1 → W p l e room_1 s m #[Value.ref b] below meth c H1 locs1 39 3283 Q (F0 m 856 ls [])) : W p l e room_1 s m #[Value.ref b] below meth c H locs 39 3283 Q (F0 m 475 ls []) := by
  obtain ⟨hx, hb, hml, hown, hts, hX, hbl, hK, hK2, hN, hi, hi2, hA1, hB1, hdis⟩ := C
  have hown : s.vm.findClass "RoundedNumbersLaw" = some m.cls := hown
  have ht2 := lw_t2 hts
  refine lv_aload_n hx hb dl_475 rfl (lv_at hl 2 rfl) ?_
  refine lv_aload_n hx hb dl_476 rfl (lv_at hl 3 rfl) ?_
  refine lv_iload_n hx hb dl_477 rfl (lv_at hl 0 rfl) ?_
  refine lv_iconst (v := 1) hx hb dl_478 (by decide) ?_
  refine lv_iadd hx hb dl_479 ?_
  refine lw_ld hx hb hX hbl hS (j := 1) rfl (by omega) (by omega) dl_480 ?_
  refine lv_aload_n hx hb dl_481 rfl (lv_at hl 3 rfl) ?_
  refine lv_iload_n hx hb dl_482 rfl (lv_at hl 0 rfl) ?_
  refine lv_iconst (v := 2) hx hb dl_483 (by decide) ?_
  refine lv_iadd hx hb dl_484 ?_
  refine lw_ld hx hb hX hbl hS (j := 2) rfl (by omega) (by omega) dl_485 ?_
  refine lv_aload_n hx hb dl_486 rfl (lv_at hl 3 rfl) ?_
  refine lv_iload_n hx hb dl_487 rfl (lv_at hl 0 rfl) ?_
  refine lv_iconst (v := 3) hx hb dl_488 (by decide) ?_
  refine lv_iadd hx hb dl_489 ?_
  refine lw_ld hx hb hX hbl hS (j := 3) rfl (by omega) (by omega) dl_490 ?_
  refine lv_aload_n hx hb dl_491 rfl (lv_at hl 3 rfl) ?_
  refine lv_iload_n hx hb dl_492 rfl (lv_at hl 0 rfl) ?_
  refine lv_iconst (v := 4) hx hb dl_493 (by decide) ?_
  refine lv_iadd hx hb dl_494 ?_
  refine lw_ld hx hb hX hbl hS (j := 4) rfl (by omega) (by omega) dl_495 ?_
  refine lw_ci (va_runV (As := [.int (xs (k + 1)), .int (xs (k + 2)), .int (xs (k + 3)), .int (xs (k + 4))]) (rest := []) ⟨hx, hb, hml, hown, ht2⟩ (c_RN_mul l (D := D) a ci co hi st ((xs (k + 1))) ((xs (k + 2))) ((xs (k + 3))) ((xs (k + 4))) r t e1 _) (kc_LL_55 ht2 ⟨by decide, by decide⟩) ⟨ct_blind, rn_rc0 hK hPa, ct_ok hPa hK hN⟩ rfl rfl hl.1 rfl (lv_room (Nat.le_of_ble_eq_true rfl)) dl_496 ⟨by decide, by decide⟩) (lw_xa hA1) hPb (lw_da hdis) hS (fun H locs hPa hPb hS => ?_)
  refine lv_aload_n hx hb dl_499 rfl (lv_at hl 1 rfl) ?_
  refine lv_aload_n hx hb dl_500 rfl (lv_at hl 3 rfl) ?_
  refine lv_iload_n hx hb dl_501 rfl (lv_at hl 0 rfl) ?_
  refine lv_iconst (v := 1) hx hb dl_502 (by decide) ?_
  refine lv_iadd hx hb dl_503 ?_
  refine lw_ld hx hb hX hbl hS (j := 1) rfl (by omega) (by omega) dl_504 ?_
  refine lv_aload_n hx hb dl_505 rfl (lv_at hl 3 rfl) ?_
  refine lv_iload_n hx hb dl_506 rfl (lv_at hl 0 rfl) ?_
  refine lv_iconst (v := 2) hx hb dl_507 (by decide) ?_
  refine lv_iadd hx hb dl_508 ?_
  refine lw_ld hx hb hX hbl hS (j := 2) rfl (by omega) (by omega) dl_509 ?_
  refine lv_aload_n hx hb dl_510 rfl (lv_at hl 3 rfl) ?_
  refine lv_iload_n hx hb dl_511 rfl (lv_at hl 0 rfl) ?_
  refine lv_iconst (v := 3) hx hb dl_512 (by decide) ?_
  refine lv_iadd hx hb dl_513 ?_
  refine lw_ld hx hb hX hbl hS (j := 3) rfl (by omega) (by omega) dl_514 ?_
  refine lv_aload_n hx hb dl_515 rfl (lv_at hl 3 rfl) ?_
  refine lv_iload_n hx hb dl_516 rfl (lv_at hl 0 rfl) ?_
  refine lv_iconst (v := 4) hx hb dl_517 (by decide) ?_
  refine lv_iadd hx hb dl_518 ?_
  refine lw_ld hx hb hX hbl hS (j := 4) rfl (by omega) (by omega) dl_519 ?_
  refine lw_ci (va_runV (As := [.int (xs (k + 1)), .int (xs (k + 2)), .int (xs (k + 3)), .int (xs (k + 4))]) (rest := [.int r]) ⟨hx, hb, hml, hown, ht2⟩ (c_RM_mul l (D := D) b2 cm hi2 ms ((xs (k + 1))) ((xs (k + 2))) ((xs (k + 3))) ((xs (k + 4))) r u e2 _) (kc_LL_58 ht2 ⟨by decide, by decide⟩) ⟨ct_blind, rm_rc hK2 hPb, ct_ok hPb hK2 hN⟩ rfl rfl hl.1 rfl (lv_room (Nat.le_of_ble_eq_true rfl)) dl_520 ⟨by decide, by decide⟩) (lw_xb hB1) hPa (lw_db hdis) hS (fun H locs hPb hPa hS => ?_)
  exact lv_icmp_eq hx hb dl_523 (tgt := 856) (by decide) (fun _ => kk H locs hPa hPb hS) (fun h => absurd rfl h)
set_option maxHeartbeats 4000000 in
set_option maxRecDepth 100000 in
theorem lc_8 {p : Program} {l : Launch} {e : Env} {s : State} {m : MethodId} {below : List Frame} {meth : Method} {c : Code} {b L : Nat} {xs : Nat → Int32} {D : va_G} {a b2 : Nat → Nat} {ci co cm : ClassId} (C : lw_ctx p s m c b L xs D a b2 ci co cm) (hL : L ≤ 3073) {Q : State → Prop} {st : rn_S} {ms : rm_S} {k : Nat} (hk : k + 6 ≤ L) {ls : Array Slot} {H : Heap} {locs : List Loc} (hl : lv_has ls 4 [(3, .int (nI k)), (2, .ref (b2 0)), (1, .ref (a 0)), (0, .ref b)]) (hPa : va_P D vwCl (rn_g a ci co st) H) (hPb : va_P D vwCl (rm_g b2 cm ms) H) (hS : va_S (fun q => s.heap.size ≤ q) s.heap H locs) {r : Int32} {t : rn_S} {u : rm_S} (e1 : RN_div st ((xs (k + 1))) ((xs (k + 2))) ((xs (k + 3))) ((xs (k + 4))) = (r, t)) (e2 : RM_div ms ((xs (k + 1))) ((xs (k + 2))) ((xs (k + 3))) ((xs (k + 4))) = some (r, u))
    (kk : ∀ (H1 : Heap) (locs1 : List Loc), va_P D vwCl (rn_g a ci co t) H1 → va_P D vwCl (rm_g b2 cm u) H1 → va_S (fun q => s.heap.size ≤ q) s.heap H1 locs1 → W p l e room_1 s m #[Value.ref b] below meth c H1 locs1 39 3283 Q (F0 m 856 ls [])) : W p l e room_1 s m #[Value.ref b] below meth c H locs 39 3283 Q (F0 m 528 ls []) := by
  obtain ⟨hx, hb, hml, hown, hts, hX, hbl, hK, hK2, hN, hi, hi2, hA1, hB1, hdis⟩ := C
  have hown : s.vm.findClass "RoundedNumbersLaw" = some m.cls := hown
  have ht2 := lw_t2 hts
  refine lv_aload_n hx hb dl_528 rfl (lv_at hl 2 rfl) ?_
  refine lv_aload_n hx hb dl_529 rfl (lv_at hl 3 rfl) ?_
  refine lv_iload_n hx hb dl_530 rfl (lv_at hl 0 rfl) ?_
  refine lv_iconst (v := 1) hx hb dl_531 (by decide) ?_
  refine lv_iadd hx hb dl_532 ?_
  refine lw_ld hx hb hX hbl hS (j := 1) rfl (by omega) (by omega) dl_533 ?_
  refine lv_aload_n hx hb dl_534 rfl (lv_at hl 3 rfl) ?_
  refine lv_iload_n hx hb dl_535 rfl (lv_at hl 0 rfl) ?_
  refine lv_iconst (v := 2) hx hb dl_536 (by decide) ?_
  refine lv_iadd hx hb dl_537 ?_
  refine lw_ld hx hb hX hbl hS (j := 2) rfl (by omega) (by omega) dl_538 ?_
  refine lv_aload_n hx hb dl_539 rfl (lv_at hl 3 rfl) ?_
  refine lv_iload_n hx hb dl_540 rfl (lv_at hl 0 rfl) ?_
  refine lv_iconst (v := 3) hx hb dl_541 (by decide) ?_
  refine lv_iadd hx hb dl_542 ?_
  refine lw_ld hx hb hX hbl hS (j := 3) rfl (by omega) (by omega) dl_543 ?_
  refine lv_aload_n hx hb dl_544 rfl (lv_at hl 3 rfl) ?_
  refine lv_iload_n hx hb dl_545 rfl (lv_at hl 0 rfl) ?_
  refine lv_iconst (v := 4) hx hb dl_546 (by decide) ?_
  refine lv_iadd hx hb dl_547 ?_
  refine lw_ld hx hb hX hbl hS (j := 4) rfl (by omega) (by omega) dl_548 ?_
  refine lw_ci (va_runV (As := [.int (xs (k + 1)), .int (xs (k + 2)), .int (xs (k + 3)), .int (xs (k + 4))]) (rest := []) ⟨hx, hb, hml, hown, ht2⟩ (c_RN_div l (D := D) a ci co hi st ((xs (k + 1))) ((xs (k + 2))) ((xs (k + 3))) ((xs (k + 4))) r t e1 _) (kc_LL_59 ht2 ⟨by decide, by decide⟩) ⟨ct_blind, rn_rc0 hK hPa, ct_ok hPa hK hN⟩ rfl rfl hl.1 rfl (lv_room (Nat.le_of_ble_eq_true rfl)) dl_549 ⟨by decide, by decide⟩) (lw_xa hA1) hPb (lw_da hdis) hS (fun H locs hPa hPb hS => ?_)
  refine lv_aload_n hx hb dl_552 rfl (lv_at hl 1 rfl) ?_
  refine lv_aload_n hx hb dl_553 rfl (lv_at hl 3 rfl) ?_
  refine lv_iload_n hx hb dl_554 rfl (lv_at hl 0 rfl) ?_
  refine lv_iconst (v := 1) hx hb dl_555 (by decide) ?_
  refine lv_iadd hx hb dl_556 ?_
  refine lw_ld hx hb hX hbl hS (j := 1) rfl (by omega) (by omega) dl_557 ?_
  refine lv_aload_n hx hb dl_558 rfl (lv_at hl 3 rfl) ?_
  refine lv_iload_n hx hb dl_559 rfl (lv_at hl 0 rfl) ?_
  refine lv_iconst (v := 2) hx hb dl_560 (by decide) ?_
  refine lv_iadd hx hb dl_561 ?_
  refine lw_ld hx hb hX hbl hS (j := 2) rfl (by omega) (by omega) dl_562 ?_
  refine lv_aload_n hx hb dl_563 rfl (lv_at hl 3 rfl) ?_
  refine lv_iload_n hx hb dl_564 rfl (lv_at hl 0 rfl) ?_
  refine lv_iconst (v := 3) hx hb dl_565 (by decide) ?_
  refine lv_iadd hx hb dl_566 ?_
  refine lw_ld hx hb hX hbl hS (j := 3) rfl (by omega) (by omega) dl_567 ?_
  refine lv_aload_n hx hb dl_568 rfl (lv_at hl 3 rfl) ?_
  refine lv_iload_n hx hb dl_569 rfl (lv_at hl 0 rfl) ?_
  refine lv_iconst (v := 4) hx hb dl_570 (by decide) ?_
  refine lv_iadd hx hb dl_571 ?_
  refine lw_ld hx hb hX hbl hS (j := 4) rfl (by omega) (by omega) dl_572 ?_
  refine lw_ci (va_runV (As := [.int (xs (k + 1)), .int (xs (k + 2)), .int (xs (k + 3)), .int (xs (k + 4))]) (rest := [.int r]) ⟨hx, hb, hml, hown, ht2⟩ (c_RM_div l (D := D) b2 cm hi2 ms ((xs (k + 1))) ((xs (k + 2))) ((xs (k + 3))) ((xs (k + 4))) r u e2 _) (kc_LL_62 ht2 ⟨by decide, by decide⟩) ⟨ct_blind, rm_rc hK2 hPb, ct_ok hPb hK2 hN⟩ rfl rfl hl.1 rfl (lv_room (Nat.le_of_ble_eq_true rfl)) dl_573 ⟨by decide, by decide⟩) (lw_xb hB1) hPa (lw_db hdis) hS (fun H locs hPb hPa hS => ?_)
  exact lv_icmp_eq hx hb dl_576 (tgt := 856) (by decide) (fun _ => kk H locs hPa hPb hS) (fun h => absurd rfl h)
