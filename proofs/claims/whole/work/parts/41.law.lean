section
variable {p : Program} {l : Launch} {e : Env} {s : State} {m : MethodId} {below : List Frame} {meth : Method} {c : Code} {Q : State → Prop} {D : va_G} {cI cO cB : ClassId} {adc adm : Nat → Nat} {b L : Nat} {xs : Nat → Int32} {Rel : fw_T → fw_T → Prop}
set_option maxRecDepth 100000 in
set_option maxHeartbeats 4000000 in
theorem lc_0 (hC : lw_Cx p s m meth c D cI cO cB b L xs) (hs : sm2 Rel pX7_addLeft pX8_addLeft) {σ τ : fw_T} (hR : Rel σ τ) {x3 : Int32} (h1 : vp_in (x3 + (1 : Int32)) L) (h2 : vp_in (x3 + (2 : Int32)) L) (h3 : vp_in (x3 + (3 : Int32)) L) (h4 : vp_in (x3 + (4 : Int32)) L) {H : Heap} {locs : List Loc} {ls : Array Slot} (hI : lw_I D cI cO cB adc adm s H locs σ τ) (hl : lv_has ls 4 [(0, .ref b), (1, .ref (adc 0)), (2, .ref (adm 0)), (3, .int x3)]) (kk : ∀ (σ' τ' : fw_T) (H : Heap) (locs : List Loc), Rel σ' τ' → lw_I D cI cO cB adc adm s H locs σ' τ' → W p l e room_1 s m #[Value.ref b] below meth c H locs 103 1913 Q (F0 m 983 ls [])) : W p l e room_1 s m #[Value.ref b] below meth c H locs 103 1913 Q (F0 m 176 ls []) := by
  have hx := hC.1.1.1
  have hb := hC.1.1.2.1
  have hbA : ¬ (fun q : Nat => s.heap.size ≤ q) b := Nat.not_le.mpr hC.2.2.2
  obtain ⟨r, σ', τ', e1, e2, hR'⟩ := hs (xs (x3 + (1 : Int32)).toNatClampNeg) (xs (x3 + (2 : Int32)).toNatClampNeg) σ τ hR
  refine lv_aload_n hx hb dL_law_176 rfl (lv_at hl 1 rfl) ?_
  refine lv_aload_n hx hb dL_law_177 rfl (lv_at hl 0 rfl) ?_
  refine lv_iload_n hx hb dL_law_178 rfl (lv_at hl 3 rfl) ?_
  refine lv_iconst (v := (1 : Int32)) hx hb dL_law_179 (by decide) ?_
  refine lv_iadd hx hb dL_law_180 ?_
  refine va_sld hx hb hC.2.2.1 hC.2.2.2 hbA hI.2.2.2 h1 dL_law_181 ?_
  refine lv_aload_n hx hb dL_law_182 rfl (lv_at hl 0 rfl) ?_
  refine lv_iload_n hx hb dL_law_183 rfl (lv_at hl 3 rfl) ?_
  refine lv_iconst (v := (2 : Int32)) hx hb dL_law_184 (by decide) ?_
  refine lv_iadd hx hb dL_law_185 ?_
  refine va_sld hx hb hC.2.2.1 hC.2.2.2 hbA hI.2.2.2 h2 dL_law_186 ?_
  refine lw_ci (As := [.int (xs (x3 + (1 : Int32)).toNatClampNeg), .int (xs (x3 + (2 : Int32)).toNatClampNeg)]) (rest := []) hC.1 hI (kX7_addLeft e1) qX7_addLeft tw_1_196 ⟨Nat.le_of_ble_eq_true rfl, Nat.le_of_ble_eq_true rfl⟩ rfl rfl rfl hl.1 rfl (Nat.le_of_ble_eq_true rfl) dL_law_187 ⟨Nat.le_of_ble_eq_true rfl, Nat.le_of_ble_eq_true rfl⟩ (fun H locs hI => ?_)
  refine lv_aload_n hx hb dL_law_190 rfl (lv_at hl 2 rfl) ?_
  refine lv_aload_n hx hb dL_law_191 rfl (lv_at hl 0 rfl) ?_
  refine lv_iload_n hx hb dL_law_192 rfl (lv_at hl 3 rfl) ?_
  refine lv_iconst (v := (1 : Int32)) hx hb dL_law_193 (by decide) ?_
  refine lv_iadd hx hb dL_law_194 ?_
  refine va_sld hx hb hC.2.2.1 hC.2.2.2 hbA hI.2.2.2 h1 dL_law_195 ?_
  refine lv_aload_n hx hb dL_law_196 rfl (lv_at hl 0 rfl) ?_
  refine lv_iload_n hx hb dL_law_197 rfl (lv_at hl 3 rfl) ?_
  refine lv_iconst (v := (2 : Int32)) hx hb dL_law_198 (by decide) ?_
  refine lv_iadd hx hb dL_law_199 ?_
  refine va_sld hx hb hC.2.2.1 hC.2.2.2 hbA hI.2.2.2 h2 dL_law_200 ?_
  refine lw_mi (As := [.int (xs (x3 + (1 : Int32)).toNatClampNeg), .int (xs (x3 + (2 : Int32)).toNatClampNeg)]) (rest := [.int r]) hC.2.1 hI (kX8_addLeft e2) qX8_addLeft tw_4_6 ⟨Nat.le_of_ble_eq_true rfl, Nat.le_of_ble_eq_true rfl⟩ rfl rfl rfl hl.1 rfl (Nat.le_of_ble_eq_true rfl) dL_law_201 ⟨Nat.le_of_ble_eq_true rfl, Nat.le_of_ble_eq_true rfl⟩ (fun H locs hI => ?_)
  exact lv_icmp_eq (tgt := 983) hx hb dL_law_204 (by decide) (fun _ => kk _ _ _ _ hR' hI) (fun hc => absurd rfl hc)
set_option maxRecDepth 100000 in
set_option maxHeartbeats 4000000 in
theorem lc_1 (hC : lw_Cx p s m meth c D cI cO cB b L xs) (hs : sm2 Rel pX7_addRight pX8_addRight) {σ τ : fw_T} (hR : Rel σ τ) {x3 : Int32} (h1 : vp_in (x3 + (1 : Int32)) L) (h2 : vp_in (x3 + (2 : Int32)) L) (h3 : vp_in (x3 + (3 : Int32)) L) (h4 : vp_in (x3 + (4 : Int32)) L) {H : Heap} {locs : List Loc} {ls : Array Slot} (hI : lw_I D cI cO cB adc adm s H locs σ τ) (hl : lv_has ls 4 [(0, .ref b), (1, .ref (adc 0)), (2, .ref (adm 0)), (3, .int x3)]) (kk : ∀ (σ' τ' : fw_T) (H : Heap) (locs : List Loc), Rel σ' τ' → lw_I D cI cO cB adc adm s H locs σ' τ' → W p l e room_1 s m #[Value.ref b] below meth c H locs 103 1913 Q (F0 m 983 ls [])) : W p l e room_1 s m #[Value.ref b] below meth c H locs 103 1913 Q (F0 m 209 ls []) := by
  have hx := hC.1.1.1
  have hb := hC.1.1.2.1
  have hbA : ¬ (fun q : Nat => s.heap.size ≤ q) b := Nat.not_le.mpr hC.2.2.2
  obtain ⟨r, σ', τ', e1, e2, hR'⟩ := hs (xs (x3 + (1 : Int32)).toNatClampNeg) (xs (x3 + (2 : Int32)).toNatClampNeg) σ τ hR
  refine lv_aload_n hx hb dL_law_209 rfl (lv_at hl 1 rfl) ?_
  refine lv_aload_n hx hb dL_law_210 rfl (lv_at hl 0 rfl) ?_
  refine lv_iload_n hx hb dL_law_211 rfl (lv_at hl 3 rfl) ?_
  refine lv_iconst (v := (1 : Int32)) hx hb dL_law_212 (by decide) ?_
  refine lv_iadd hx hb dL_law_213 ?_
  refine va_sld hx hb hC.2.2.1 hC.2.2.2 hbA hI.2.2.2 h1 dL_law_214 ?_
  refine lv_aload_n hx hb dL_law_215 rfl (lv_at hl 0 rfl) ?_
  refine lv_iload_n hx hb dL_law_216 rfl (lv_at hl 3 rfl) ?_
  refine lv_iconst (v := (2 : Int32)) hx hb dL_law_217 (by decide) ?_
  refine lv_iadd hx hb dL_law_218 ?_
  refine va_sld hx hb hC.2.2.1 hC.2.2.2 hbA hI.2.2.2 h2 dL_law_219 ?_
  refine lw_ci (As := [.int (xs (x3 + (1 : Int32)).toNatClampNeg), .int (xs (x3 + (2 : Int32)).toNatClampNeg)]) (rest := []) hC.1 hI (kX7_addRight e1) qX7_addRight tw_2_14 ⟨Nat.le_of_ble_eq_true rfl, Nat.le_of_ble_eq_true rfl⟩ rfl rfl rfl hl.1 rfl (Nat.le_of_ble_eq_true rfl) dL_law_220 ⟨Nat.le_of_ble_eq_true rfl, Nat.le_of_ble_eq_true rfl⟩ (fun H locs hI => ?_)
  refine lv_aload_n hx hb dL_law_223 rfl (lv_at hl 2 rfl) ?_
  refine lv_aload_n hx hb dL_law_224 rfl (lv_at hl 0 rfl) ?_
  refine lv_iload_n hx hb dL_law_225 rfl (lv_at hl 3 rfl) ?_
  refine lv_iconst (v := (1 : Int32)) hx hb dL_law_226 (by decide) ?_
  refine lv_iadd hx hb dL_law_227 ?_
  refine va_sld hx hb hC.2.2.1 hC.2.2.2 hbA hI.2.2.2 h1 dL_law_228 ?_
  refine lv_aload_n hx hb dL_law_229 rfl (lv_at hl 0 rfl) ?_
  refine lv_iload_n hx hb dL_law_230 rfl (lv_at hl 3 rfl) ?_
  refine lv_iconst (v := (2 : Int32)) hx hb dL_law_231 (by decide) ?_
  refine lv_iadd hx hb dL_law_232 ?_
  refine va_sld hx hb hC.2.2.1 hC.2.2.2 hbA hI.2.2.2 h2 dL_law_233 ?_
  refine lw_mi (As := [.int (xs (x3 + (1 : Int32)).toNatClampNeg), .int (xs (x3 + (2 : Int32)).toNatClampNeg)]) (rest := [.int r]) hC.2.1 hI (kX8_addRight e2) qX8_addRight tw_4_36 ⟨Nat.le_of_ble_eq_true rfl, Nat.le_of_ble_eq_true rfl⟩ rfl rfl rfl hl.1 rfl (Nat.le_of_ble_eq_true rfl) dL_law_234 ⟨Nat.le_of_ble_eq_true rfl, Nat.le_of_ble_eq_true rfl⟩ (fun H locs hI => ?_)
  exact lv_icmp_eq (tgt := 983) hx hb dL_law_237 (by decide) (fun _ => kk _ _ _ _ hR' hI) (fun hc => absurd rfl hc)
set_option maxRecDepth 100000 in
set_option maxHeartbeats 4000000 in
theorem lc_2 (hC : lw_Cx p s m meth c D cI cO cB b L xs) (hs : sm1 Rel pX7_removeLeft pX8_removeLeft) {σ τ : fw_T} (hR : Rel σ τ) {x3 : Int32} (h1 : vp_in (x3 + (1 : Int32)) L) (h2 : vp_in (x3 + (2 : Int32)) L) (h3 : vp_in (x3 + (3 : Int32)) L) (h4 : vp_in (x3 + (4 : Int32)) L) {H : Heap} {locs : List Loc} {ls : Array Slot} (hI : lw_I D cI cO cB adc adm s H locs σ τ) (hl : lv_has ls 4 [(0, .ref b), (1, .ref (adc 0)), (2, .ref (adm 0)), (3, .int x3)]) (kk : ∀ (σ' τ' : fw_T) (H : Heap) (locs : List Loc), Rel σ' τ' → lw_I D cI cO cB adc adm s H locs σ' τ' → W p l e room_1 s m #[Value.ref b] below meth c H locs 103 1913 Q (F0 m 983 ls [])) : W p l e room_1 s m #[Value.ref b] below meth c H locs 103 1913 Q (F0 m 242 ls []) := by
  have hx := hC.1.1.1
  have hb := hC.1.1.2.1
  have hbA : ¬ (fun q : Nat => s.heap.size ≤ q) b := Nat.not_le.mpr hC.2.2.2
  obtain ⟨r, σ', τ', e1, e2, hR'⟩ := hs (xs (x3 + (1 : Int32)).toNatClampNeg) σ τ hR
  refine lv_aload_n hx hb dL_law_242 rfl (lv_at hl 1 rfl) ?_
  refine lv_aload_n hx hb dL_law_243 rfl (lv_at hl 0 rfl) ?_
  refine lv_iload_n hx hb dL_law_244 rfl (lv_at hl 3 rfl) ?_
  refine lv_iconst (v := (1 : Int32)) hx hb dL_law_245 (by decide) ?_
  refine lv_iadd hx hb dL_law_246 ?_
  refine va_sld hx hb hC.2.2.1 hC.2.2.2 hbA hI.2.2.2 h1 dL_law_247 ?_
  refine lw_ci (As := [.int (xs (x3 + (1 : Int32)).toNatClampNeg)]) (rest := []) hC.1 hI (kX7_removeLeft e1) qX7_removeLeft tw_2_18 ⟨Nat.le_of_ble_eq_true rfl, Nat.le_of_ble_eq_true rfl⟩ rfl rfl rfl hl.1 rfl (Nat.le_of_ble_eq_true rfl) dL_law_248 ⟨Nat.le_of_ble_eq_true rfl, Nat.le_of_ble_eq_true rfl⟩ (fun H locs hI => ?_)
  refine lv_aload_n hx hb dL_law_251 rfl (lv_at hl 2 rfl) ?_
  refine lv_aload_n hx hb dL_law_252 rfl (lv_at hl 0 rfl) ?_
  refine lv_iload_n hx hb dL_law_253 rfl (lv_at hl 3 rfl) ?_
  refine lv_iconst (v := (1 : Int32)) hx hb dL_law_254 (by decide) ?_
  refine lv_iadd hx hb dL_law_255 ?_
  refine va_sld hx hb hC.2.2.1 hC.2.2.2 hbA hI.2.2.2 h1 dL_law_256 ?_
  refine lw_mi (As := [.int (xs (x3 + (1 : Int32)).toNatClampNeg)]) (rest := [.int r]) hC.2.1 hI (kX8_removeLeft e2) qX8_removeLeft tw_4_40 ⟨Nat.le_of_ble_eq_true rfl, Nat.le_of_ble_eq_true rfl⟩ rfl rfl rfl hl.1 rfl (Nat.le_of_ble_eq_true rfl) dL_law_257 ⟨Nat.le_of_ble_eq_true rfl, Nat.le_of_ble_eq_true rfl⟩ (fun H locs hI => ?_)
  exact lv_icmp_eq (tgt := 983) hx hb dL_law_260 (by decide) (fun _ => kk _ _ _ _ hR' hI) (fun hc => absurd rfl hc)
set_option maxRecDepth 100000 in
set_option maxHeartbeats 4000000 in
theorem lc_3 (hC : lw_Cx p s m meth c D cI cO cB b L xs) (hs : sm1 Rel pX7_removeRight pX8_removeRight) {σ τ : fw_T} (hR : Rel σ τ) {x3 : Int32} (h1 : vp_in (x3 + (1 : Int32)) L) (h2 : vp_in (x3 + (2 : Int32)) L) (h3 : vp_in (x3 + (3 : Int32)) L) (h4 : vp_in (x3 + (4 : Int32)) L) {H : Heap} {locs : List Loc} {ls : Array Slot} (hI : lw_I D cI cO cB adc adm s H locs σ τ) (hl : lv_has ls 4 [(0, .ref b), (1, .ref (adc 0)), (2, .ref (adm 0)), (3, .int x3)]) (kk : ∀ (σ' τ' : fw_T) (H : Heap) (locs : List Loc), Rel σ' τ' → lw_I D cI cO cB adc adm s H locs σ' τ' → W p l e room_1 s m #[Value.ref b] below meth c H locs 103 1913 Q (F0 m 983 ls [])) : W p l e room_1 s m #[Value.ref b] below meth c H locs 103 1913 Q (F0 m 265 ls []) := by
  have hx := hC.1.1.1
  have hb := hC.1.1.2.1
  have hbA : ¬ (fun q : Nat => s.heap.size ≤ q) b := Nat.not_le.mpr hC.2.2.2
  obtain ⟨r, σ', τ', e1, e2, hR'⟩ := hs (xs (x3 + (1 : Int32)).toNatClampNeg) σ τ hR
  refine lv_aload_n hx hb dL_law_265 rfl (lv_at hl 1 rfl) ?_
  refine lv_aload_n hx hb dL_law_266 rfl (lv_at hl 0 rfl) ?_
  refine lv_iload_n hx hb dL_law_267 rfl (lv_at hl 3 rfl) ?_
  refine lv_iconst (v := (1 : Int32)) hx hb dL_law_268 (by decide) ?_
  refine lv_iadd hx hb dL_law_269 ?_
  refine va_sld hx hb hC.2.2.1 hC.2.2.2 hbA hI.2.2.2 h1 dL_law_270 ?_
  refine lw_ci (As := [.int (xs (x3 + (1 : Int32)).toNatClampNeg)]) (rest := []) hC.1 hI (kX7_removeRight e1) qX7_removeRight tw_2_26 ⟨Nat.le_of_ble_eq_true rfl, Nat.le_of_ble_eq_true rfl⟩ rfl rfl rfl hl.1 rfl (Nat.le_of_ble_eq_true rfl) dL_law_271 ⟨Nat.le_of_ble_eq_true rfl, Nat.le_of_ble_eq_true rfl⟩ (fun H locs hI => ?_)
  refine lv_aload_n hx hb dL_law_274 rfl (lv_at hl 2 rfl) ?_
  refine lv_aload_n hx hb dL_law_275 rfl (lv_at hl 0 rfl) ?_
  refine lv_iload_n hx hb dL_law_276 rfl (lv_at hl 3 rfl) ?_
  refine lv_iconst (v := (1 : Int32)) hx hb dL_law_277 (by decide) ?_
  refine lv_iadd hx hb dL_law_278 ?_
  refine va_sld hx hb hC.2.2.1 hC.2.2.2 hbA hI.2.2.2 h1 dL_law_279 ?_
  refine lw_mi (As := [.int (xs (x3 + (1 : Int32)).toNatClampNeg)]) (rest := [.int r]) hC.2.1 hI (kX8_removeRight e2) qX8_removeRight tw_4_48 ⟨Nat.le_of_ble_eq_true rfl, Nat.le_of_ble_eq_true rfl⟩ rfl rfl rfl hl.1 rfl (Nat.le_of_ble_eq_true rfl) dL_law_280 ⟨Nat.le_of_ble_eq_true rfl, Nat.le_of_ble_eq_true rfl⟩ (fun H locs hI => ?_)
  exact lv_icmp_eq (tgt := 983) hx hb dL_law_283 (by decide) (fun _ => kk _ _ _ _ hR' hI) (fun hc => absurd rfl hc)
set_option maxRecDepth 100000 in
set_option maxHeartbeats 4000000 in
theorem lc_4 (hC : lw_Cx p s m meth c D cI cO cB b L xs) (hs : sm1 Rel pX7_leftRow pX8_leftRow) {σ τ : fw_T} (hR : Rel σ τ) {x3 : Int32} (h1 : vp_in (x3 + (1 : Int32)) L) (h2 : vp_in (x3 + (2 : Int32)) L) (h3 : vp_in (x3 + (3 : Int32)) L) (h4 : vp_in (x3 + (4 : Int32)) L) {H : Heap} {locs : List Loc} {ls : Array Slot} (hI : lw_I D cI cO cB adc adm s H locs σ τ) (hl : lv_has ls 4 [(0, .ref b), (1, .ref (adc 0)), (2, .ref (adm 0)), (3, .int x3)]) (kk : ∀ (σ' τ' : fw_T) (H : Heap) (locs : List Loc), Rel σ' τ' → lw_I D cI cO cB adc adm s H locs σ' τ' → W p l e room_1 s m #[Value.ref b] below meth c H locs 103 1913 Q (F0 m 983 ls [])) : W p l e room_1 s m #[Value.ref b] below meth c H locs 103 1913 Q (F0 m 288 ls []) := by
  have hx := hC.1.1.1
  have hb := hC.1.1.2.1
  have hbA : ¬ (fun q : Nat => s.heap.size ≤ q) b := Nat.not_le.mpr hC.2.2.2
  obtain ⟨r, σ', τ', e1, e2, hR'⟩ := hs (xs (x3 + (1 : Int32)).toNatClampNeg) σ τ hR
  refine lv_aload_n hx hb dL_law_288 rfl (lv_at hl 1 rfl) ?_
  refine lv_aload_n hx hb dL_law_289 rfl (lv_at hl 0 rfl) ?_
  refine lv_iload_n hx hb dL_law_290 rfl (lv_at hl 3 rfl) ?_
  refine lv_iconst (v := (1 : Int32)) hx hb dL_law_291 (by decide) ?_
  refine lv_iadd hx hb dL_law_292 ?_
  refine va_sld hx hb hC.2.2.1 hC.2.2.2 hbA hI.2.2.2 h1 dL_law_293 ?_
  refine lw_ci (As := [.int (xs (x3 + (1 : Int32)).toNatClampNeg)]) (rest := []) hC.1 hI (kX7_leftRow e1) qX7_leftRow tw_2_30 ⟨Nat.le_of_ble_eq_true rfl, Nat.le_of_ble_eq_true rfl⟩ rfl rfl rfl hl.1 rfl (Nat.le_of_ble_eq_true rfl) dL_law_294 ⟨Nat.le_of_ble_eq_true rfl, Nat.le_of_ble_eq_true rfl⟩ (fun H locs hI => ?_)
  refine lv_aload_n hx hb dL_law_297 rfl (lv_at hl 2 rfl) ?_
  refine lv_aload_n hx hb dL_law_298 rfl (lv_at hl 0 rfl) ?_
  refine lv_iload_n hx hb dL_law_299 rfl (lv_at hl 3 rfl) ?_
  refine lv_iconst (v := (1 : Int32)) hx hb dL_law_300 (by decide) ?_
  refine lv_iadd hx hb dL_law_301 ?_
  refine va_sld hx hb hC.2.2.1 hC.2.2.2 hbA hI.2.2.2 h1 dL_law_302 ?_
  refine lw_mi (As := [.int (xs (x3 + (1 : Int32)).toNatClampNeg)]) (rest := [.int r]) hC.2.1 hI (kX8_leftRow e2) qX8_leftRow tw_4_52 ⟨Nat.le_of_ble_eq_true rfl, Nat.le_of_ble_eq_true rfl⟩ rfl rfl rfl hl.1 rfl (Nat.le_of_ble_eq_true rfl) dL_law_303 ⟨Nat.le_of_ble_eq_true rfl, Nat.le_of_ble_eq_true rfl⟩ (fun H locs hI => ?_)
  exact lv_icmp_eq (tgt := 983) hx hb dL_law_306 (by decide) (fun _ => kk _ _ _ _ hR' hI) (fun hc => absurd rfl hc)
set_option maxRecDepth 100000 in
set_option maxHeartbeats 4000000 in
theorem lc_5 (hC : lw_Cx p s m meth c D cI cO cB b L xs) (hs : sm1 Rel pX7_rightRow pX8_rightRow) {σ τ : fw_T} (hR : Rel σ τ) {x3 : Int32} (h1 : vp_in (x3 + (1 : Int32)) L) (h2 : vp_in (x3 + (2 : Int32)) L) (h3 : vp_in (x3 + (3 : Int32)) L) (h4 : vp_in (x3 + (4 : Int32)) L) {H : Heap} {locs : List Loc} {ls : Array Slot} (hI : lw_I D cI cO cB adc adm s H locs σ τ) (hl : lv_has ls 4 [(0, .ref b), (1, .ref (adc 0)), (2, .ref (adm 0)), (3, .int x3)]) (kk : ∀ (σ' τ' : fw_T) (H : Heap) (locs : List Loc), Rel σ' τ' → lw_I D cI cO cB adc adm s H locs σ' τ' → W p l e room_1 s m #[Value.ref b] below meth c H locs 103 1913 Q (F0 m 983 ls [])) : W p l e room_1 s m #[Value.ref b] below meth c H locs 103 1913 Q (F0 m 311 ls []) := by
  have hx := hC.1.1.1
  have hb := hC.1.1.2.1
  have hbA : ¬ (fun q : Nat => s.heap.size ≤ q) b := Nat.not_le.mpr hC.2.2.2
  obtain ⟨r, σ', τ', e1, e2, hR'⟩ := hs (xs (x3 + (1 : Int32)).toNatClampNeg) σ τ hR
  refine lv_aload_n hx hb dL_law_311 rfl (lv_at hl 1 rfl) ?_
  refine lv_aload_n hx hb dL_law_312 rfl (lv_at hl 0 rfl) ?_
  refine lv_iload_n hx hb dL_law_313 rfl (lv_at hl 3 rfl) ?_
  refine lv_iconst (v := (1 : Int32)) hx hb dL_law_314 (by decide) ?_
  refine lv_iadd hx hb dL_law_315 ?_
  refine va_sld hx hb hC.2.2.1 hC.2.2.2 hbA hI.2.2.2 h1 dL_law_316 ?_
  refine lw_ci (As := [.int (xs (x3 + (1 : Int32)).toNatClampNeg)]) (rest := []) hC.1 hI (kX7_rightRow e1) qX7_rightRow tw_2_38 ⟨Nat.le_of_ble_eq_true rfl, Nat.le_of_ble_eq_true rfl⟩ rfl rfl rfl hl.1 rfl (Nat.le_of_ble_eq_true rfl) dL_law_317 ⟨Nat.le_of_ble_eq_true rfl, Nat.le_of_ble_eq_true rfl⟩ (fun H locs hI => ?_)
  refine lv_aload_n hx hb dL_law_320 rfl (lv_at hl 2 rfl) ?_
  refine lv_aload_n hx hb dL_law_321 rfl (lv_at hl 0 rfl) ?_
  refine lv_iload_n hx hb dL_law_322 rfl (lv_at hl 3 rfl) ?_
  refine lv_iconst (v := (1 : Int32)) hx hb dL_law_323 (by decide) ?_
  refine lv_iadd hx hb dL_law_324 ?_
  refine va_sld hx hb hC.2.2.1 hC.2.2.2 hbA hI.2.2.2 h1 dL_law_325 ?_
  refine lw_mi (As := [.int (xs (x3 + (1 : Int32)).toNatClampNeg)]) (rest := [.int r]) hC.2.1 hI (kX8_rightRow e2) qX8_rightRow tw_4_60 ⟨Nat.le_of_ble_eq_true rfl, Nat.le_of_ble_eq_true rfl⟩ rfl rfl rfl hl.1 rfl (Nat.le_of_ble_eq_true rfl) dL_law_326 ⟨Nat.le_of_ble_eq_true rfl, Nat.le_of_ble_eq_true rfl⟩ (fun H locs hI => ?_)
  exact lv_icmp_eq (tgt := 983) hx hb dL_law_329 (by decide) (fun _ => kk _ _ _ _ hR' hI) (fun hc => absurd rfl hc)
set_option maxRecDepth 100000 in
set_option maxHeartbeats 4000000 in
theorem lc_6 (hC : lw_Cx p s m meth c D cI cO cB b L xs) (hs : sm4 Rel pX7_addFilter pX8_addFilter) {σ τ : fw_T} (hR : Rel σ τ) {x3 : Int32} (h1 : vp_in (x3 + (1 : Int32)) L) (h2 : vp_in (x3 + (2 : Int32)) L) (h3 : vp_in (x3 + (3 : Int32)) L) (h4 : vp_in (x3 + (4 : Int32)) L) {H : Heap} {locs : List Loc} {ls : Array Slot} (hI : lw_I D cI cO cB adc adm s H locs σ τ) (hl : lv_has ls 4 [(0, .ref b), (1, .ref (adc 0)), (2, .ref (adm 0)), (3, .int x3)]) (kk : ∀ (σ' τ' : fw_T) (H : Heap) (locs : List Loc), Rel σ' τ' → lw_I D cI cO cB adc adm s H locs σ' τ' → W p l e room_1 s m #[Value.ref b] below meth c H locs 103 1913 Q (F0 m 983 ls [])) : W p l e room_1 s m #[Value.ref b] below meth c H locs 103 1913 Q (F0 m 334 ls []) := by
  have hx := hC.1.1.1
  have hb := hC.1.1.2.1
  have hbA : ¬ (fun q : Nat => s.heap.size ≤ q) b := Nat.not_le.mpr hC.2.2.2
  obtain ⟨r, σ', τ', e1, e2, hR'⟩ := hs (xs (x3 + (1 : Int32)).toNatClampNeg) (xs (x3 + (2 : Int32)).toNatClampNeg) (xs (x3 + (3 : Int32)).toNatClampNeg) (xs (x3 + (4 : Int32)).toNatClampNeg) σ τ hR
  refine lv_aload_n hx hb dL_law_334 rfl (lv_at hl 1 rfl) ?_
  refine lv_aload_n hx hb dL_law_335 rfl (lv_at hl 0 rfl) ?_
  refine lv_iload_n hx hb dL_law_336 rfl (lv_at hl 3 rfl) ?_
  refine lv_iconst (v := (1 : Int32)) hx hb dL_law_337 (by decide) ?_
  refine lv_iadd hx hb dL_law_338 ?_
  refine va_sld hx hb hC.2.2.1 hC.2.2.2 hbA hI.2.2.2 h1 dL_law_339 ?_
  refine lv_aload_n hx hb dL_law_340 rfl (lv_at hl 0 rfl) ?_
  refine lv_iload_n hx hb dL_law_341 rfl (lv_at hl 3 rfl) ?_
  refine lv_iconst (v := (2 : Int32)) hx hb dL_law_342 (by decide) ?_
  refine lv_iadd hx hb dL_law_343 ?_
  refine va_sld hx hb hC.2.2.1 hC.2.2.2 hbA hI.2.2.2 h2 dL_law_344 ?_
  refine lv_aload_n hx hb dL_law_345 rfl (lv_at hl 0 rfl) ?_
  refine lv_iload_n hx hb dL_law_346 rfl (lv_at hl 3 rfl) ?_
  refine lv_iconst (v := (3 : Int32)) hx hb dL_law_347 (by decide) ?_
  refine lv_iadd hx hb dL_law_348 ?_
  refine va_sld hx hb hC.2.2.1 hC.2.2.2 hbA hI.2.2.2 h3 dL_law_349 ?_
  refine lv_aload_n hx hb dL_law_350 rfl (lv_at hl 0 rfl) ?_
  refine lv_iload_n hx hb dL_law_351 rfl (lv_at hl 3 rfl) ?_
  refine lv_iconst (v := (4 : Int32)) hx hb dL_law_352 (by decide) ?_
  refine lv_iadd hx hb dL_law_353 ?_
  refine va_sld hx hb hC.2.2.1 hC.2.2.2 hbA hI.2.2.2 h4 dL_law_354 ?_
  refine lw_ci (As := [.int (xs (x3 + (1 : Int32)).toNatClampNeg), .int (xs (x3 + (2 : Int32)).toNatClampNeg), .int (xs (x3 + (3 : Int32)).toNatClampNeg), .int (xs (x3 + (4 : Int32)).toNatClampNeg)]) (rest := []) hC.1 hI (kX7_addFilter e1) qX7_addFilter tw_2_42 ⟨Nat.le_of_ble_eq_true rfl, Nat.le_of_ble_eq_true rfl⟩ rfl rfl rfl hl.1 rfl (Nat.le_of_ble_eq_true rfl) dL_law_355 ⟨Nat.le_of_ble_eq_true rfl, Nat.le_of_ble_eq_true rfl⟩ (fun H locs hI => ?_)
  refine lv_aload_n hx hb dL_law_358 rfl (lv_at hl 2 rfl) ?_
  refine lv_aload_n hx hb dL_law_359 rfl (lv_at hl 0 rfl) ?_
  refine lv_iload_n hx hb dL_law_360 rfl (lv_at hl 3 rfl) ?_
  refine lv_iconst (v := (1 : Int32)) hx hb dL_law_361 (by decide) ?_
  refine lv_iadd hx hb dL_law_362 ?_
  refine va_sld hx hb hC.2.2.1 hC.2.2.2 hbA hI.2.2.2 h1 dL_law_363 ?_
  refine lv_aload_n hx hb dL_law_364 rfl (lv_at hl 0 rfl) ?_
  refine lv_iload_n hx hb dL_law_365 rfl (lv_at hl 3 rfl) ?_
  refine lv_iconst (v := (2 : Int32)) hx hb dL_law_366 (by decide) ?_
  refine lv_iadd hx hb dL_law_367 ?_
  refine va_sld hx hb hC.2.2.1 hC.2.2.2 hbA hI.2.2.2 h2 dL_law_368 ?_
  refine lv_aload_n hx hb dL_law_369 rfl (lv_at hl 0 rfl) ?_
  refine lv_iload_n hx hb dL_law_370 rfl (lv_at hl 3 rfl) ?_
  refine lv_iconst (v := (3 : Int32)) hx hb dL_law_371 (by decide) ?_
  refine lv_iadd hx hb dL_law_372 ?_
  refine va_sld hx hb hC.2.2.1 hC.2.2.2 hbA hI.2.2.2 h3 dL_law_373 ?_
  refine lv_aload_n hx hb dL_law_374 rfl (lv_at hl 0 rfl) ?_
  refine lv_iload_n hx hb dL_law_375 rfl (lv_at hl 3 rfl) ?_
  refine lv_iconst (v := (4 : Int32)) hx hb dL_law_376 (by decide) ?_
  refine lv_iadd hx hb dL_law_377 ?_
  refine va_sld hx hb hC.2.2.1 hC.2.2.2 hbA hI.2.2.2 h4 dL_law_378 ?_
  refine lw_mi (As := [.int (xs (x3 + (1 : Int32)).toNatClampNeg), .int (xs (x3 + (2 : Int32)).toNatClampNeg), .int (xs (x3 + (3 : Int32)).toNatClampNeg), .int (xs (x3 + (4 : Int32)).toNatClampNeg)]) (rest := [.int r]) hC.2.1 hI (kX8_addFilter e2) qX8_addFilter tw_4_64 ⟨Nat.le_of_ble_eq_true rfl, Nat.le_of_ble_eq_true rfl⟩ rfl rfl rfl hl.1 rfl (Nat.le_of_ble_eq_true rfl) dL_law_379 ⟨Nat.le_of_ble_eq_true rfl, Nat.le_of_ble_eq_true rfl⟩ (fun H locs hI => ?_)
  exact lv_icmp_eq (tgt := 983) hx hb dL_law_382 (by decide) (fun _ => kk _ _ _ _ hR' hI) (fun hc => absurd rfl hc)
set_option maxRecDepth 100000 in
set_option maxHeartbeats 4000000 in
theorem lc_7 (hC : lw_Cx p s m meth c D cI cO cB b L xs) (hs : sm1 Rel pX7_removeFilter pX8_removeFilter) {σ τ : fw_T} (hR : Rel σ τ) {x3 : Int32} (h1 : vp_in (x3 + (1 : Int32)) L) (h2 : vp_in (x3 + (2 : Int32)) L) (h3 : vp_in (x3 + (3 : Int32)) L) (h4 : vp_in (x3 + (4 : Int32)) L) {H : Heap} {locs : List Loc} {ls : Array Slot} (hI : lw_I D cI cO cB adc adm s H locs σ τ) (hl : lv_has ls 4 [(0, .ref b), (1, .ref (adc 0)), (2, .ref (adm 0)), (3, .int x3)]) (kk : ∀ (σ' τ' : fw_T) (H : Heap) (locs : List Loc), Rel σ' τ' → lw_I D cI cO cB adc adm s H locs σ' τ' → W p l e room_1 s m #[Value.ref b] below meth c H locs 103 1913 Q (F0 m 983 ls [])) : W p l e room_1 s m #[Value.ref b] below meth c H locs 103 1913 Q (F0 m 387 ls []) := by
  have hx := hC.1.1.1
  have hb := hC.1.1.2.1
  have hbA : ¬ (fun q : Nat => s.heap.size ≤ q) b := Nat.not_le.mpr hC.2.2.2
  obtain ⟨r, σ', τ', e1, e2, hR'⟩ := hs (xs (x3 + (1 : Int32)).toNatClampNeg) σ τ hR
  refine lv_aload_n hx hb dL_law_387 rfl (lv_at hl 1 rfl) ?_
  refine lv_aload_n hx hb dL_law_388 rfl (lv_at hl 0 rfl) ?_
  refine lv_iload_n hx hb dL_law_389 rfl (lv_at hl 3 rfl) ?_
  refine lv_iconst (v := (1 : Int32)) hx hb dL_law_390 (by decide) ?_
  refine lv_iadd hx hb dL_law_391 ?_
  refine va_sld hx hb hC.2.2.1 hC.2.2.2 hbA hI.2.2.2 h1 dL_law_392 ?_
  refine lw_ci (As := [.int (xs (x3 + (1 : Int32)).toNatClampNeg)]) (rest := []) hC.1 hI (kX7_removeFilter e1) qX7_removeFilter tw_2_57 ⟨Nat.le_of_ble_eq_true rfl, Nat.le_of_ble_eq_true rfl⟩ rfl rfl rfl hl.1 rfl (Nat.le_of_ble_eq_true rfl) dL_law_393 ⟨Nat.le_of_ble_eq_true rfl, Nat.le_of_ble_eq_true rfl⟩ (fun H locs hI => ?_)
  refine lv_aload_n hx hb dL_law_396 rfl (lv_at hl 2 rfl) ?_
  refine lv_aload_n hx hb dL_law_397 rfl (lv_at hl 0 rfl) ?_
  refine lv_iload_n hx hb dL_law_398 rfl (lv_at hl 3 rfl) ?_
  refine lv_iconst (v := (1 : Int32)) hx hb dL_law_399 (by decide) ?_
  refine lv_iadd hx hb dL_law_400 ?_
  refine va_sld hx hb hC.2.2.1 hC.2.2.2 hbA hI.2.2.2 h1 dL_law_401 ?_
  refine lw_mi (As := [.int (xs (x3 + (1 : Int32)).toNatClampNeg)]) (rest := [.int r]) hC.2.1 hI (kX8_removeFilter e2) qX8_removeFilter tw_4_71 ⟨Nat.le_of_ble_eq_true rfl, Nat.le_of_ble_eq_true rfl⟩ rfl rfl rfl hl.1 rfl (Nat.le_of_ble_eq_true rfl) dL_law_402 ⟨Nat.le_of_ble_eq_true rfl, Nat.le_of_ble_eq_true rfl⟩ (fun H locs hI => ?_)
  exact lv_icmp_eq (tgt := 983) hx hb dL_law_405 (by decide) (fun _ => kk _ _ _ _ hR' hI) (fun hc => absurd rfl hc)
set_option maxRecDepth 100000 in
set_option maxHeartbeats 4000000 in
theorem lc_8 (hC : lw_Cx p s m meth c D cI cO cB b L xs) (hs : sm2 Rel pX7_setConstant pX8_setConstant) {σ τ : fw_T} (hR : Rel σ τ) {x3 : Int32} (h1 : vp_in (x3 + (1 : Int32)) L) (h2 : vp_in (x3 + (2 : Int32)) L) (h3 : vp_in (x3 + (3 : Int32)) L) (h4 : vp_in (x3 + (4 : Int32)) L) {H : Heap} {locs : List Loc} {ls : Array Slot} (hI : lw_I D cI cO cB adc adm s H locs σ τ) (hl : lv_has ls 4 [(0, .ref b), (1, .ref (adc 0)), (2, .ref (adm 0)), (3, .int x3)]) (kk : ∀ (σ' τ' : fw_T) (H : Heap) (locs : List Loc), Rel σ' τ' → lw_I D cI cO cB adc adm s H locs σ' τ' → W p l e room_1 s m #[Value.ref b] below meth c H locs 103 1913 Q (F0 m 983 ls [])) : W p l e room_1 s m #[Value.ref b] below meth c H locs 103 1913 Q (F0 m 410 ls []) := by
  have hx := hC.1.1.1
  have hb := hC.1.1.2.1
  have hbA : ¬ (fun q : Nat => s.heap.size ≤ q) b := Nat.not_le.mpr hC.2.2.2
  obtain ⟨r, σ', τ', e1, e2, hR'⟩ := hs (xs (x3 + (1 : Int32)).toNatClampNeg) (xs (x3 + (2 : Int32)).toNatClampNeg) σ τ hR
  refine lv_aload_n hx hb dL_law_410 rfl (lv_at hl 1 rfl) ?_
  refine lv_aload_n hx hb dL_law_411 rfl (lv_at hl 0 rfl) ?_
  refine lv_iload_n hx hb dL_law_412 rfl (lv_at hl 3 rfl) ?_
  refine lv_iconst (v := (1 : Int32)) hx hb dL_law_413 (by decide) ?_
  refine lv_iadd hx hb dL_law_414 ?_
  refine va_sld hx hb hC.2.2.1 hC.2.2.2 hbA hI.2.2.2 h1 dL_law_415 ?_
  refine lv_aload_n hx hb dL_law_416 rfl (lv_at hl 0 rfl) ?_
  refine lv_iload_n hx hb dL_law_417 rfl (lv_at hl 3 rfl) ?_
  refine lv_iconst (v := (2 : Int32)) hx hb dL_law_418 (by decide) ?_
  refine lv_iadd hx hb dL_law_419 ?_
  refine va_sld hx hb hC.2.2.1 hC.2.2.2 hbA hI.2.2.2 h2 dL_law_420 ?_
  refine lw_ci (As := [.int (xs (x3 + (1 : Int32)).toNatClampNeg), .int (xs (x3 + (2 : Int32)).toNatClampNeg)]) (rest := []) hC.1 hI (kX7_setConstant e1) qX7_setConstant tw_2_69 ⟨Nat.le_of_ble_eq_true rfl, Nat.le_of_ble_eq_true rfl⟩ rfl rfl rfl hl.1 rfl (Nat.le_of_ble_eq_true rfl) dL_law_421 ⟨Nat.le_of_ble_eq_true rfl, Nat.le_of_ble_eq_true rfl⟩ (fun H locs hI => ?_)
  refine lv_aload_n hx hb dL_law_424 rfl (lv_at hl 2 rfl) ?_
  refine lv_aload_n hx hb dL_law_425 rfl (lv_at hl 0 rfl) ?_
  refine lv_iload_n hx hb dL_law_426 rfl (lv_at hl 3 rfl) ?_
  refine lv_iconst (v := (1 : Int32)) hx hb dL_law_427 (by decide) ?_
  refine lv_iadd hx hb dL_law_428 ?_
  refine va_sld hx hb hC.2.2.1 hC.2.2.2 hbA hI.2.2.2 h1 dL_law_429 ?_
  refine lv_aload_n hx hb dL_law_430 rfl (lv_at hl 0 rfl) ?_
  refine lv_iload_n hx hb dL_law_431 rfl (lv_at hl 3 rfl) ?_
  refine lv_iconst (v := (2 : Int32)) hx hb dL_law_432 (by decide) ?_
  refine lv_iadd hx hb dL_law_433 ?_
  refine va_sld hx hb hC.2.2.1 hC.2.2.2 hbA hI.2.2.2 h2 dL_law_434 ?_
  refine lw_mi (As := [.int (xs (x3 + (1 : Int32)).toNatClampNeg), .int (xs (x3 + (2 : Int32)).toNatClampNeg)]) (rest := [.int r]) hC.2.1 hI (kX8_setConstant e2) qX8_setConstant tw_4_83 ⟨Nat.le_of_ble_eq_true rfl, Nat.le_of_ble_eq_true rfl⟩ rfl rfl rfl hl.1 rfl (Nat.le_of_ble_eq_true rfl) dL_law_435 ⟨Nat.le_of_ble_eq_true rfl, Nat.le_of_ble_eq_true rfl⟩ (fun H locs hI => ?_)
  exact lv_icmp_eq (tgt := 983) hx hb dL_law_438 (by decide) (fun _ => kk _ _ _ _ hR' hI) (fun hc => absurd rfl hc)
set_option maxRecDepth 100000 in
set_option maxHeartbeats 4000000 in
theorem lc_9 (hC : lw_Cx p s m meth c D cI cO cB b L xs) (hs : sm0 Rel pX7_filterCount pX8_filterCount) {σ τ : fw_T} (hR : Rel σ τ) {x3 : Int32} (h1 : vp_in (x3 + (1 : Int32)) L) (h2 : vp_in (x3 + (2 : Int32)) L) (h3 : vp_in (x3 + (3 : Int32)) L) (h4 : vp_in (x3 + (4 : Int32)) L) {H : Heap} {locs : List Loc} {ls : Array Slot} (hI : lw_I D cI cO cB adc adm s H locs σ τ) (hl : lv_has ls 4 [(0, .ref b), (1, .ref (adc 0)), (2, .ref (adm 0)), (3, .int x3)]) (kk : ∀ (σ' τ' : fw_T) (H : Heap) (locs : List Loc), Rel σ' τ' → lw_I D cI cO cB adc adm s H locs σ' τ' → W p l e room_1 s m #[Value.ref b] below meth c H locs 103 1913 Q (F0 m 983 ls [])) : W p l e room_1 s m #[Value.ref b] below meth c H locs 103 1913 Q (F0 m 443 ls []) := by
  have hx := hC.1.1.1
  have hb := hC.1.1.2.1
  have hbA : ¬ (fun q : Nat => s.heap.size ≤ q) b := Nat.not_le.mpr hC.2.2.2
  obtain ⟨r, σ', τ', e1, e2, hR'⟩ := hs σ τ hR
  refine lv_aload_n hx hb dL_law_443 rfl (lv_at hl 1 rfl) ?_
  refine lw_ci (As := []) (rest := []) hC.1 hI (kX7_filterCount e1) qX7_filterCount tw_2_77 ⟨Nat.le_of_ble_eq_true rfl, Nat.le_of_ble_eq_true rfl⟩ rfl rfl rfl hl.1 rfl (Nat.le_of_ble_eq_true rfl) dL_law_444 ⟨Nat.le_of_ble_eq_true rfl, Nat.le_of_ble_eq_true rfl⟩ (fun H locs hI => ?_)
  refine lv_aload_n hx hb dL_law_447 rfl (lv_at hl 2 rfl) ?_
  refine lw_mi (As := []) (rest := [.int r]) hC.2.1 hI (kX8_filterCount e2) qX8_filterCount tw_4_91 ⟨Nat.le_of_ble_eq_true rfl, Nat.le_of_ble_eq_true rfl⟩ rfl rfl rfl hl.1 rfl (Nat.le_of_ble_eq_true rfl) dL_law_448 ⟨Nat.le_of_ble_eq_true rfl, Nat.le_of_ble_eq_true rfl⟩ (fun H locs hI => ?_)
  exact lv_icmp_eq (tgt := 983) hx hb dL_law_451 (by decide) (fun _ => kk _ _ _ _ hR' hI) (fun hc => absurd rfl hc)
set_option maxRecDepth 100000 in
set_option maxHeartbeats 4000000 in
theorem lc_10 (hC : lw_Cx p s m meth c D cI cO cB b L xs) (hs : sm1 Rel pX7_constant pX8_constant) {σ τ : fw_T} (hR : Rel σ τ) {x3 : Int32} (h1 : vp_in (x3 + (1 : Int32)) L) (h2 : vp_in (x3 + (2 : Int32)) L) (h3 : vp_in (x3 + (3 : Int32)) L) (h4 : vp_in (x3 + (4 : Int32)) L) {H : Heap} {locs : List Loc} {ls : Array Slot} (hI : lw_I D cI cO cB adc adm s H locs σ τ) (hl : lv_has ls 4 [(0, .ref b), (1, .ref (adc 0)), (2, .ref (adm 0)), (3, .int x3)]) (kk : ∀ (σ' τ' : fw_T) (H : Heap) (locs : List Loc), Rel σ' τ' → lw_I D cI cO cB adc adm s H locs σ' τ' → W p l e room_1 s m #[Value.ref b] below meth c H locs 103 1913 Q (F0 m 983 ls [])) : W p l e room_1 s m #[Value.ref b] below meth c H locs 103 1913 Q (F0 m 456 ls []) := by
  have hx := hC.1.1.1
  have hb := hC.1.1.2.1
  have hbA : ¬ (fun q : Nat => s.heap.size ≤ q) b := Nat.not_le.mpr hC.2.2.2
  obtain ⟨r, σ', τ', e1, e2, hR'⟩ := hs (xs (x3 + (1 : Int32)).toNatClampNeg) σ τ hR
  refine lv_aload_n hx hb dL_law_456 rfl (lv_at hl 1 rfl) ?_
  refine lv_aload_n hx hb dL_law_457 rfl (lv_at hl 0 rfl) ?_
  refine lv_iload_n hx hb dL_law_458 rfl (lv_at hl 3 rfl) ?_
  refine lv_iconst (v := (1 : Int32)) hx hb dL_law_459 (by decide) ?_
  refine lv_iadd hx hb dL_law_460 ?_
  refine va_sld hx hb hC.2.2.1 hC.2.2.2 hbA hI.2.2.2 h1 dL_law_461 ?_
  refine lw_ci (As := [.int (xs (x3 + (1 : Int32)).toNatClampNeg)]) (rest := []) hC.1 hI (kX7_constant e1) qX7_constant tw_2_81 ⟨Nat.le_of_ble_eq_true rfl, Nat.le_of_ble_eq_true rfl⟩ rfl rfl rfl hl.1 rfl (Nat.le_of_ble_eq_true rfl) dL_law_462 ⟨Nat.le_of_ble_eq_true rfl, Nat.le_of_ble_eq_true rfl⟩ (fun H locs hI => ?_)
  refine lv_aload_n hx hb dL_law_465 rfl (lv_at hl 2 rfl) ?_
  refine lv_aload_n hx hb dL_law_466 rfl (lv_at hl 0 rfl) ?_
  refine lv_iload_n hx hb dL_law_467 rfl (lv_at hl 3 rfl) ?_
  refine lv_iconst (v := (1 : Int32)) hx hb dL_law_468 (by decide) ?_
  refine lv_iadd hx hb dL_law_469 ?_
  refine va_sld hx hb hC.2.2.1 hC.2.2.2 hbA hI.2.2.2 h1 dL_law_470 ?_
  refine lw_mi (As := [.int (xs (x3 + (1 : Int32)).toNatClampNeg)]) (rest := [.int r]) hC.2.1 hI (kX8_constant e2) qX8_constant tw_4_95 ⟨Nat.le_of_ble_eq_true rfl, Nat.le_of_ble_eq_true rfl⟩ rfl rfl rfl hl.1 rfl (Nat.le_of_ble_eq_true rfl) dL_law_471 ⟨Nat.le_of_ble_eq_true rfl, Nat.le_of_ble_eq_true rfl⟩ (fun H locs hI => ?_)
  exact lv_icmp_eq (tgt := 983) hx hb dL_law_474 (by decide) (fun _ => kk _ _ _ _ hR' hI) (fun hc => absurd rfl hc)
set_option maxRecDepth 100000 in
set_option maxHeartbeats 4000000 in
theorem lc_11 (hC : lw_Cx p s m meth c D cI cO cB b L xs) (hs : sm1 Rel pX7_acceptedBy pX8_acceptedBy) {σ τ : fw_T} (hR : Rel σ τ) {x3 : Int32} (h1 : vp_in (x3 + (1 : Int32)) L) (h2 : vp_in (x3 + (2 : Int32)) L) (h3 : vp_in (x3 + (3 : Int32)) L) (h4 : vp_in (x3 + (4 : Int32)) L) {H : Heap} {locs : List Loc} {ls : Array Slot} (hI : lw_I D cI cO cB adc adm s H locs σ τ) (hl : lv_has ls 4 [(0, .ref b), (1, .ref (adc 0)), (2, .ref (adm 0)), (3, .int x3)]) (kk : ∀ (σ' τ' : fw_T) (H : Heap) (locs : List Loc), Rel σ' τ' → lw_I D cI cO cB adc adm s H locs σ' τ' → W p l e room_1 s m #[Value.ref b] below meth c H locs 103 1913 Q (F0 m 983 ls [])) : W p l e room_1 s m #[Value.ref b] below meth c H locs 103 1913 Q (F0 m 479 ls []) := by
  have hx := hC.1.1.1
  have hb := hC.1.1.2.1
  have hbA : ¬ (fun q : Nat => s.heap.size ≤ q) b := Nat.not_le.mpr hC.2.2.2
  obtain ⟨r, σ', τ', e1, e2, hR'⟩ := hs (xs (x3 + (1 : Int32)).toNatClampNeg) σ τ hR
  refine lv_aload_n hx hb dL_law_479 rfl (lv_at hl 1 rfl) ?_
  refine lv_aload_n hx hb dL_law_480 rfl (lv_at hl 0 rfl) ?_
  refine lv_iload_n hx hb dL_law_481 rfl (lv_at hl 3 rfl) ?_
  refine lv_iconst (v := (1 : Int32)) hx hb dL_law_482 (by decide) ?_
  refine lv_iadd hx hb dL_law_483 ?_
  refine va_sld hx hb hC.2.2.1 hC.2.2.2 hbA hI.2.2.2 h1 dL_law_484 ?_
  refine lw_ci (As := [.int (xs (x3 + (1 : Int32)).toNatClampNeg)]) (rest := []) hC.1 hI (kX7_acceptedBy e1) qX7_acceptedBy tw_2_89 ⟨Nat.le_of_ble_eq_true rfl, Nat.le_of_ble_eq_true rfl⟩ rfl rfl rfl hl.1 rfl (Nat.le_of_ble_eq_true rfl) dL_law_485 ⟨Nat.le_of_ble_eq_true rfl, Nat.le_of_ble_eq_true rfl⟩ (fun H locs hI => ?_)
  refine lv_aload_n hx hb dL_law_488 rfl (lv_at hl 2 rfl) ?_
  refine lv_aload_n hx hb dL_law_489 rfl (lv_at hl 0 rfl) ?_
  refine lv_iload_n hx hb dL_law_490 rfl (lv_at hl 3 rfl) ?_
  refine lv_iconst (v := (1 : Int32)) hx hb dL_law_491 (by decide) ?_
  refine lv_iadd hx hb dL_law_492 ?_
  refine va_sld hx hb hC.2.2.1 hC.2.2.2 hbA hI.2.2.2 h1 dL_law_493 ?_
  refine lw_mi (As := [.int (xs (x3 + (1 : Int32)).toNatClampNeg)]) (rest := [.int r]) hC.2.1 hI (kX8_acceptedBy e2) qX8_acceptedBy tw_4_99 ⟨Nat.le_of_ble_eq_true rfl, Nat.le_of_ble_eq_true rfl⟩ rfl rfl rfl hl.1 rfl (Nat.le_of_ble_eq_true rfl) dL_law_494 ⟨Nat.le_of_ble_eq_true rfl, Nat.le_of_ble_eq_true rfl⟩ (fun H locs hI => ?_)
  exact lv_icmp_eq (tgt := 983) hx hb dL_law_497 (by decide) (fun _ => kk _ _ _ _ hR' hI) (fun hc => absurd rfl hc)
set_option maxRecDepth 100000 in
set_option maxHeartbeats 4000000 in
theorem lc_12 (hC : lw_Cx p s m meth c D cI cO cB b L xs) (hs : sm0 Rel pX7_answerCount pX8_answerCount) {σ τ : fw_T} (hR : Rel σ τ) {x3 : Int32} (h1 : vp_in (x3 + (1 : Int32)) L) (h2 : vp_in (x3 + (2 : Int32)) L) (h3 : vp_in (x3 + (3 : Int32)) L) (h4 : vp_in (x3 + (4 : Int32)) L) {H : Heap} {locs : List Loc} {ls : Array Slot} (hI : lw_I D cI cO cB adc adm s H locs σ τ) (hl : lv_has ls 4 [(0, .ref b), (1, .ref (adc 0)), (2, .ref (adm 0)), (3, .int x3)]) (kk : ∀ (σ' τ' : fw_T) (H : Heap) (locs : List Loc), Rel σ' τ' → lw_I D cI cO cB adc adm s H locs σ' τ' → W p l e room_1 s m #[Value.ref b] below meth c H locs 103 1913 Q (F0 m 983 ls [])) : W p l e room_1 s m #[Value.ref b] below meth c H locs 103 1913 Q (F0 m 502 ls []) := by
  have hx := hC.1.1.1
  have hb := hC.1.1.2.1
  have hbA : ¬ (fun q : Nat => s.heap.size ≤ q) b := Nat.not_le.mpr hC.2.2.2
  obtain ⟨r, σ', τ', e1, e2, hR'⟩ := hs σ τ hR
  refine lv_aload_n hx hb dL_law_502 rfl (lv_at hl 1 rfl) ?_
  refine lw_ci (As := []) (rest := []) hC.1 hI (kX7_answerCount e1) qX7_answerCount tw_2_133 ⟨Nat.le_of_ble_eq_true rfl, Nat.le_of_ble_eq_true rfl⟩ rfl rfl rfl hl.1 rfl (Nat.le_of_ble_eq_true rfl) dL_law_503 ⟨Nat.le_of_ble_eq_true rfl, Nat.le_of_ble_eq_true rfl⟩ (fun H locs hI => ?_)
  refine lv_aload_n hx hb dL_law_506 rfl (lv_at hl 2 rfl) ?_
  refine lw_mi (As := []) (rest := [.int r]) hC.2.1 hI (kX8_answerCount e2) qX8_answerCount tw_4_117 ⟨Nat.le_of_ble_eq_true rfl, Nat.le_of_ble_eq_true rfl⟩ rfl rfl rfl hl.1 rfl (Nat.le_of_ble_eq_true rfl) dL_law_507 ⟨Nat.le_of_ble_eq_true rfl, Nat.le_of_ble_eq_true rfl⟩ (fun H locs hI => ?_)
  exact lv_icmp_eq (tgt := 983) hx hb dL_law_510 (by decide) (fun _ => kk _ _ _ _ hR' hI) (fun hc => absurd rfl hc)
set_option maxRecDepth 100000 in
set_option maxHeartbeats 4000000 in
theorem lc_13 (hC : lw_Cx p s m meth c D cI cO cB b L xs) (hs : sm1 Rel pX7_answer pX8_answer) {σ τ : fw_T} (hR : Rel σ τ) {x3 : Int32} (h1 : vp_in (x3 + (1 : Int32)) L) (h2 : vp_in (x3 + (2 : Int32)) L) (h3 : vp_in (x3 + (3 : Int32)) L) (h4 : vp_in (x3 + (4 : Int32)) L) {H : Heap} {locs : List Loc} {ls : Array Slot} (hI : lw_I D cI cO cB adc adm s H locs σ τ) (hl : lv_has ls 4 [(0, .ref b), (1, .ref (adc 0)), (2, .ref (adm 0)), (3, .int x3)]) (kk : ∀ (σ' τ' : fw_T) (H : Heap) (locs : List Loc), Rel σ' τ' → lw_I D cI cO cB adc adm s H locs σ' τ' → W p l e room_1 s m #[Value.ref b] below meth c H locs 103 1913 Q (F0 m 983 ls [])) : W p l e room_1 s m #[Value.ref b] below meth c H locs 103 1913 Q (F0 m 515 ls []) := by
  have hx := hC.1.1.1
  have hb := hC.1.1.2.1
  have hbA : ¬ (fun q : Nat => s.heap.size ≤ q) b := Nat.not_le.mpr hC.2.2.2
  obtain ⟨r, σ', τ', e1, e2, hR'⟩ := hs (xs (x3 + (1 : Int32)).toNatClampNeg) σ τ hR
  refine lv_aload_n hx hb dL_law_515 rfl (lv_at hl 1 rfl) ?_
  refine lv_aload_n hx hb dL_law_516 rfl (lv_at hl 0 rfl) ?_
  refine lv_iload_n hx hb dL_law_517 rfl (lv_at hl 3 rfl) ?_
  refine lv_iconst (v := (1 : Int32)) hx hb dL_law_518 (by decide) ?_
  refine lv_iadd hx hb dL_law_519 ?_
  refine va_sld hx hb hC.2.2.1 hC.2.2.2 hbA hI.2.2.2 h1 dL_law_520 ?_
  refine lw_ci (As := [.int (xs (x3 + (1 : Int32)).toNatClampNeg)]) (rest := []) hC.1 hI (kX7_answer e1) qX7_answer tw_2_154 ⟨Nat.le_of_ble_eq_true rfl, Nat.le_of_ble_eq_true rfl⟩ rfl rfl rfl hl.1 rfl (Nat.le_of_ble_eq_true rfl) dL_law_521 ⟨Nat.le_of_ble_eq_true rfl, Nat.le_of_ble_eq_true rfl⟩ (fun H locs hI => ?_)
  refine lv_aload_n hx hb dL_law_524 rfl (lv_at hl 2 rfl) ?_
  refine lv_aload_n hx hb dL_law_525 rfl (lv_at hl 0 rfl) ?_
  refine lv_iload_n hx hb dL_law_526 rfl (lv_at hl 3 rfl) ?_
  refine lv_iconst (v := (1 : Int32)) hx hb dL_law_527 (by decide) ?_
  refine lv_iadd hx hb dL_law_528 ?_
  refine va_sld hx hb hC.2.2.1 hC.2.2.2 hbA hI.2.2.2 h1 dL_law_529 ?_
  refine lw_mi (As := [.int (xs (x3 + (1 : Int32)).toNatClampNeg)]) (rest := [.int r]) hC.2.1 hI (kX8_answer e2) qX8_answer tw_4_149 ⟨Nat.le_of_ble_eq_true rfl, Nat.le_of_ble_eq_true rfl⟩ rfl rfl rfl hl.1 rfl (Nat.le_of_ble_eq_true rfl) dL_law_530 ⟨Nat.le_of_ble_eq_true rfl, Nat.le_of_ble_eq_true rfl⟩ (fun H locs hI => ?_)
  exact lv_icmp_eq (tgt := 983) hx hb dL_law_533 (by decide) (fun _ => kk _ _ _ _ hR' hI) (fun hc => absurd rfl hc)
set_option maxRecDepth 100000 in
set_option maxHeartbeats 4000000 in
theorem lc_14 (hC : lw_Cx p s m meth c D cI cO cB b L xs) (hs : sm2 Rel pX7_matchCount pX8_matchCount) {σ τ : fw_T} (hR : Rel σ τ) {x3 : Int32} (h1 : vp_in (x3 + (1 : Int32)) L) (h2 : vp_in (x3 + (2 : Int32)) L) (h3 : vp_in (x3 + (3 : Int32)) L) (h4 : vp_in (x3 + (4 : Int32)) L) {H : Heap} {locs : List Loc} {ls : Array Slot} (hI : lw_I D cI cO cB adc adm s H locs σ τ) (hl : lv_has ls 4 [(0, .ref b), (1, .ref (adc 0)), (2, .ref (adm 0)), (3, .int x3)]) (kk : ∀ (σ' τ' : fw_T) (H : Heap) (locs : List Loc), Rel σ' τ' → lw_I D cI cO cB adc adm s H locs σ' τ' → W p l e room_1 s m #[Value.ref b] below meth c H locs 103 1913 Q (F0 m 983 ls [])) : W p l e room_1 s m #[Value.ref b] below meth c H locs 103 1913 Q (F0 m 538 ls []) := by
  have hx := hC.1.1.1
  have hb := hC.1.1.2.1
  have hbA : ¬ (fun q : Nat => s.heap.size ≤ q) b := Nat.not_le.mpr hC.2.2.2
  obtain ⟨r, σ', τ', e1, e2, hR'⟩ := hs (xs (x3 + (1 : Int32)).toNatClampNeg) (xs (x3 + (2 : Int32)).toNatClampNeg) σ τ hR
  refine lv_aload_n hx hb dL_law_538 rfl (lv_at hl 1 rfl) ?_
  refine lv_aload_n hx hb dL_law_539 rfl (lv_at hl 0 rfl) ?_
  refine lv_iload_n hx hb dL_law_540 rfl (lv_at hl 3 rfl) ?_
  refine lv_iconst (v := (1 : Int32)) hx hb dL_law_541 (by decide) ?_
  refine lv_iadd hx hb dL_law_542 ?_
  refine va_sld hx hb hC.2.2.1 hC.2.2.2 hbA hI.2.2.2 h1 dL_law_543 ?_
  refine lv_aload_n hx hb dL_law_544 rfl (lv_at hl 0 rfl) ?_
  refine lv_iload_n hx hb dL_law_545 rfl (lv_at hl 3 rfl) ?_
  refine lv_iconst (v := (2 : Int32)) hx hb dL_law_546 (by decide) ?_
  refine lv_iadd hx hb dL_law_547 ?_
  refine va_sld hx hb hC.2.2.1 hC.2.2.2 hbA hI.2.2.2 h2 dL_law_548 ?_
  refine lw_ci (As := [.int (xs (x3 + (1 : Int32)).toNatClampNeg), .int (xs (x3 + (2 : Int32)).toNatClampNeg)]) (rest := []) hC.1 hI (kX7_matchCount e1) qX7_matchCount tw_2_162 ⟨Nat.le_of_ble_eq_true rfl, Nat.le_of_ble_eq_true rfl⟩ rfl rfl rfl hl.1 rfl (Nat.le_of_ble_eq_true rfl) dL_law_549 ⟨Nat.le_of_ble_eq_true rfl, Nat.le_of_ble_eq_true rfl⟩ (fun H locs hI => ?_)
  refine lv_aload_n hx hb dL_law_552 rfl (lv_at hl 2 rfl) ?_
  refine lv_aload_n hx hb dL_law_553 rfl (lv_at hl 0 rfl) ?_
  refine lv_iload_n hx hb dL_law_554 rfl (lv_at hl 3 rfl) ?_
  refine lv_iconst (v := (1 : Int32)) hx hb dL_law_555 (by decide) ?_
  refine lv_iadd hx hb dL_law_556 ?_
  refine va_sld hx hb hC.2.2.1 hC.2.2.2 hbA hI.2.2.2 h1 dL_law_557 ?_
  refine lv_aload_n hx hb dL_law_558 rfl (lv_at hl 0 rfl) ?_
  refine lv_iload_n hx hb dL_law_559 rfl (lv_at hl 3 rfl) ?_
  refine lv_iconst (v := (2 : Int32)) hx hb dL_law_560 (by decide) ?_
  refine lv_iadd hx hb dL_law_561 ?_
  refine va_sld hx hb hC.2.2.1 hC.2.2.2 hbA hI.2.2.2 h2 dL_law_562 ?_
  refine lw_mi (As := [.int (xs (x3 + (1 : Int32)).toNatClampNeg), .int (xs (x3 + (2 : Int32)).toNatClampNeg)]) (rest := [.int r]) hC.2.1 hI (kX8_matchCount e2) qX8_matchCount tw_4_157 ⟨Nat.le_of_ble_eq_true rfl, Nat.le_of_ble_eq_true rfl⟩ rfl rfl rfl hl.1 rfl (Nat.le_of_ble_eq_true rfl) dL_law_563 ⟨Nat.le_of_ble_eq_true rfl, Nat.le_of_ble_eq_true rfl⟩ (fun H locs hI => ?_)
  exact lv_icmp_eq (tgt := 983) hx hb dL_law_566 (by decide) (fun _ => kk _ _ _ _ hR' hI) (fun hc => absurd rfl hc)
set_option maxRecDepth 100000 in
set_option maxHeartbeats 4000000 in
theorem lc_15 (hC : lw_Cx p s m meth c D cI cO cB b L xs) (hs : sm2 Rel pX7_blame pX8_blame) {σ τ : fw_T} (hR : Rel σ τ) {x3 : Int32} (h1 : vp_in (x3 + (1 : Int32)) L) (h2 : vp_in (x3 + (2 : Int32)) L) (h3 : vp_in (x3 + (3 : Int32)) L) (h4 : vp_in (x3 + (4 : Int32)) L) {H : Heap} {locs : List Loc} {ls : Array Slot} (hI : lw_I D cI cO cB adc adm s H locs σ τ) (hl : lv_has ls 4 [(0, .ref b), (1, .ref (adc 0)), (2, .ref (adm 0)), (3, .int x3)]) (kk : ∀ (σ' τ' : fw_T) (H : Heap) (locs : List Loc), Rel σ' τ' → lw_I D cI cO cB adc adm s H locs σ' τ' → W p l e room_1 s m #[Value.ref b] below meth c H locs 103 1913 Q (F0 m 983 ls [])) : W p l e room_1 s m #[Value.ref b] below meth c H locs 103 1913 Q (F0 m 571 ls []) := by
  have hx := hC.1.1.1
  have hb := hC.1.1.2.1
  have hbA : ¬ (fun q : Nat => s.heap.size ≤ q) b := Nat.not_le.mpr hC.2.2.2
  obtain ⟨r, σ', τ', e1, e2, hR'⟩ := hs (xs (x3 + (1 : Int32)).toNatClampNeg) (xs (x3 + (2 : Int32)).toNatClampNeg) σ τ hR
  refine lv_aload_n hx hb dL_law_571 rfl (lv_at hl 1 rfl) ?_
  refine lv_aload_n hx hb dL_law_572 rfl (lv_at hl 0 rfl) ?_
  refine lv_iload_n hx hb dL_law_573 rfl (lv_at hl 3 rfl) ?_
  refine lv_iconst (v := (1 : Int32)) hx hb dL_law_574 (by decide) ?_
  refine lv_iadd hx hb dL_law_575 ?_
  refine va_sld hx hb hC.2.2.1 hC.2.2.2 hbA hI.2.2.2 h1 dL_law_576 ?_
  refine lv_aload_n hx hb dL_law_577 rfl (lv_at hl 0 rfl) ?_
  refine lv_iload_n hx hb dL_law_578 rfl (lv_at hl 3 rfl) ?_
  refine lv_iconst (v := (2 : Int32)) hx hb dL_law_579 (by decide) ?_
  refine lv_iadd hx hb dL_law_580 ?_
  refine va_sld hx hb hC.2.2.1 hC.2.2.2 hbA hI.2.2.2 h2 dL_law_581 ?_
  refine lw_ci (As := [.int (xs (x3 + (1 : Int32)).toNatClampNeg), .int (xs (x3 + (2 : Int32)).toNatClampNeg)]) (rest := []) hC.1 hI (kX7_blame e1) qX7_blame tw_2_188 ⟨Nat.le_of_ble_eq_true rfl, Nat.le_of_ble_eq_true rfl⟩ rfl rfl rfl hl.1 rfl (Nat.le_of_ble_eq_true rfl) dL_law_582 ⟨Nat.le_of_ble_eq_true rfl, Nat.le_of_ble_eq_true rfl⟩ (fun H locs hI => ?_)
  refine lv_aload_n hx hb dL_law_585 rfl (lv_at hl 2 rfl) ?_
  refine lv_aload_n hx hb dL_law_586 rfl (lv_at hl 0 rfl) ?_
  refine lv_iload_n hx hb dL_law_587 rfl (lv_at hl 3 rfl) ?_
  refine lv_iconst (v := (1 : Int32)) hx hb dL_law_588 (by decide) ?_
  refine lv_iadd hx hb dL_law_589 ?_
  refine va_sld hx hb hC.2.2.1 hC.2.2.2 hbA hI.2.2.2 h1 dL_law_590 ?_
  refine lv_aload_n hx hb dL_law_591 rfl (lv_at hl 0 rfl) ?_
  refine lv_iload_n hx hb dL_law_592 rfl (lv_at hl 3 rfl) ?_
  refine lv_iconst (v := (2 : Int32)) hx hb dL_law_593 (by decide) ?_
  refine lv_iadd hx hb dL_law_594 ?_
  refine va_sld hx hb hC.2.2.1 hC.2.2.2 hbA hI.2.2.2 h2 dL_law_595 ?_
  refine lw_mi (As := [.int (xs (x3 + (1 : Int32)).toNatClampNeg), .int (xs (x3 + (2 : Int32)).toNatClampNeg)]) (rest := [.int r]) hC.2.1 hI (kX8_blame e2) qX8_blame tw_4_161 ⟨Nat.le_of_ble_eq_true rfl, Nat.le_of_ble_eq_true rfl⟩ rfl rfl rfl hl.1 rfl (Nat.le_of_ble_eq_true rfl) dL_law_596 ⟨Nat.le_of_ble_eq_true rfl, Nat.le_of_ble_eq_true rfl⟩ (fun H locs hI => ?_)
  exact lv_icmp_eq (tgt := 983) hx hb dL_law_599 (by decide) (fun _ => kk _ _ _ _ hR' hI) (fun hc => absurd rfl hc)
set_option maxRecDepth 100000 in
set_option maxHeartbeats 4000000 in
theorem lc_16 (hC : lw_Cx p s m meth c D cI cO cB b L xs) (hs : sm2 Rel pX7_filtersToRemove pX8_filtersToRemove) {σ τ : fw_T} (hR : Rel σ τ) {x3 : Int32} (h1 : vp_in (x3 + (1 : Int32)) L) (h2 : vp_in (x3 + (2 : Int32)) L) (h3 : vp_in (x3 + (3 : Int32)) L) (h4 : vp_in (x3 + (4 : Int32)) L) {H : Heap} {locs : List Loc} {ls : Array Slot} (hI : lw_I D cI cO cB adc adm s H locs σ τ) (hl : lv_has ls 4 [(0, .ref b), (1, .ref (adc 0)), (2, .ref (adm 0)), (3, .int x3)]) (kk : ∀ (σ' τ' : fw_T) (H : Heap) (locs : List Loc), Rel σ' τ' → lw_I D cI cO cB adc adm s H locs σ' τ' → W p l e room_1 s m #[Value.ref b] below meth c H locs 103 1913 Q (F0 m 983 ls [])) : W p l e room_1 s m #[Value.ref b] below meth c H locs 103 1913 Q (F0 m 604 ls []) := by
  have hx := hC.1.1.1
  have hb := hC.1.1.2.1
  have hbA : ¬ (fun q : Nat => s.heap.size ≤ q) b := Nat.not_le.mpr hC.2.2.2
  obtain ⟨r, σ', τ', e1, e2, hR'⟩ := hs (xs (x3 + (1 : Int32)).toNatClampNeg) (xs (x3 + (2 : Int32)).toNatClampNeg) σ τ hR
  refine lv_aload_n hx hb dL_law_604 rfl (lv_at hl 1 rfl) ?_
  refine lv_aload_n hx hb dL_law_605 rfl (lv_at hl 0 rfl) ?_
  refine lv_iload_n hx hb dL_law_606 rfl (lv_at hl 3 rfl) ?_
  refine lv_iconst (v := (1 : Int32)) hx hb dL_law_607 (by decide) ?_
  refine lv_iadd hx hb dL_law_608 ?_
  refine va_sld hx hb hC.2.2.1 hC.2.2.2 hbA hI.2.2.2 h1 dL_law_609 ?_
  refine lv_aload_n hx hb dL_law_610 rfl (lv_at hl 0 rfl) ?_
  refine lv_iload_n hx hb dL_law_611 rfl (lv_at hl 3 rfl) ?_
  refine lv_iconst (v := (2 : Int32)) hx hb dL_law_612 (by decide) ?_
  refine lv_iadd hx hb dL_law_613 ?_
  refine va_sld hx hb hC.2.2.1 hC.2.2.2 hbA hI.2.2.2 h2 dL_law_614 ?_
  refine lw_ci (As := [.int (xs (x3 + (1 : Int32)).toNatClampNeg), .int (xs (x3 + (2 : Int32)).toNatClampNeg)]) (rest := []) hC.1 hI (kX7_filtersToRemove e1) qX7_filtersToRemove tw_2_208 ⟨Nat.le_of_ble_eq_true rfl, Nat.le_of_ble_eq_true rfl⟩ rfl rfl rfl hl.1 rfl (Nat.le_of_ble_eq_true rfl) dL_law_615 ⟨Nat.le_of_ble_eq_true rfl, Nat.le_of_ble_eq_true rfl⟩ (fun H locs hI => ?_)
  refine lv_aload_n hx hb dL_law_618 rfl (lv_at hl 2 rfl) ?_
  refine lv_aload_n hx hb dL_law_619 rfl (lv_at hl 0 rfl) ?_
  refine lv_iload_n hx hb dL_law_620 rfl (lv_at hl 3 rfl) ?_
  refine lv_iconst (v := (1 : Int32)) hx hb dL_law_621 (by decide) ?_
  refine lv_iadd hx hb dL_law_622 ?_
  refine va_sld hx hb hC.2.2.1 hC.2.2.2 hbA hI.2.2.2 h1 dL_law_623 ?_
  refine lv_aload_n hx hb dL_law_624 rfl (lv_at hl 0 rfl) ?_
  refine lv_iload_n hx hb dL_law_625 rfl (lv_at hl 3 rfl) ?_
  refine lv_iconst (v := (2 : Int32)) hx hb dL_law_626 (by decide) ?_
  refine lv_iadd hx hb dL_law_627 ?_
  refine va_sld hx hb hC.2.2.1 hC.2.2.2 hbA hI.2.2.2 h2 dL_law_628 ?_
  refine lw_mi (As := [.int (xs (x3 + (1 : Int32)).toNatClampNeg), .int (xs (x3 + (2 : Int32)).toNatClampNeg)]) (rest := [.int r]) hC.2.1 hI (kX8_filtersToRemove e2) qX8_filtersToRemove tw_4_173 ⟨Nat.le_of_ble_eq_true rfl, Nat.le_of_ble_eq_true rfl⟩ rfl rfl rfl hl.1 rfl (Nat.le_of_ble_eq_true rfl) dL_law_629 ⟨Nat.le_of_ble_eq_true rfl, Nat.le_of_ble_eq_true rfl⟩ (fun H locs hI => ?_)
  exact lv_icmp_eq (tgt := 983) hx hb dL_law_632 (by decide) (fun _ => kk _ _ _ _ hR' hI) (fun hc => absurd rfl hc)
set_option maxRecDepth 100000 in
set_option maxHeartbeats 4000000 in
theorem lc_17 (hC : lw_Cx p s m meth c D cI cO cB b L xs) (hs : sm3 Rel pX7_repairedConstant pX8_repairedConstant) {σ τ : fw_T} (hR : Rel σ τ) {x3 : Int32} (h1 : vp_in (x3 + (1 : Int32)) L) (h2 : vp_in (x3 + (2 : Int32)) L) (h3 : vp_in (x3 + (3 : Int32)) L) (h4 : vp_in (x3 + (4 : Int32)) L) {H : Heap} {locs : List Loc} {ls : Array Slot} (hI : lw_I D cI cO cB adc adm s H locs σ τ) (hl : lv_has ls 4 [(0, .ref b), (1, .ref (adc 0)), (2, .ref (adm 0)), (3, .int x3)]) (kk : ∀ (σ' τ' : fw_T) (H : Heap) (locs : List Loc), Rel σ' τ' → lw_I D cI cO cB adc adm s H locs σ' τ' → W p l e room_1 s m #[Value.ref b] below meth c H locs 103 1913 Q (F0 m 983 ls [])) : W p l e room_1 s m #[Value.ref b] below meth c H locs 103 1913 Q (F0 m 637 ls []) := by
  have hx := hC.1.1.1
  have hb := hC.1.1.2.1
  have hbA : ¬ (fun q : Nat => s.heap.size ≤ q) b := Nat.not_le.mpr hC.2.2.2
  obtain ⟨r, σ', τ', e1, e2, hR'⟩ := hs (xs (x3 + (1 : Int32)).toNatClampNeg) (xs (x3 + (2 : Int32)).toNatClampNeg) (xs (x3 + (3 : Int32)).toNatClampNeg) σ τ hR
  refine lv_aload_n hx hb dL_law_637 rfl (lv_at hl 1 rfl) ?_
  refine lv_aload_n hx hb dL_law_638 rfl (lv_at hl 0 rfl) ?_
  refine lv_iload_n hx hb dL_law_639 rfl (lv_at hl 3 rfl) ?_
  refine lv_iconst (v := (1 : Int32)) hx hb dL_law_640 (by decide) ?_
  refine lv_iadd hx hb dL_law_641 ?_
  refine va_sld hx hb hC.2.2.1 hC.2.2.2 hbA hI.2.2.2 h1 dL_law_642 ?_
  refine lv_aload_n hx hb dL_law_643 rfl (lv_at hl 0 rfl) ?_
  refine lv_iload_n hx hb dL_law_644 rfl (lv_at hl 3 rfl) ?_
  refine lv_iconst (v := (2 : Int32)) hx hb dL_law_645 (by decide) ?_
  refine lv_iadd hx hb dL_law_646 ?_
  refine va_sld hx hb hC.2.2.1 hC.2.2.2 hbA hI.2.2.2 h2 dL_law_647 ?_
  refine lv_aload_n hx hb dL_law_648 rfl (lv_at hl 0 rfl) ?_
  refine lv_iload_n hx hb dL_law_649 rfl (lv_at hl 3 rfl) ?_
  refine lv_iconst (v := (3 : Int32)) hx hb dL_law_650 (by decide) ?_
  refine lv_iadd hx hb dL_law_651 ?_
  refine va_sld hx hb hC.2.2.1 hC.2.2.2 hbA hI.2.2.2 h3 dL_law_652 ?_
  refine lw_ci (As := [.int (xs (x3 + (1 : Int32)).toNatClampNeg), .int (xs (x3 + (2 : Int32)).toNatClampNeg), .int (xs (x3 + (3 : Int32)).toNatClampNeg)]) (rest := []) hC.1 hI (kX7_repairedConstant e1) qX7_repairedConstant tw_2_225 ⟨Nat.le_of_ble_eq_true rfl, Nat.le_of_ble_eq_true rfl⟩ rfl rfl rfl hl.1 rfl (Nat.le_of_ble_eq_true rfl) dL_law_653 ⟨Nat.le_of_ble_eq_true rfl, Nat.le_of_ble_eq_true rfl⟩ (fun H locs hI => ?_)
  refine lv_aload_n hx hb dL_law_656 rfl (lv_at hl 2 rfl) ?_
  refine lv_aload_n hx hb dL_law_657 rfl (lv_at hl 0 rfl) ?_
  refine lv_iload_n hx hb dL_law_658 rfl (lv_at hl 3 rfl) ?_
  refine lv_iconst (v := (1 : Int32)) hx hb dL_law_659 (by decide) ?_
  refine lv_iadd hx hb dL_law_660 ?_
  refine va_sld hx hb hC.2.2.1 hC.2.2.2 hbA hI.2.2.2 h1 dL_law_661 ?_
  refine lv_aload_n hx hb dL_law_662 rfl (lv_at hl 0 rfl) ?_
  refine lv_iload_n hx hb dL_law_663 rfl (lv_at hl 3 rfl) ?_
  refine lv_iconst (v := (2 : Int32)) hx hb dL_law_664 (by decide) ?_
  refine lv_iadd hx hb dL_law_665 ?_
  refine va_sld hx hb hC.2.2.1 hC.2.2.2 hbA hI.2.2.2 h2 dL_law_666 ?_
  refine lv_aload_n hx hb dL_law_667 rfl (lv_at hl 0 rfl) ?_
  refine lv_iload_n hx hb dL_law_668 rfl (lv_at hl 3 rfl) ?_
  refine lv_iconst (v := (3 : Int32)) hx hb dL_law_669 (by decide) ?_
  refine lv_iadd hx hb dL_law_670 ?_
  refine va_sld hx hb hC.2.2.1 hC.2.2.2 hbA hI.2.2.2 h3 dL_law_671 ?_
  refine lw_mi (As := [.int (xs (x3 + (1 : Int32)).toNatClampNeg), .int (xs (x3 + (2 : Int32)).toNatClampNeg), .int (xs (x3 + (3 : Int32)).toNatClampNeg)]) (rest := [.int r]) hC.2.1 hI (kX8_repairedConstant e2) qX8_repairedConstant tw_4_184 ⟨Nat.le_of_ble_eq_true rfl, Nat.le_of_ble_eq_true rfl⟩ rfl rfl rfl hl.1 rfl (Nat.le_of_ble_eq_true rfl) dL_law_672 ⟨Nat.le_of_ble_eq_true rfl, Nat.le_of_ble_eq_true rfl⟩ (fun H locs hI => ?_)
  exact lv_icmp_eq (tgt := 983) hx hb dL_law_675 (by decide) (fun _ => kk _ _ _ _ hR' hI) (fun hc => absurd rfl hc)
set_option maxRecDepth 100000 in
set_option maxHeartbeats 4000000 in
theorem lc_18 (hC : lw_Cx p s m meth c D cI cO cB b L xs) (hs : sm2 Rel pX7_missingRows pX8_missingRows) {σ τ : fw_T} (hR : Rel σ τ) {x3 : Int32} (h1 : vp_in (x3 + (1 : Int32)) L) (h2 : vp_in (x3 + (2 : Int32)) L) (h3 : vp_in (x3 + (3 : Int32)) L) (h4 : vp_in (x3 + (4 : Int32)) L) {H : Heap} {locs : List Loc} {ls : Array Slot} (hI : lw_I D cI cO cB adc adm s H locs σ τ) (hl : lv_has ls 4 [(0, .ref b), (1, .ref (adc 0)), (2, .ref (adm 0)), (3, .int x3)]) (kk : ∀ (σ' τ' : fw_T) (H : Heap) (locs : List Loc), Rel σ' τ' → lw_I D cI cO cB adc adm s H locs σ' τ' → W p l e room_1 s m #[Value.ref b] below meth c H locs 103 1913 Q (F0 m 983 ls [])) : W p l e room_1 s m #[Value.ref b] below meth c H locs 103 1913 Q (F0 m 680 ls []) := by
  have hx := hC.1.1.1
  have hb := hC.1.1.2.1
  have hbA : ¬ (fun q : Nat => s.heap.size ≤ q) b := Nat.not_le.mpr hC.2.2.2
  obtain ⟨r, σ', τ', e1, e2, hR'⟩ := hs (xs (x3 + (1 : Int32)).toNatClampNeg) (xs (x3 + (2 : Int32)).toNatClampNeg) σ τ hR
  refine lv_aload_n hx hb dL_law_680 rfl (lv_at hl 1 rfl) ?_
  refine lv_aload_n hx hb dL_law_681 rfl (lv_at hl 0 rfl) ?_
  refine lv_iload_n hx hb dL_law_682 rfl (lv_at hl 3 rfl) ?_
  refine lv_iconst (v := (1 : Int32)) hx hb dL_law_683 (by decide) ?_
  refine lv_iadd hx hb dL_law_684 ?_
  refine va_sld hx hb hC.2.2.1 hC.2.2.2 hbA hI.2.2.2 h1 dL_law_685 ?_
  refine lv_aload_n hx hb dL_law_686 rfl (lv_at hl 0 rfl) ?_
  refine lv_iload_n hx hb dL_law_687 rfl (lv_at hl 3 rfl) ?_
  refine lv_iconst (v := (2 : Int32)) hx hb dL_law_688 (by decide) ?_
  refine lv_iadd hx hb dL_law_689 ?_
  refine va_sld hx hb hC.2.2.1 hC.2.2.2 hbA hI.2.2.2 h2 dL_law_690 ?_
  refine lw_ci (As := [.int (xs (x3 + (1 : Int32)).toNatClampNeg), .int (xs (x3 + (2 : Int32)).toNatClampNeg)]) (rest := []) hC.1 hI (kX7_missingRows e1) qX7_missingRows tw_3_10 ⟨Nat.le_of_ble_eq_true rfl, Nat.le_of_ble_eq_true rfl⟩ rfl rfl rfl hl.1 rfl (Nat.le_of_ble_eq_true rfl) dL_law_691 ⟨Nat.le_of_ble_eq_true rfl, Nat.le_of_ble_eq_true rfl⟩ (fun H locs hI => ?_)
  refine lv_aload_n hx hb dL_law_694 rfl (lv_at hl 2 rfl) ?_
  refine lv_aload_n hx hb dL_law_695 rfl (lv_at hl 0 rfl) ?_
  refine lv_iload_n hx hb dL_law_696 rfl (lv_at hl 3 rfl) ?_
  refine lv_iconst (v := (1 : Int32)) hx hb dL_law_697 (by decide) ?_
  refine lv_iadd hx hb dL_law_698 ?_
  refine va_sld hx hb hC.2.2.1 hC.2.2.2 hbA hI.2.2.2 h1 dL_law_699 ?_
  refine lv_aload_n hx hb dL_law_700 rfl (lv_at hl 0 rfl) ?_
  refine lv_iload_n hx hb dL_law_701 rfl (lv_at hl 3 rfl) ?_
  refine lv_iconst (v := (2 : Int32)) hx hb dL_law_702 (by decide) ?_
  refine lv_iadd hx hb dL_law_703 ?_
  refine va_sld hx hb hC.2.2.1 hC.2.2.2 hbA hI.2.2.2 h2 dL_law_704 ?_
  refine lw_mi (As := [.int (xs (x3 + (1 : Int32)).toNatClampNeg), .int (xs (x3 + (2 : Int32)).toNatClampNeg)]) (rest := [.int r]) hC.2.1 hI (kX8_missingRows e2) qX8_missingRows tw_4_188 ⟨Nat.le_of_ble_eq_true rfl, Nat.le_of_ble_eq_true rfl⟩ rfl rfl rfl hl.1 rfl (Nat.le_of_ble_eq_true rfl) dL_law_705 ⟨Nat.le_of_ble_eq_true rfl, Nat.le_of_ble_eq_true rfl⟩ (fun H locs hI => ?_)
  exact lv_icmp_eq (tgt := 983) hx hb dL_law_708 (by decide) (fun _ => kk _ _ _ _ hR' hI) (fun hc => absurd rfl hc)
set_option maxRecDepth 100000 in
set_option maxHeartbeats 4000000 in
theorem lc_19 (hC : lw_Cx p s m meth c D cI cO cB b L xs) (hs : sm2 Rel pX7_missingB pX8_missingB) {σ τ : fw_T} (hR : Rel σ τ) {x3 : Int32} (h1 : vp_in (x3 + (1 : Int32)) L) (h2 : vp_in (x3 + (2 : Int32)) L) (h3 : vp_in (x3 + (3 : Int32)) L) (h4 : vp_in (x3 + (4 : Int32)) L) {H : Heap} {locs : List Loc} {ls : Array Slot} (hI : lw_I D cI cO cB adc adm s H locs σ τ) (hl : lv_has ls 4 [(0, .ref b), (1, .ref (adc 0)), (2, .ref (adm 0)), (3, .int x3)]) (kk : ∀ (σ' τ' : fw_T) (H : Heap) (locs : List Loc), Rel σ' τ' → lw_I D cI cO cB adc adm s H locs σ' τ' → W p l e room_1 s m #[Value.ref b] below meth c H locs 103 1913 Q (F0 m 983 ls [])) : W p l e room_1 s m #[Value.ref b] below meth c H locs 103 1913 Q (F0 m 713 ls []) := by
  have hx := hC.1.1.1
  have hb := hC.1.1.2.1
  have hbA : ¬ (fun q : Nat => s.heap.size ≤ q) b := Nat.not_le.mpr hC.2.2.2
  obtain ⟨r, σ', τ', e1, e2, hR'⟩ := hs (xs (x3 + (1 : Int32)).toNatClampNeg) (xs (x3 + (2 : Int32)).toNatClampNeg) σ τ hR
  refine lv_aload_n hx hb dL_law_713 rfl (lv_at hl 1 rfl) ?_
  refine lv_aload_n hx hb dL_law_714 rfl (lv_at hl 0 rfl) ?_
  refine lv_iload_n hx hb dL_law_715 rfl (lv_at hl 3 rfl) ?_
  refine lv_iconst (v := (1 : Int32)) hx hb dL_law_716 (by decide) ?_
  refine lv_iadd hx hb dL_law_717 ?_
  refine va_sld hx hb hC.2.2.1 hC.2.2.2 hbA hI.2.2.2 h1 dL_law_718 ?_
  refine lv_aload_n hx hb dL_law_719 rfl (lv_at hl 0 rfl) ?_
  refine lv_iload_n hx hb dL_law_720 rfl (lv_at hl 3 rfl) ?_
  refine lv_iconst (v := (2 : Int32)) hx hb dL_law_721 (by decide) ?_
  refine lv_iadd hx hb dL_law_722 ?_
  refine va_sld hx hb hC.2.2.1 hC.2.2.2 hbA hI.2.2.2 h2 dL_law_723 ?_
  refine lw_ci (As := [.int (xs (x3 + (1 : Int32)).toNatClampNeg), .int (xs (x3 + (2 : Int32)).toNatClampNeg)]) (rest := []) hC.1 hI (kX7_missingB e1) qX7_missingB tw_3_27 ⟨Nat.le_of_ble_eq_true rfl, Nat.le_of_ble_eq_true rfl⟩ rfl rfl rfl hl.1 rfl (Nat.le_of_ble_eq_true rfl) dL_law_724 ⟨Nat.le_of_ble_eq_true rfl, Nat.le_of_ble_eq_true rfl⟩ (fun H locs hI => ?_)
  refine lv_aload_n hx hb dL_law_727 rfl (lv_at hl 2 rfl) ?_
  refine lv_aload_n hx hb dL_law_728 rfl (lv_at hl 0 rfl) ?_
  refine lv_iload_n hx hb dL_law_729 rfl (lv_at hl 3 rfl) ?_
  refine lv_iconst (v := (1 : Int32)) hx hb dL_law_730 (by decide) ?_
  refine lv_iadd hx hb dL_law_731 ?_
  refine va_sld hx hb hC.2.2.1 hC.2.2.2 hbA hI.2.2.2 h1 dL_law_732 ?_
  refine lv_aload_n hx hb dL_law_733 rfl (lv_at hl 0 rfl) ?_
  refine lv_iload_n hx hb dL_law_734 rfl (lv_at hl 3 rfl) ?_
  refine lv_iconst (v := (2 : Int32)) hx hb dL_law_735 (by decide) ?_
  refine lv_iadd hx hb dL_law_736 ?_
  refine va_sld hx hb hC.2.2.1 hC.2.2.2 hbA hI.2.2.2 h2 dL_law_737 ?_
  refine lw_mi (As := [.int (xs (x3 + (1 : Int32)).toNatClampNeg), .int (xs (x3 + (2 : Int32)).toNatClampNeg)]) (rest := [.int r]) hC.2.1 hI (kX8_missingB e2) qX8_missingB tw_4_204 ⟨Nat.le_of_ble_eq_true rfl, Nat.le_of_ble_eq_true rfl⟩ rfl rfl rfl hl.1 rfl (Nat.le_of_ble_eq_true rfl) dL_law_738 ⟨Nat.le_of_ble_eq_true rfl, Nat.le_of_ble_eq_true rfl⟩ (fun H locs hI => ?_)
  exact lv_icmp_eq (tgt := 983) hx hb dL_law_741 (by decide) (fun _ => kk _ _ _ _ hR' hI) (fun hc => absurd rfl hc)
set_option maxRecDepth 100000 in
set_option maxHeartbeats 4000000 in
theorem lc_20 (hC : lw_Cx p s m meth c D cI cO cB b L xs) (hs : sm2 Rel pX7_insertMissing pX8_insertMissing) {σ τ : fw_T} (hR : Rel σ τ) {x3 : Int32} (h1 : vp_in (x3 + (1 : Int32)) L) (h2 : vp_in (x3 + (2 : Int32)) L) (h3 : vp_in (x3 + (3 : Int32)) L) (h4 : vp_in (x3 + (4 : Int32)) L) {H : Heap} {locs : List Loc} {ls : Array Slot} (hI : lw_I D cI cO cB adc adm s H locs σ τ) (hl : lv_has ls 4 [(0, .ref b), (1, .ref (adc 0)), (2, .ref (adm 0)), (3, .int x3)]) (kk : ∀ (σ' τ' : fw_T) (H : Heap) (locs : List Loc), Rel σ' τ' → lw_I D cI cO cB adc adm s H locs σ' τ' → W p l e room_1 s m #[Value.ref b] below meth c H locs 103 1913 Q (F0 m 983 ls [])) : W p l e room_1 s m #[Value.ref b] below meth c H locs 103 1913 Q (F0 m 746 ls []) := by
  have hx := hC.1.1.1
  have hb := hC.1.1.2.1
  have hbA : ¬ (fun q : Nat => s.heap.size ≤ q) b := Nat.not_le.mpr hC.2.2.2
  obtain ⟨r, σ', τ', e1, e2, hR'⟩ := hs (xs (x3 + (1 : Int32)).toNatClampNeg) (xs (x3 + (2 : Int32)).toNatClampNeg) σ τ hR
  refine lv_aload_n hx hb dL_law_746 rfl (lv_at hl 1 rfl) ?_
  refine lv_aload_n hx hb dL_law_747 rfl (lv_at hl 0 rfl) ?_
  refine lv_iload_n hx hb dL_law_748 rfl (lv_at hl 3 rfl) ?_
  refine lv_iconst (v := (1 : Int32)) hx hb dL_law_749 (by decide) ?_
  refine lv_iadd hx hb dL_law_750 ?_
  refine va_sld hx hb hC.2.2.1 hC.2.2.2 hbA hI.2.2.2 h1 dL_law_751 ?_
  refine lv_aload_n hx hb dL_law_752 rfl (lv_at hl 0 rfl) ?_
  refine lv_iload_n hx hb dL_law_753 rfl (lv_at hl 3 rfl) ?_
  refine lv_iconst (v := (2 : Int32)) hx hb dL_law_754 (by decide) ?_
  refine lv_iadd hx hb dL_law_755 ?_
  refine va_sld hx hb hC.2.2.1 hC.2.2.2 hbA hI.2.2.2 h2 dL_law_756 ?_
  refine lw_ci (As := [.int (xs (x3 + (1 : Int32)).toNatClampNeg), .int (xs (x3 + (2 : Int32)).toNatClampNeg)]) (rest := []) hC.1 hI (kX7_insertMissing e1) qX7_insertMissing tw_3_35 ⟨Nat.le_of_ble_eq_true rfl, Nat.le_of_ble_eq_true rfl⟩ rfl rfl rfl hl.1 rfl (Nat.le_of_ble_eq_true rfl) dL_law_757 ⟨Nat.le_of_ble_eq_true rfl, Nat.le_of_ble_eq_true rfl⟩ (fun H locs hI => ?_)
  refine lv_aload_n hx hb dL_law_760 rfl (lv_at hl 2 rfl) ?_
  refine lv_aload_n hx hb dL_law_761 rfl (lv_at hl 0 rfl) ?_
  refine lv_iload_n hx hb dL_law_762 rfl (lv_at hl 3 rfl) ?_
  refine lv_iconst (v := (1 : Int32)) hx hb dL_law_763 (by decide) ?_
  refine lv_iadd hx hb dL_law_764 ?_
  refine va_sld hx hb hC.2.2.1 hC.2.2.2 hbA hI.2.2.2 h1 dL_law_765 ?_
  refine lv_aload_n hx hb dL_law_766 rfl (lv_at hl 0 rfl) ?_
  refine lv_iload_n hx hb dL_law_767 rfl (lv_at hl 3 rfl) ?_
  refine lv_iconst (v := (2 : Int32)) hx hb dL_law_768 (by decide) ?_
  refine lv_iadd hx hb dL_law_769 ?_
  refine va_sld hx hb hC.2.2.1 hC.2.2.2 hbA hI.2.2.2 h2 dL_law_770 ?_
  refine lw_mi (As := [.int (xs (x3 + (1 : Int32)).toNatClampNeg), .int (xs (x3 + (2 : Int32)).toNatClampNeg)]) (rest := [.int r]) hC.2.1 hI (kX8_insertMissing e2) qX8_insertMissing tw_4_212 ⟨Nat.le_of_ble_eq_true rfl, Nat.le_of_ble_eq_true rfl⟩ rfl rfl rfl hl.1 rfl (Nat.le_of_ble_eq_true rfl) dL_law_771 ⟨Nat.le_of_ble_eq_true rfl, Nat.le_of_ble_eq_true rfl⟩ (fun H locs hI => ?_)
  exact lv_icmp_eq (tgt := 983) hx hb dL_law_774 (by decide) (fun _ => kk _ _ _ _ hR' hI) (fun hc => absurd rfl hc)
set_option maxRecDepth 100000 in
set_option maxHeartbeats 4000000 in
theorem lc_21 (hC : lw_Cx p s m meth c D cI cO cB b L xs) (hs : sm2 Rel pX7_loosen pX8_loosen) {σ τ : fw_T} (hR : Rel σ τ) {x3 : Int32} (h1 : vp_in (x3 + (1 : Int32)) L) (h2 : vp_in (x3 + (2 : Int32)) L) (h3 : vp_in (x3 + (3 : Int32)) L) (h4 : vp_in (x3 + (4 : Int32)) L) {H : Heap} {locs : List Loc} {ls : Array Slot} (hI : lw_I D cI cO cB adc adm s H locs σ τ) (hl : lv_has ls 4 [(0, .ref b), (1, .ref (adc 0)), (2, .ref (adm 0)), (3, .int x3)]) (kk : ∀ (σ' τ' : fw_T) (H : Heap) (locs : List Loc), Rel σ' τ' → lw_I D cI cO cB adc adm s H locs σ' τ' → W p l e room_1 s m #[Value.ref b] below meth c H locs 103 1913 Q (F0 m 983 ls [])) : W p l e room_1 s m #[Value.ref b] below meth c H locs 103 1913 Q (F0 m 779 ls []) := by
  have hx := hC.1.1.1
  have hb := hC.1.1.2.1
  have hbA : ¬ (fun q : Nat => s.heap.size ≤ q) b := Nat.not_le.mpr hC.2.2.2
  obtain ⟨r, σ', τ', e1, e2, hR'⟩ := hs (xs (x3 + (1 : Int32)).toNatClampNeg) (xs (x3 + (2 : Int32)).toNatClampNeg) σ τ hR
  refine lv_aload_n hx hb dL_law_779 rfl (lv_at hl 1 rfl) ?_
  refine lv_aload_n hx hb dL_law_780 rfl (lv_at hl 0 rfl) ?_
  refine lv_iload_n hx hb dL_law_781 rfl (lv_at hl 3 rfl) ?_
  refine lv_iconst (v := (1 : Int32)) hx hb dL_law_782 (by decide) ?_
  refine lv_iadd hx hb dL_law_783 ?_
  refine va_sld hx hb hC.2.2.1 hC.2.2.2 hbA hI.2.2.2 h1 dL_law_784 ?_
  refine lv_aload_n hx hb dL_law_785 rfl (lv_at hl 0 rfl) ?_
  refine lv_iload_n hx hb dL_law_786 rfl (lv_at hl 3 rfl) ?_
  refine lv_iconst (v := (2 : Int32)) hx hb dL_law_787 (by decide) ?_
  refine lv_iadd hx hb dL_law_788 ?_
  refine va_sld hx hb hC.2.2.1 hC.2.2.2 hbA hI.2.2.2 h2 dL_law_789 ?_
  refine lw_ci (As := [.int (xs (x3 + (1 : Int32)).toNatClampNeg), .int (xs (x3 + (2 : Int32)).toNatClampNeg)]) (rest := []) hC.1 hI (kX7_loosen e1) qX7_loosen tw_3_46 ⟨Nat.le_of_ble_eq_true rfl, Nat.le_of_ble_eq_true rfl⟩ rfl rfl rfl hl.1 rfl (Nat.le_of_ble_eq_true rfl) dL_law_790 ⟨Nat.le_of_ble_eq_true rfl, Nat.le_of_ble_eq_true rfl⟩ (fun H locs hI => ?_)
  refine lv_aload_n hx hb dL_law_793 rfl (lv_at hl 2 rfl) ?_
  refine lv_aload_n hx hb dL_law_794 rfl (lv_at hl 0 rfl) ?_
  refine lv_iload_n hx hb dL_law_795 rfl (lv_at hl 3 rfl) ?_
  refine lv_iconst (v := (1 : Int32)) hx hb dL_law_796 (by decide) ?_
  refine lv_iadd hx hb dL_law_797 ?_
  refine va_sld hx hb hC.2.2.1 hC.2.2.2 hbA hI.2.2.2 h1 dL_law_798 ?_
  refine lv_aload_n hx hb dL_law_799 rfl (lv_at hl 0 rfl) ?_
  refine lv_iload_n hx hb dL_law_800 rfl (lv_at hl 3 rfl) ?_
  refine lv_iconst (v := (2 : Int32)) hx hb dL_law_801 (by decide) ?_
  refine lv_iadd hx hb dL_law_802 ?_
  refine va_sld hx hb hC.2.2.1 hC.2.2.2 hbA hI.2.2.2 h2 dL_law_803 ?_
  refine lw_mi (As := [.int (xs (x3 + (1 : Int32)).toNatClampNeg), .int (xs (x3 + (2 : Int32)).toNatClampNeg)]) (rest := [.int r]) hC.2.1 hI (kX8_loosen e2) qX8_loosen tw_4_216 ⟨Nat.le_of_ble_eq_true rfl, Nat.le_of_ble_eq_true rfl⟩ rfl rfl rfl hl.1 rfl (Nat.le_of_ble_eq_true rfl) dL_law_804 ⟨Nat.le_of_ble_eq_true rfl, Nat.le_of_ble_eq_true rfl⟩ (fun H locs hI => ?_)
  exact lv_icmp_eq (tgt := 983) hx hb dL_law_807 (by decide) (fun _ => kk _ _ _ _ hR' hI) (fun hc => absurd rfl hc)
set_option maxRecDepth 100000 in
set_option maxHeartbeats 4000000 in
theorem lc_22 (hC : lw_Cx p s m meth c D cI cO cB b L xs) (hs : sm2 Rel pX7_addWish pX8_addWish) {σ τ : fw_T} (hR : Rel σ τ) {x3 : Int32} (h1 : vp_in (x3 + (1 : Int32)) L) (h2 : vp_in (x3 + (2 : Int32)) L) (h3 : vp_in (x3 + (3 : Int32)) L) (h4 : vp_in (x3 + (4 : Int32)) L) {H : Heap} {locs : List Loc} {ls : Array Slot} (hI : lw_I D cI cO cB adc adm s H locs σ τ) (hl : lv_has ls 4 [(0, .ref b), (1, .ref (adc 0)), (2, .ref (adm 0)), (3, .int x3)]) (kk : ∀ (σ' τ' : fw_T) (H : Heap) (locs : List Loc), Rel σ' τ' → lw_I D cI cO cB adc adm s H locs σ' τ' → W p l e room_1 s m #[Value.ref b] below meth c H locs 103 1913 Q (F0 m 983 ls [])) : W p l e room_1 s m #[Value.ref b] below meth c H locs 103 1913 Q (F0 m 812 ls []) := by
  have hx := hC.1.1.1
  have hb := hC.1.1.2.1
  have hbA : ¬ (fun q : Nat => s.heap.size ≤ q) b := Nat.not_le.mpr hC.2.2.2
  obtain ⟨r, σ', τ', e1, e2, hR'⟩ := hs (xs (x3 + (1 : Int32)).toNatClampNeg) (xs (x3 + (2 : Int32)).toNatClampNeg) σ τ hR
  refine lv_aload_n hx hb dL_law_812 rfl (lv_at hl 1 rfl) ?_
  refine lv_aload_n hx hb dL_law_813 rfl (lv_at hl 0 rfl) ?_
  refine lv_iload_n hx hb dL_law_814 rfl (lv_at hl 3 rfl) ?_
  refine lv_iconst (v := (1 : Int32)) hx hb dL_law_815 (by decide) ?_
  refine lv_iadd hx hb dL_law_816 ?_
  refine va_sld hx hb hC.2.2.1 hC.2.2.2 hbA hI.2.2.2 h1 dL_law_817 ?_
  refine lv_aload_n hx hb dL_law_818 rfl (lv_at hl 0 rfl) ?_
  refine lv_iload_n hx hb dL_law_819 rfl (lv_at hl 3 rfl) ?_
  refine lv_iconst (v := (2 : Int32)) hx hb dL_law_820 (by decide) ?_
  refine lv_iadd hx hb dL_law_821 ?_
  refine va_sld hx hb hC.2.2.1 hC.2.2.2 hbA hI.2.2.2 h2 dL_law_822 ?_
  refine lw_ci (As := [.int (xs (x3 + (1 : Int32)).toNatClampNeg), .int (xs (x3 + (2 : Int32)).toNatClampNeg)]) (rest := []) hC.1 hI (kX7_addWish e1) qX7_addWish tw_3_55 ⟨Nat.le_of_ble_eq_true rfl, Nat.le_of_ble_eq_true rfl⟩ rfl rfl rfl hl.1 rfl (Nat.le_of_ble_eq_true rfl) dL_law_823 ⟨Nat.le_of_ble_eq_true rfl, Nat.le_of_ble_eq_true rfl⟩ (fun H locs hI => ?_)
  refine lv_aload_n hx hb dL_law_826 rfl (lv_at hl 2 rfl) ?_
  refine lv_aload_n hx hb dL_law_827 rfl (lv_at hl 0 rfl) ?_
  refine lv_iload_n hx hb dL_law_828 rfl (lv_at hl 3 rfl) ?_
  refine lv_iconst (v := (1 : Int32)) hx hb dL_law_829 (by decide) ?_
  refine lv_iadd hx hb dL_law_830 ?_
  refine va_sld hx hb hC.2.2.1 hC.2.2.2 hbA hI.2.2.2 h1 dL_law_831 ?_
  refine lv_aload_n hx hb dL_law_832 rfl (lv_at hl 0 rfl) ?_
  refine lv_iload_n hx hb dL_law_833 rfl (lv_at hl 3 rfl) ?_
  refine lv_iconst (v := (2 : Int32)) hx hb dL_law_834 (by decide) ?_
  refine lv_iadd hx hb dL_law_835 ?_
  refine va_sld hx hb hC.2.2.1 hC.2.2.2 hbA hI.2.2.2 h2 dL_law_836 ?_
  refine lw_mi (As := [.int (xs (x3 + (1 : Int32)).toNatClampNeg), .int (xs (x3 + (2 : Int32)).toNatClampNeg)]) (rest := [.int r]) hC.2.1 hI (kX8_addWish e2) qX8_addWish tw_4_220 ⟨Nat.le_of_ble_eq_true rfl, Nat.le_of_ble_eq_true rfl⟩ rfl rfl rfl hl.1 rfl (Nat.le_of_ble_eq_true rfl) dL_law_837 ⟨Nat.le_of_ble_eq_true rfl, Nat.le_of_ble_eq_true rfl⟩ (fun H locs hI => ?_)
  exact lv_icmp_eq (tgt := 983) hx hb dL_law_840 (by decide) (fun _ => kk _ _ _ _ hR' hI) (fun hc => absurd rfl hc)
set_option maxRecDepth 100000 in
set_option maxHeartbeats 4000000 in
theorem lc_23 (hC : lw_Cx p s m meth c D cI cO cB b L xs) (hs : sm0 Rel pX7_clearWishes pX8_clearWishes) {σ τ : fw_T} (hR : Rel σ τ) {x3 : Int32} (h1 : vp_in (x3 + (1 : Int32)) L) (h2 : vp_in (x3 + (2 : Int32)) L) (h3 : vp_in (x3 + (3 : Int32)) L) (h4 : vp_in (x3 + (4 : Int32)) L) {H : Heap} {locs : List Loc} {ls : Array Slot} (hI : lw_I D cI cO cB adc adm s H locs σ τ) (hl : lv_has ls 4 [(0, .ref b), (1, .ref (adc 0)), (2, .ref (adm 0)), (3, .int x3)]) (kk : ∀ (σ' τ' : fw_T) (H : Heap) (locs : List Loc), Rel σ' τ' → lw_I D cI cO cB adc adm s H locs σ' τ' → W p l e room_1 s m #[Value.ref b] below meth c H locs 103 1913 Q (F0 m 983 ls [])) : W p l e room_1 s m #[Value.ref b] below meth c H locs 103 1913 Q (F0 m 845 ls []) := by
  have hx := hC.1.1.1
  have hb := hC.1.1.2.1
  have hbA : ¬ (fun q : Nat => s.heap.size ≤ q) b := Nat.not_le.mpr hC.2.2.2
  obtain ⟨r, σ', τ', e1, e2, hR'⟩ := hs σ τ hR
  refine lv_aload_n hx hb dL_law_845 rfl (lv_at hl 1 rfl) ?_
  refine lw_ci (As := []) (rest := []) hC.1 hI (kX7_clearWishes e1) qX7_clearWishes tw_3_59 ⟨Nat.le_of_ble_eq_true rfl, Nat.le_of_ble_eq_true rfl⟩ rfl rfl rfl hl.1 rfl (Nat.le_of_ble_eq_true rfl) dL_law_846 ⟨Nat.le_of_ble_eq_true rfl, Nat.le_of_ble_eq_true rfl⟩ (fun H locs hI => ?_)
  refine lv_aload_n hx hb dL_law_849 rfl (lv_at hl 2 rfl) ?_
  refine lw_mi (As := []) (rest := [.int r]) hC.2.1 hI (kX8_clearWishes e2) qX8_clearWishes tw_4_224 ⟨Nat.le_of_ble_eq_true rfl, Nat.le_of_ble_eq_true rfl⟩ rfl rfl rfl hl.1 rfl (Nat.le_of_ble_eq_true rfl) dL_law_850 ⟨Nat.le_of_ble_eq_true rfl, Nat.le_of_ble_eq_true rfl⟩ (fun H locs hI => ?_)
  exact lv_icmp_eq (tgt := 983) hx hb dL_law_853 (by decide) (fun _ => kk _ _ _ _ hR' hI) (fun hc => absurd rfl hc)
set_option maxRecDepth 100000 in
set_option maxHeartbeats 4000000 in
theorem lc_24 (hC : lw_Cx p s m meth c D cI cO cB b L xs) (hs : sm0 Rel pX7_satisfiedWishes pX8_satisfiedWishes) {σ τ : fw_T} (hR : Rel σ τ) {x3 : Int32} (h1 : vp_in (x3 + (1 : Int32)) L) (h2 : vp_in (x3 + (2 : Int32)) L) (h3 : vp_in (x3 + (3 : Int32)) L) (h4 : vp_in (x3 + (4 : Int32)) L) {H : Heap} {locs : List Loc} {ls : Array Slot} (hI : lw_I D cI cO cB adc adm s H locs σ τ) (hl : lv_has ls 4 [(0, .ref b), (1, .ref (adc 0)), (2, .ref (adm 0)), (3, .int x3)]) (kk : ∀ (σ' τ' : fw_T) (H : Heap) (locs : List Loc), Rel σ' τ' → lw_I D cI cO cB adc adm s H locs σ' τ' → W p l e room_1 s m #[Value.ref b] below meth c H locs 103 1913 Q (F0 m 983 ls [])) : W p l e room_1 s m #[Value.ref b] below meth c H locs 103 1913 Q (F0 m 858 ls []) := by
  have hx := hC.1.1.1
  have hb := hC.1.1.2.1
  have hbA : ¬ (fun q : Nat => s.heap.size ≤ q) b := Nat.not_le.mpr hC.2.2.2
  obtain ⟨r, σ', τ', e1, e2, hR'⟩ := hs σ τ hR
  refine lv_aload_n hx hb dL_law_858 rfl (lv_at hl 1 rfl) ?_
  refine lw_ci (As := []) (rest := []) hC.1 hI (kX7_satisfiedWishes e1) qX7_satisfiedWishes tw_3_67 ⟨Nat.le_of_ble_eq_true rfl, Nat.le_of_ble_eq_true rfl⟩ rfl rfl rfl hl.1 rfl (Nat.le_of_ble_eq_true rfl) dL_law_859 ⟨Nat.le_of_ble_eq_true rfl, Nat.le_of_ble_eq_true rfl⟩ (fun H locs hI => ?_)
  refine lv_aload_n hx hb dL_law_862 rfl (lv_at hl 2 rfl) ?_
  refine lw_mi (As := []) (rest := [.int r]) hC.2.1 hI (kX8_satisfiedWishes e2) qX8_satisfiedWishes tw_4_228 ⟨Nat.le_of_ble_eq_true rfl, Nat.le_of_ble_eq_true rfl⟩ rfl rfl rfl hl.1 rfl (Nat.le_of_ble_eq_true rfl) dL_law_863 ⟨Nat.le_of_ble_eq_true rfl, Nat.le_of_ble_eq_true rfl⟩ (fun H locs hI => ?_)
  exact lv_icmp_eq (tgt := 983) hx hb dL_law_866 (by decide) (fun _ => kk _ _ _ _ hR' hI) (fun hc => absurd rfl hc)
set_option maxRecDepth 100000 in
set_option maxHeartbeats 4000000 in
theorem lc_25 (hC : lw_Cx p s m meth c D cI cO cB b L xs) (hs : sm0 Rel pX7_filtersToRemoveForWishes pX8_filtersToRemoveForWishes) {σ τ : fw_T} (hR : Rel σ τ) {x3 : Int32} (h1 : vp_in (x3 + (1 : Int32)) L) (h2 : vp_in (x3 + (2 : Int32)) L) (h3 : vp_in (x3 + (3 : Int32)) L) (h4 : vp_in (x3 + (4 : Int32)) L) {H : Heap} {locs : List Loc} {ls : Array Slot} (hI : lw_I D cI cO cB adc adm s H locs σ τ) (hl : lv_has ls 4 [(0, .ref b), (1, .ref (adc 0)), (2, .ref (adm 0)), (3, .int x3)]) (kk : ∀ (σ' τ' : fw_T) (H : Heap) (locs : List Loc), Rel σ' τ' → lw_I D cI cO cB adc adm s H locs σ' τ' → W p l e room_1 s m #[Value.ref b] below meth c H locs 103 1913 Q (F0 m 983 ls [])) : W p l e room_1 s m #[Value.ref b] below meth c H locs 103 1913 Q (F0 m 871 ls []) := by
  have hx := hC.1.1.1
  have hb := hC.1.1.2.1
  have hbA : ¬ (fun q : Nat => s.heap.size ≤ q) b := Nat.not_le.mpr hC.2.2.2
  obtain ⟨r, σ', τ', e1, e2, hR'⟩ := hs σ τ hR
  refine lv_aload_n hx hb dL_law_871 rfl (lv_at hl 1 rfl) ?_
  refine lw_ci (As := []) (rest := []) hC.1 hI (kX7_filtersToRemoveForWishes e1) qX7_filtersToRemoveForWishes tw_3_76 ⟨Nat.le_of_ble_eq_true rfl, Nat.le_of_ble_eq_true rfl⟩ rfl rfl rfl hl.1 rfl (Nat.le_of_ble_eq_true rfl) dL_law_872 ⟨Nat.le_of_ble_eq_true rfl, Nat.le_of_ble_eq_true rfl⟩ (fun H locs hI => ?_)
  refine lv_aload_n hx hb dL_law_875 rfl (lv_at hl 2 rfl) ?_
  refine lw_mi (As := []) (rest := [.int r]) hC.2.1 hI (kX8_filtersToRemoveForWishes e2) qX8_filtersToRemoveForWishes tw_4_236 ⟨Nat.le_of_ble_eq_true rfl, Nat.le_of_ble_eq_true rfl⟩ rfl rfl rfl hl.1 rfl (Nat.le_of_ble_eq_true rfl) dL_law_876 ⟨Nat.le_of_ble_eq_true rfl, Nat.le_of_ble_eq_true rfl⟩ (fun H locs hI => ?_)
  exact lv_icmp_eq (tgt := 983) hx hb dL_law_879 (by decide) (fun _ => kk _ _ _ _ hR' hI) (fun hc => absurd rfl hc)
set_option maxRecDepth 100000 in
set_option maxHeartbeats 4000000 in
theorem lc_26 (hC : lw_Cx p s m meth c D cI cO cB b L xs) (hs : sm1 Rel pX7_append pX8_append) {σ τ : fw_T} (hR : Rel σ τ) {x3 : Int32} (h1 : vp_in (x3 + (1 : Int32)) L) (h2 : vp_in (x3 + (2 : Int32)) L) (h3 : vp_in (x3 + (3 : Int32)) L) (h4 : vp_in (x3 + (4 : Int32)) L) {H : Heap} {locs : List Loc} {ls : Array Slot} (hI : lw_I D cI cO cB adc adm s H locs σ τ) (hl : lv_has ls 4 [(0, .ref b), (1, .ref (adc 0)), (2, .ref (adm 0)), (3, .int x3)]) (kk : ∀ (σ' τ' : fw_T) (H : Heap) (locs : List Loc), Rel σ' τ' → lw_I D cI cO cB adc adm s H locs σ' τ' → W p l e room_1 s m #[Value.ref b] below meth c H locs 103 1913 Q (F0 m 983 ls [])) : W p l e room_1 s m #[Value.ref b] below meth c H locs 103 1913 Q (F0 m 884 ls []) := by
  have hx := hC.1.1.1
  have hb := hC.1.1.2.1
  have hbA : ¬ (fun q : Nat => s.heap.size ≤ q) b := Nat.not_le.mpr hC.2.2.2
  obtain ⟨r, σ', τ', e1, e2, hR'⟩ := hs (xs (x3 + (1 : Int32)).toNatClampNeg) σ τ hR
  refine lv_aload_n hx hb dL_law_884 rfl (lv_at hl 1 rfl) ?_
  refine lv_aload_n hx hb dL_law_885 rfl (lv_at hl 0 rfl) ?_
  refine lv_iload_n hx hb dL_law_886 rfl (lv_at hl 3 rfl) ?_
  refine lv_iconst (v := (1 : Int32)) hx hb dL_law_887 (by decide) ?_
  refine lv_iadd hx hb dL_law_888 ?_
  refine va_sld hx hb hC.2.2.1 hC.2.2.2 hbA hI.2.2.2 h1 dL_law_889 ?_
  refine lw_ci (As := [.int (xs (x3 + (1 : Int32)).toNatClampNeg)]) (rest := []) hC.1 hI (kX7_append e1) qX7_append tw_3_97 ⟨Nat.le_of_ble_eq_true rfl, Nat.le_of_ble_eq_true rfl⟩ rfl rfl rfl hl.1 rfl (Nat.le_of_ble_eq_true rfl) dL_law_890 ⟨Nat.le_of_ble_eq_true rfl, Nat.le_of_ble_eq_true rfl⟩ (fun H locs hI => ?_)
  refine lv_aload_n hx hb dL_law_893 rfl (lv_at hl 2 rfl) ?_
  refine lv_aload_n hx hb dL_law_894 rfl (lv_at hl 0 rfl) ?_
  refine lv_iload_n hx hb dL_law_895 rfl (lv_at hl 3 rfl) ?_
  refine lv_iconst (v := (1 : Int32)) hx hb dL_law_896 (by decide) ?_
  refine lv_iadd hx hb dL_law_897 ?_
  refine va_sld hx hb hC.2.2.1 hC.2.2.2 hbA hI.2.2.2 h1 dL_law_898 ?_
  refine lw_mi (As := [.int (xs (x3 + (1 : Int32)).toNatClampNeg)]) (rest := [.int r]) hC.2.1 hI (kX8_append e2) qX8_append tw_5_4 ⟨Nat.le_of_ble_eq_true rfl, Nat.le_of_ble_eq_true rfl⟩ rfl rfl rfl hl.1 rfl (Nat.le_of_ble_eq_true rfl) dL_law_899 ⟨Nat.le_of_ble_eq_true rfl, Nat.le_of_ble_eq_true rfl⟩ (fun H locs hI => ?_)
  exact lv_icmp_eq (tgt := 983) hx hb dL_law_902 (by decide) (fun _ => kk _ _ _ _ hR' hI) (fun hc => absurd rfl hc)
set_option maxRecDepth 100000 in
set_option maxHeartbeats 4000000 in
theorem lc_27 (hC : lw_Cx p s m meth c D cI cO cB b L xs) (hs : sm0 Rel pX7_clearText pX8_clearText) {σ τ : fw_T} (hR : Rel σ τ) {x3 : Int32} (h1 : vp_in (x3 + (1 : Int32)) L) (h2 : vp_in (x3 + (2 : Int32)) L) (h3 : vp_in (x3 + (3 : Int32)) L) (h4 : vp_in (x3 + (4 : Int32)) L) {H : Heap} {locs : List Loc} {ls : Array Slot} (hI : lw_I D cI cO cB adc adm s H locs σ τ) (hl : lv_has ls 4 [(0, .ref b), (1, .ref (adc 0)), (2, .ref (adm 0)), (3, .int x3)]) (kk : ∀ (σ' τ' : fw_T) (H : Heap) (locs : List Loc), Rel σ' τ' → lw_I D cI cO cB adc adm s H locs σ' τ' → W p l e room_1 s m #[Value.ref b] below meth c H locs 103 1913 Q (F0 m 983 ls [])) : W p l e room_1 s m #[Value.ref b] below meth c H locs 103 1913 Q (F0 m 907 ls []) := by
  have hx := hC.1.1.1
  have hb := hC.1.1.2.1
  have hbA : ¬ (fun q : Nat => s.heap.size ≤ q) b := Nat.not_le.mpr hC.2.2.2
  obtain ⟨r, σ', τ', e1, e2, hR'⟩ := hs σ τ hR
  refine lv_aload_n hx hb dL_law_907 rfl (lv_at hl 1 rfl) ?_
  refine lw_ci (As := []) (rest := []) hC.1 hI (kX7_clearText e1) qX7_clearText tw_3_105 ⟨Nat.le_of_ble_eq_true rfl, Nat.le_of_ble_eq_true rfl⟩ rfl rfl rfl hl.1 rfl (Nat.le_of_ble_eq_true rfl) dL_law_908 ⟨Nat.le_of_ble_eq_true rfl, Nat.le_of_ble_eq_true rfl⟩ (fun H locs hI => ?_)
  refine lv_aload_n hx hb dL_law_911 rfl (lv_at hl 2 rfl) ?_
  refine lw_mi (As := []) (rest := [.int r]) hC.2.1 hI (kX8_clearText e2) qX8_clearText tw_5_8 ⟨Nat.le_of_ble_eq_true rfl, Nat.le_of_ble_eq_true rfl⟩ rfl rfl rfl hl.1 rfl (Nat.le_of_ble_eq_true rfl) dL_law_912 ⟨Nat.le_of_ble_eq_true rfl, Nat.le_of_ble_eq_true rfl⟩ (fun H locs hI => ?_)
  exact lv_icmp_eq (tgt := 983) hx hb dL_law_915 (by decide) (fun _ => kk _ _ _ _ hR' hI) (fun hc => absurd rfl hc)
set_option maxRecDepth 100000 in
set_option maxHeartbeats 4000000 in
theorem lc_28 (hC : lw_Cx p s m meth c D cI cO cB b L xs) (hs : sm0 Rel pX7_runScript pX8_runScript) {σ τ : fw_T} (hR : Rel σ τ) {x3 : Int32} (h1 : vp_in (x3 + (1 : Int32)) L) (h2 : vp_in (x3 + (2 : Int32)) L) (h3 : vp_in (x3 + (3 : Int32)) L) (h4 : vp_in (x3 + (4 : Int32)) L) {H : Heap} {locs : List Loc} {ls : Array Slot} (hI : lw_I D cI cO cB adc adm s H locs σ τ) (hl : lv_has ls 4 [(0, .ref b), (1, .ref (adc 0)), (2, .ref (adm 0)), (3, .int x3)]) (kk : ∀ (σ' τ' : fw_T) (H : Heap) (locs : List Loc), Rel σ' τ' → lw_I D cI cO cB adc adm s H locs σ' τ' → W p l e room_1 s m #[Value.ref b] below meth c H locs 103 1913 Q (F0 m 983 ls [])) : W p l e room_1 s m #[Value.ref b] below meth c H locs 103 1913 Q (F0 m 920 ls []) := by
  have hx := hC.1.1.1
  have hb := hC.1.1.2.1
  have hbA : ¬ (fun q : Nat => s.heap.size ≤ q) b := Nat.not_le.mpr hC.2.2.2
  obtain ⟨r, σ', τ', e1, e2, hR'⟩ := hs σ τ hR
  refine lv_aload_n hx hb dL_law_920 rfl (lv_at hl 1 rfl) ?_
  refine lw_ci (As := []) (rest := []) hC.1 hI (kX7_runScript e1) qX7_runScript tw_3_113 ⟨Nat.le_of_ble_eq_true rfl, Nat.le_of_ble_eq_true rfl⟩ rfl rfl rfl hl.1 rfl (Nat.le_of_ble_eq_true rfl) dL_law_921 ⟨Nat.le_of_ble_eq_true rfl, Nat.le_of_ble_eq_true rfl⟩ (fun H locs hI => ?_)
  refine lv_aload_n hx hb dL_law_924 rfl (lv_at hl 2 rfl) ?_
  refine lw_mi (As := []) (rest := [.int r]) hC.2.1 hI (kX8_runScript e2) qX8_runScript tw_5_12 ⟨Nat.le_of_ble_eq_true rfl, Nat.le_of_ble_eq_true rfl⟩ rfl rfl rfl hl.1 rfl (Nat.le_of_ble_eq_true rfl) dL_law_925 ⟨Nat.le_of_ble_eq_true rfl, Nat.le_of_ble_eq_true rfl⟩ (fun H locs hI => ?_)
  exact lv_icmp_eq (tgt := 983) hx hb dL_law_928 (by decide) (fun _ => kk _ _ _ _ hR' hI) (fun hc => absurd rfl hc)
set_option maxRecDepth 100000 in
set_option maxHeartbeats 4000000 in
theorem lc_29 (hC : lw_Cx p s m meth c D cI cO cB b L xs) (hs : sm0 Rel pX7_undo pX8_undo) {σ τ : fw_T} (hR : Rel σ τ) {x3 : Int32} (h1 : vp_in (x3 + (1 : Int32)) L) (h2 : vp_in (x3 + (2 : Int32)) L) (h3 : vp_in (x3 + (3 : Int32)) L) (h4 : vp_in (x3 + (4 : Int32)) L) {H : Heap} {locs : List Loc} {ls : Array Slot} (hI : lw_I D cI cO cB adc adm s H locs σ τ) (hl : lv_has ls 4 [(0, .ref b), (1, .ref (adc 0)), (2, .ref (adm 0)), (3, .int x3)]) (kk : ∀ (σ' τ' : fw_T) (H : Heap) (locs : List Loc), Rel σ' τ' → lw_I D cI cO cB adc adm s H locs σ' τ' → W p l e room_1 s m #[Value.ref b] below meth c H locs 103 1913 Q (F0 m 983 ls [])) : W p l e room_1 s m #[Value.ref b] below meth c H locs 103 1913 Q (F0 m 933 ls []) := by
  have hx := hC.1.1.1
  have hb := hC.1.1.2.1
  have hbA : ¬ (fun q : Nat => s.heap.size ≤ q) b := Nat.not_le.mpr hC.2.2.2
  obtain ⟨r, σ', τ', e1, e2, hR'⟩ := hs σ τ hR
  refine lv_aload_n hx hb dL_law_933 rfl (lv_at hl 1 rfl) ?_
  refine lw_ci (As := []) (rest := []) hC.1 hI (kX7_undo e1) qX7_undo tw_3_159 ⟨Nat.le_of_ble_eq_true rfl, Nat.le_of_ble_eq_true rfl⟩ rfl rfl rfl hl.1 rfl (Nat.le_of_ble_eq_true rfl) dL_law_934 ⟨Nat.le_of_ble_eq_true rfl, Nat.le_of_ble_eq_true rfl⟩ (fun H locs hI => ?_)
  refine lv_aload_n hx hb dL_law_937 rfl (lv_at hl 2 rfl) ?_
  refine lw_mi (As := []) (rest := [.int r]) hC.2.1 hI (kX8_undo e2) qX8_undo tw_5_49 ⟨Nat.le_of_ble_eq_true rfl, Nat.le_of_ble_eq_true rfl⟩ rfl rfl rfl hl.1 rfl (Nat.le_of_ble_eq_true rfl) dL_law_938 ⟨Nat.le_of_ble_eq_true rfl, Nat.le_of_ble_eq_true rfl⟩ (fun H locs hI => ?_)
  exact lv_icmp_eq (tgt := 983) hx hb dL_law_941 (by decide) (fun _ => kk _ _ _ _ hR' hI) (fun hc => absurd rfl hc)
set_option maxRecDepth 100000 in
set_option maxHeartbeats 4000000 in
theorem lc_30 (hC : lw_Cx p s m meth c D cI cO cB b L xs) (hs : sm1 Rel pX7_errorCount pX8_errorCount) {σ τ : fw_T} (hR : Rel σ τ) {x3 : Int32} (h1 : vp_in (x3 + (1 : Int32)) L) (h2 : vp_in (x3 + (2 : Int32)) L) (h3 : vp_in (x3 + (3 : Int32)) L) (h4 : vp_in (x3 + (4 : Int32)) L) {H : Heap} {locs : List Loc} {ls : Array Slot} (hI : lw_I D cI cO cB adc adm s H locs σ τ) (hl : lv_has ls 4 [(0, .ref b), (1, .ref (adc 0)), (2, .ref (adm 0)), (3, .int x3)]) (kk : ∀ (σ' τ' : fw_T) (H : Heap) (locs : List Loc), Rel σ' τ' → lw_I D cI cO cB adc adm s H locs σ' τ' → W p l e room_1 s m #[Value.ref b] below meth c H locs 103 1913 Q (F0 m 983 ls [])) : W p l e room_1 s m #[Value.ref b] below meth c H locs 103 1913 Q (F0 m 946 ls []) := by
  have hx := hC.1.1.1
  have hb := hC.1.1.2.1
  have hbA : ¬ (fun q : Nat => s.heap.size ≤ q) b := Nat.not_le.mpr hC.2.2.2
  obtain ⟨r, σ', τ', e1, e2, hR'⟩ := hs (xs (x3 + (1 : Int32)).toNatClampNeg) σ τ hR
  refine lv_aload_n hx hb dL_law_946 rfl (lv_at hl 1 rfl) ?_
  refine lv_aload_n hx hb dL_law_947 rfl (lv_at hl 0 rfl) ?_
  refine lv_iload_n hx hb dL_law_948 rfl (lv_at hl 3 rfl) ?_
  refine lv_iconst (v := (1 : Int32)) hx hb dL_law_949 (by decide) ?_
  refine lv_iadd hx hb dL_law_950 ?_
  refine va_sld hx hb hC.2.2.1 hC.2.2.2 hbA hI.2.2.2 h1 dL_law_951 ?_
  refine lw_ci (As := [.int (xs (x3 + (1 : Int32)).toNatClampNeg)]) (rest := []) hC.1 hI (kX7_errorCount e1) qX7_errorCount tw_3_168 ⟨Nat.le_of_ble_eq_true rfl, Nat.le_of_ble_eq_true rfl⟩ rfl rfl rfl hl.1 rfl (Nat.le_of_ble_eq_true rfl) dL_law_952 ⟨Nat.le_of_ble_eq_true rfl, Nat.le_of_ble_eq_true rfl⟩ (fun H locs hI => ?_)
  refine lv_aload_n hx hb dL_law_955 rfl (lv_at hl 2 rfl) ?_
  refine lv_aload_n hx hb dL_law_956 rfl (lv_at hl 0 rfl) ?_
  refine lv_iload_n hx hb dL_law_957 rfl (lv_at hl 3 rfl) ?_
  refine lv_iconst (v := (1 : Int32)) hx hb dL_law_958 (by decide) ?_
  refine lv_iadd hx hb dL_law_959 ?_
  refine va_sld hx hb hC.2.2.1 hC.2.2.2 hbA hI.2.2.2 h1 dL_law_960 ?_
  refine lw_mi (As := [.int (xs (x3 + (1 : Int32)).toNatClampNeg)]) (rest := [.int r]) hC.2.1 hI (kX8_errorCount e2) qX8_errorCount tw_5_53 ⟨Nat.le_of_ble_eq_true rfl, Nat.le_of_ble_eq_true rfl⟩ rfl rfl rfl hl.1 rfl (Nat.le_of_ble_eq_true rfl) dL_law_961 ⟨Nat.le_of_ble_eq_true rfl, Nat.le_of_ble_eq_true rfl⟩ (fun H locs hI => ?_)
  exact lv_icmp_eq (tgt := 983) hx hb dL_law_964 (by decide) (fun _ => kk _ _ _ _ hR' hI) (fun hc => absurd rfl hc)
set_option maxRecDepth 100000 in
set_option maxHeartbeats 4000000 in
theorem lc_31 (hC : lw_Cx p s m meth c D cI cO cB b L xs) (hs : smL Rel pX7_digest pX8_digest) {σ τ : fw_T} (hR : Rel σ τ) {x3 : Int32} (h1 : vp_in (x3 + (1 : Int32)) L) (h2 : vp_in (x3 + (2 : Int32)) L) (h3 : vp_in (x3 + (3 : Int32)) L) (h4 : vp_in (x3 + (4 : Int32)) L) {H : Heap} {locs : List Loc} {ls : Array Slot} (hI : lw_I D cI cO cB adc adm s H locs σ τ) (hl : lv_has ls 4 [(0, .ref b), (1, .ref (adc 0)), (2, .ref (adm 0)), (3, .int x3)]) (kk : ∀ (σ' τ' : fw_T) (H : Heap) (locs : List Loc), Rel σ' τ' → lw_I D cI cO cB adc adm s H locs σ' τ' → W p l e room_1 s m #[Value.ref b] below meth c H locs 103 1913 Q (F0 m 983 ls [])) : W p l e room_1 s m #[Value.ref b] below meth c H locs 103 1913 Q (F0 m 969 ls []) := by
  have hx := hC.1.1.1
  have hb := hC.1.1.2.1
  have hbA : ¬ (fun q : Nat => s.heap.size ≤ q) b := Nat.not_le.mpr hC.2.2.2
  obtain ⟨r, σ', τ', e1, e2, hR'⟩ := hs σ τ hR
  refine lv_aload_n hx hb dL_law_969 rfl (lv_at hl 1 rfl) ?_
  refine lw_cl (As := []) (rest := []) hC.1 hI (kX7_digest e1) qX7_digest tw_3_172 ⟨Nat.le_of_ble_eq_true rfl, Nat.le_of_ble_eq_true rfl⟩ rfl rfl rfl hl.1 rfl (Nat.le_of_ble_eq_true rfl) dL_law_970 ⟨Nat.le_of_ble_eq_true rfl, Nat.le_of_ble_eq_true rfl⟩ (fun H locs hI => ?_)
  refine lv_aload_n hx hb dL_law_973 rfl (lv_at hl 2 rfl) ?_
  refine lw_ml (As := []) (rest := [.long r]) hC.2.1 hI (kX8_digest e2) qX8_digest tw_5_57 ⟨Nat.le_of_ble_eq_true rfl, Nat.le_of_ble_eq_true rfl⟩ rfl rfl rfl hl.1 rfl (Nat.le_of_ble_eq_true rfl) dL_law_974 ⟨Nat.le_of_ble_eq_true rfl, Nat.le_of_ble_eq_true rfl⟩ (fun H locs hI => ?_)
  refine W.lcmp hx hb dL_law_977 ?_
  exact lv_if_eq (tgt := 983) hx hb dL_law_978 (by decide) (fun _ => kk _ _ _ _ hR' hI) (fun hc => absurd (by simp [lg_cmp]) hc)
def lw_SIM (Rel : fw_T → fw_T → Prop) : Prop := sm2 Rel pX7_addLeft pX8_addLeft ∧ sm2 Rel pX7_addRight pX8_addRight ∧ sm1 Rel pX7_removeLeft pX8_removeLeft ∧ sm1 Rel pX7_removeRight pX8_removeRight ∧ sm1 Rel pX7_leftRow pX8_leftRow ∧ sm1 Rel pX7_rightRow pX8_rightRow ∧ sm4 Rel pX7_addFilter pX8_addFilter ∧ sm1 Rel pX7_removeFilter pX8_removeFilter ∧ sm2 Rel pX7_setConstant pX8_setConstant ∧ sm0 Rel pX7_filterCount pX8_filterCount ∧ sm1 Rel pX7_constant pX8_constant ∧ sm1 Rel pX7_acceptedBy pX8_acceptedBy ∧ sm0 Rel pX7_answerCount pX8_answerCount ∧ sm1 Rel pX7_answer pX8_answer ∧ sm2 Rel pX7_matchCount pX8_matchCount ∧ sm2 Rel pX7_blame pX8_blame ∧ sm2 Rel pX7_filtersToRemove pX8_filtersToRemove ∧ sm3 Rel pX7_repairedConstant pX8_repairedConstant ∧ sm2 Rel pX7_missingRows pX8_missingRows ∧ sm2 Rel pX7_missingB pX8_missingB ∧ sm2 Rel pX7_insertMissing pX8_insertMissing ∧ sm2 Rel pX7_loosen pX8_loosen ∧ sm2 Rel pX7_addWish pX8_addWish ∧ sm0 Rel pX7_clearWishes pX8_clearWishes ∧ sm0 Rel pX7_satisfiedWishes pX8_satisfiedWishes ∧ sm0 Rel pX7_filtersToRemoveForWishes pX8_filtersToRemoveForWishes ∧ sm1 Rel pX7_append pX8_append ∧ sm0 Rel pX7_clearText pX8_clearText ∧ sm0 Rel pX7_runScript pX8_runScript ∧ sm0 Rel pX7_undo pX8_undo ∧ sm1 Rel pX7_errorCount pX8_errorCount ∧ smL Rel pX7_digest pX8_digest
set_option maxRecDepth 100000 in
set_option maxHeartbeats 4000000 in
theorem law_loop (hL : L ≤ 2560) (hC : lw_Cx p s m meth c D cI cO cB b L xs) (hr : meth.sig.returnType = ret) (hlocks : meth.locks = false) (hs : lw_SIM Rel) :
    ∀ (n i : Nat), i ≤ L → L + 1 ≤ i + n → ∀ (σ τ : fw_T), Rel σ τ → ∀ (H : Heap) (locs : List Loc) (ls : Array Slot), lw_I D cI cO cB adc adm s H locs σ τ → lv_has ls 4 [(0, .ref b), (1, .ref (adc 0)), (2, .ref (adm 0)), (3, .int (nI i))] → W p l e room_1 s m #[Value.ref b] below meth c H locs 103 1913 (lw_Z below #[Value.ref b] s) (F0 m 18 ls []) := by
  have hx := hC.1.1.1
  have hb := hC.1.1.2.1
  have hbA : ¬ (fun q : Nat => s.heap.size ≤ q) b := Nat.not_le.mpr hC.2.2.2
  obtain ⟨s0, s1, s2, s3, s4, s5, s6, s7, s8, s9, s10, s11, s12, s13, s14, s15, s16, s17, s18, s19, s20, s21, s22, s23, s24, s25, s26, s27, s28, s29, s30, s31⟩ := hs
  intro n
  induction n with
  | zero =>
    intro i h1 h2
    exact absurd h2 (by omega)
  | succ n ih =>
    intro i hi hin σ τ hR H locs ls hI hl
    refine lv_iload_n hx hb dL_law_18 rfl (lv_at hl 3 rfl) ?_
    refine lv_aload_n hx hb dL_law_19 rfl (lv_at hl 0 rfl) ?_
    refine va_slen hx hb hC.2.2.1 hC.2.2.2 hbA hI.2.2.2 dL_law_20 ?_
    refine lv_iconst (v := (5 : Int32)) hx hb dL_law_21 (by decide) ?_
    refine lv_isub hx hb dL_law_22 ?_
    refine lv_icmp_gt (tgt := 989) hx hb dL_law_23 (by decide) (fun hc => ?_) (fun hc => ?_)
    · refine lv_iconst (v := 1) hx hb dL_law_989 (by decide) ?_
      refine va_forget (fun q hq => hI.2.2.2.2.2 q hq) ?_
      refine W.widen (k := 600000) (n := 7302250) (Nat.le_of_ble_eq_true rfl) (Nat.le_of_ble_eq_true rfl) ?_
      exact lw_ret hx hb hr hlocks dL_law_990
    · have h5 := lw_len hL hi hc
      have h1 : vp_in (nI i + (1 : Int32)) L := by rw [show (1 : Int32) = nI 1 from rfl, nI_add]; exact vp_in_nI (by omega) (by omega)
      have h2 : vp_in (nI i + (2 : Int32)) L := by rw [show (2 : Int32) = nI 2 from rfl, nI_add]; exact vp_in_nI (by omega) (by omega)
      have h3 : vp_in (nI i + (3 : Int32)) L := by rw [show (3 : Int32) = nI 3 from rfl, nI_add]; exact vp_in_nI (by omega) (by omega)
      have h4 : vp_in (nI i + (4 : Int32)) L := by rw [show (4 : Int32) = nI 4 from rfl, nI_add]; exact vp_in_nI (by omega) (by omega)
      refine lv_aload_n hx hb dL_law_26 rfl (lv_at hl 0 rfl) ?_
      refine lv_iload_n hx hb dL_law_27 rfl (lv_at hl 3 rfl) ?_
      refine va_sld hx hb hC.2.2.1 hC.2.2.2 hbA hI.2.2.2 (vp_in_nI (by omega) (by omega)) dL_law_28 ?_
      refine lv_bipush (v := (31 : Int32)) hx hb dL_law_29 (by decide) ?_
      refine lv_iand hx hb dL_law_31 ?_
      have kk : ∀ (σ' τ' : fw_T) (H : Heap) (locs : List Loc), Rel σ' τ' → lw_I D cI cO cB adc adm s H locs σ' τ' → W p l e room_1 s m #[Value.ref b] below meth c H locs 103 1913 (lw_Z below #[Value.ref b] s) (F0 m 983 ls []) := by
        intro σ' τ' H locs hR' hI'
        refine lv_iinc (v := nI (i + 5)) (lv' := [(3, .int (nI (i + 5))), (0, .ref b), (1, .ref (adc 0)), (2, .ref (adm 0))]) hx hb dL_law_983 hl (k := 3) rfl (nI_add i 5) (by decide) rfl (fun ls hl => ?_)
        refine lv_goto (tgt := 18) hx hb dL_law_986 (by decide) ?_
        exact ih (i + 5) h5 (by omega) σ' τ' hR' H locs ls hI' (lv_sub hl [1, 2, 3, 0] rfl)
      obtain ⟨k, hk, he⟩ := lw_31 (xs (nI i).toNatClampNeg)
      rw [he]
      rcases (show k = 0 ∨ k = 1 ∨ k = 2 ∨ k = 3 ∨ k = 4 ∨ k = 5 ∨ k = 6 ∨ k = 7 ∨ k = 8 ∨ k = 9 ∨ k = 10 ∨ k = 11 ∨ k = 12 ∨ k = 13 ∨ k = 14 ∨ k = 15 ∨ k = 16 ∨ k = 17 ∨ k = 18 ∨ k = 19 ∨ k = 20 ∨ k = 21 ∨ k = 22 ∨ k = 23 ∨ k = 24 ∨ k = 25 ∨ k = 26 ∨ k = 27 ∨ k = 28 ∨ k = 29 ∨ k = 30 ∨ k = 31 by omega) with rfl | rfl | rfl | rfl | rfl | rfl | rfl | rfl | rfl | rfl | rfl | rfl | rfl | rfl | rfl | rfl | rfl | rfl | rfl | rfl | rfl | rfl | rfl | rfl | rfl | rfl | rfl | rfl | rfl | rfl | rfl | rfl
      · exact lv_tableIn (off := 144) (tgt := 176) hx hb dL_law_32 (by decide) (by decide) (by decide) (by decide) (lc_0 hC s0 hR h1 h2 h3 h4 hI hl kk)
      · exact lv_tableIn (off := 177) (tgt := 209) hx hb dL_law_32 (by decide) (by decide) (by decide) (by decide) (lc_1 hC s1 hR h1 h2 h3 h4 hI hl kk)
      · exact lv_tableIn (off := 210) (tgt := 242) hx hb dL_law_32 (by decide) (by decide) (by decide) (by decide) (lc_2 hC s2 hR h1 h2 h3 h4 hI hl kk)
      · exact lv_tableIn (off := 233) (tgt := 265) hx hb dL_law_32 (by decide) (by decide) (by decide) (by decide) (lc_3 hC s3 hR h1 h2 h3 h4 hI hl kk)
      · exact lv_tableIn (off := 256) (tgt := 288) hx hb dL_law_32 (by decide) (by decide) (by decide) (by decide) (lc_4 hC s4 hR h1 h2 h3 h4 hI hl kk)
      · exact lv_tableIn (off := 279) (tgt := 311) hx hb dL_law_32 (by decide) (by decide) (by decide) (by decide) (lc_5 hC s5 hR h1 h2 h3 h4 hI hl kk)
      · exact lv_tableIn (off := 302) (tgt := 334) hx hb dL_law_32 (by decide) (by decide) (by decide) (by decide) (lc_6 hC s6 hR h1 h2 h3 h4 hI hl kk)
      · exact lv_tableIn (off := 355) (tgt := 387) hx hb dL_law_32 (by decide) (by decide) (by decide) (by decide) (lc_7 hC s7 hR h1 h2 h3 h4 hI hl kk)
      · exact lv_tableIn (off := 378) (tgt := 410) hx hb dL_law_32 (by decide) (by decide) (by decide) (by decide) (lc_8 hC s8 hR h1 h2 h3 h4 hI hl kk)
      · exact lv_tableIn (off := 411) (tgt := 443) hx hb dL_law_32 (by decide) (by decide) (by decide) (by decide) (lc_9 hC s9 hR h1 h2 h3 h4 hI hl kk)
      · exact lv_tableIn (off := 424) (tgt := 456) hx hb dL_law_32 (by decide) (by decide) (by decide) (by decide) (lc_10 hC s10 hR h1 h2 h3 h4 hI hl kk)
      · exact lv_tableIn (off := 447) (tgt := 479) hx hb dL_law_32 (by decide) (by decide) (by decide) (by decide) (lc_11 hC s11 hR h1 h2 h3 h4 hI hl kk)
      · exact lv_tableIn (off := 470) (tgt := 502) hx hb dL_law_32 (by decide) (by decide) (by decide) (by decide) (lc_12 hC s12 hR h1 h2 h3 h4 hI hl kk)
      · exact lv_tableIn (off := 483) (tgt := 515) hx hb dL_law_32 (by decide) (by decide) (by decide) (by decide) (lc_13 hC s13 hR h1 h2 h3 h4 hI hl kk)
      · exact lv_tableIn (off := 506) (tgt := 538) hx hb dL_law_32 (by decide) (by decide) (by decide) (by decide) (lc_14 hC s14 hR h1 h2 h3 h4 hI hl kk)
      · exact lv_tableIn (off := 539) (tgt := 571) hx hb dL_law_32 (by decide) (by decide) (by decide) (by decide) (lc_15 hC s15 hR h1 h2 h3 h4 hI hl kk)
      · exact lv_tableIn (off := 572) (tgt := 604) hx hb dL_law_32 (by decide) (by decide) (by decide) (by decide) (lc_16 hC s16 hR h1 h2 h3 h4 hI hl kk)
      · exact lv_tableIn (off := 605) (tgt := 637) hx hb dL_law_32 (by decide) (by decide) (by decide) (by decide) (lc_17 hC s17 hR h1 h2 h3 h4 hI hl kk)
      · exact lv_tableIn (off := 648) (tgt := 680) hx hb dL_law_32 (by decide) (by decide) (by decide) (by decide) (lc_18 hC s18 hR h1 h2 h3 h4 hI hl kk)
      · exact lv_tableIn (off := 681) (tgt := 713) hx hb dL_law_32 (by decide) (by decide) (by decide) (by decide) (lc_19 hC s19 hR h1 h2 h3 h4 hI hl kk)
      · exact lv_tableIn (off := 714) (tgt := 746) hx hb dL_law_32 (by decide) (by decide) (by decide) (by decide) (lc_20 hC s20 hR h1 h2 h3 h4 hI hl kk)
      · exact lv_tableIn (off := 747) (tgt := 779) hx hb dL_law_32 (by decide) (by decide) (by decide) (by decide) (lc_21 hC s21 hR h1 h2 h3 h4 hI hl kk)
      · exact lv_tableIn (off := 780) (tgt := 812) hx hb dL_law_32 (by decide) (by decide) (by decide) (by decide) (lc_22 hC s22 hR h1 h2 h3 h4 hI hl kk)
      · exact lv_tableIn (off := 813) (tgt := 845) hx hb dL_law_32 (by decide) (by decide) (by decide) (by decide) (lc_23 hC s23 hR h1 h2 h3 h4 hI hl kk)
      · exact lv_tableIn (off := 826) (tgt := 858) hx hb dL_law_32 (by decide) (by decide) (by decide) (by decide) (lc_24 hC s24 hR h1 h2 h3 h4 hI hl kk)
      · exact lv_tableIn (off := 839) (tgt := 871) hx hb dL_law_32 (by decide) (by decide) (by decide) (by decide) (lc_25 hC s25 hR h1 h2 h3 h4 hI hl kk)
      · exact lv_tableIn (off := 852) (tgt := 884) hx hb dL_law_32 (by decide) (by decide) (by decide) (by decide) (lc_26 hC s26 hR h1 h2 h3 h4 hI hl kk)
      · exact lv_tableIn (off := 875) (tgt := 907) hx hb dL_law_32 (by decide) (by decide) (by decide) (by decide) (lc_27 hC s27 hR h1 h2 h3 h4 hI hl kk)
      · exact lv_tableIn (off := 888) (tgt := 920) hx hb dL_law_32 (by decide) (by decide) (by decide) (by decide) (lc_28 hC s28 hR h1 h2 h3 h4 hI hl kk)
      · exact lv_tableIn (off := 901) (tgt := 933) hx hb dL_law_32 (by decide) (by decide) (by decide) (by decide) (lc_29 hC s29 hR h1 h2 h3 h4 hI hl kk)
      · exact lv_tableIn (off := 914) (tgt := 946) hx hb dL_law_32 (by decide) (by decide) (by decide) (by decide) (lc_30 hC s30 hR h1 h2 h3 h4 hI hl kk)
      · exact lv_tableIn (off := 937) (tgt := 969) hx hb dL_law_32 (by decide) (by decide) (by decide) (by decide) (lc_31 hC s31 hR h1 h2 h3 h4 hI hl kk)
end
