theorem zcmp_self {x : Int64} : lg_cmp x x = 0 := by
  unfold lg_cmp
  simp
set_option maxRecDepth 20000 in
theorem lw_case0 {p : Program} {l : Launch} {e : Env} {s : State} {m : MethodId} {below : List Frame} {meth : Method} {c : Code} {H : Heap} {locs : List Loc} {cells slots : Nat} {Q : State → Prop} {ls : Array Slot} {D : va_G} {cy : Nat → ClassId} {b L : Nat} {xs : Nat → Int32} {ad1 ad2 : Nat → Nat} {C R : zM} {i : Int32} (F : zLF p s m meth c b L xs D cy) (hf : cells + 0 ≤ room_1.cells ∧ slots + 0 ≤ room_1.slots) (h1 : vp_in (i + 1) L) (h2 : vp_in (i + 2) L) (h3 : vp_in (i + 3) L) (h4 : vp_in (i + 4) L) (h5 : vp_in (i + 5) L) (hH : zL2 D cy s H locs ad1 ad2 C R) (hI : zIN C R) (hl : lv_has ls 4 [(3, .int i), (2, .ref (ad2 0)), (1, .ref (ad1 0)), (0, .ref b)])
    (next : ∀ (C' R' : zM) (H1 : Heap) (locs1 : List Loc), zL2 D cy s H1 locs1 ad1 ad2 C' R' → zIN C' R' → W p l e room_1 s m #[Value.ref b] below meth c H1 locs1 cells slots Q (F0 m 1289 ls [])) :
    W p l e room_1 s m #[Value.ref b] below meth c H locs cells slots Q (F0 m 196 ls []) := by
  obtain ⟨⟨hx, hb, hr, hml, hown, hts, hX, hbl, hlocks, hgv⟩, -⟩ := id F
  have hbA : ¬ (fun q : Nat => s.heap.size ≤ q) b := Nat.not_le.mpr hbl
  have hS := hH.2.2.2.2.2.1
  refine lv_aload_n hx hb dL_law_196 rfl (lv_at hl 2 rfl) ?_
  refine lv_aload_n hx hb dL_law_197 rfl (lv_at hl 3 rfl) ?_
  refine lv_iload_n hx hb dL_law_198 rfl (lv_at hl 0 rfl) ?_
  refine lv_iconst (v := (1 : Int32)) hx hb dL_law_199 (by decide) ?_
  refine lv_iadd hx hb dL_law_200 ?_
  refine va_sld hx hb hX hbl hbA hS h1 dL_law_201 ?_
  refine lv_aload_n hx hb dL_law_202 rfl (lv_at hl 3 rfl) ?_
  refine lv_iload_n hx hb dL_law_203 rfl (lv_at hl 0 rfl) ?_
  refine lv_iconst (v := (2 : Int32)) hx hb dL_law_204 (by decide) ?_
  refine lv_iadd hx hb dL_law_205 ?_
  refine va_sld hx hb hX hbl hbA hS h2 dL_law_206 ?_
  refine lv_aload_n hx hb dL_law_207 rfl (lv_at hl 3 rfl) ?_
  refine lv_iload_n hx hb dL_law_208 rfl (lv_at hl 0 rfl) ?_
  refine lv_iconst (v := (3 : Int32)) hx hb dL_law_209 (by decide) ?_
  refine lv_iadd hx hb dL_law_210 ?_
  refine va_sld hx hb hX hbl hbA hS h3 dL_law_211 ?_
  refine lv_aload_n hx hb dL_law_212 rfl (lv_at hl 3 rfl) ?_
  refine lv_iload_n hx hb dL_law_213 rfl (lv_at hl 0 rfl) ?_
  refine lv_iconst (v := (4 : Int32)) hx hb dL_law_214 (by decide) ?_
  refine lv_iadd hx hb dL_law_215 ?_
  refine va_sld hx hb hX hbl hbA hS h4 dL_law_216 ?_
  refine lci1 (lrunV F hH.2.2.2.2.2.1 hH.1 hH.2.2.1 hH.2.2.2.2.2.2.1 (c_X5_block l D cy ad1 C (xs (i + 1).toNatClampNeg) (xs (i + 2).toNatClampNeg) (xs (i + 3).toNatClampNeg) (xs (i + 4).toNatClampNeg)) kM_L_13 zK5 kq_X5_block zX0 rfl hl.1 rfl rfl rfl ⟨Nat.le_of_ble_eq_true rfl, Nat.le_of_ble_eq_true rfl⟩ hf (Nat.le_of_ble_eq_true rfl) dL_law_217) hH (fun H locs hH => ?_)
  have hS := hH.2.2.2.2.2.1
  refine lv_aload_n hx hb dL_law_220 rfl (lv_at hl 1 rfl) ?_
  refine lv_aload_n hx hb dL_law_221 rfl (lv_at hl 3 rfl) ?_
  refine lv_iload_n hx hb dL_law_222 rfl (lv_at hl 0 rfl) ?_
  refine lv_iconst (v := (1 : Int32)) hx hb dL_law_223 (by decide) ?_
  refine lv_iadd hx hb dL_law_224 ?_
  refine va_sld hx hb hX hbl hbA hS h1 dL_law_225 ?_
  refine lv_aload_n hx hb dL_law_226 rfl (lv_at hl 3 rfl) ?_
  refine lv_iload_n hx hb dL_law_227 rfl (lv_at hl 0 rfl) ?_
  refine lv_iconst (v := (2 : Int32)) hx hb dL_law_228 (by decide) ?_
  refine lv_iadd hx hb dL_law_229 ?_
  refine va_sld hx hb hX hbl hbA hS h2 dL_law_230 ?_
  refine lv_aload_n hx hb dL_law_231 rfl (lv_at hl 3 rfl) ?_
  refine lv_iload_n hx hb dL_law_232 rfl (lv_at hl 0 rfl) ?_
  refine lv_iconst (v := (3 : Int32)) hx hb dL_law_233 (by decide) ?_
  refine lv_iadd hx hb dL_law_234 ?_
  refine va_sld hx hb hX hbl hbA hS h3 dL_law_235 ?_
  refine lv_aload_n hx hb dL_law_236 rfl (lv_at hl 3 rfl) ?_
  refine lv_iload_n hx hb dL_law_237 rfl (lv_at hl 0 rfl) ?_
  refine lv_iconst (v := (4 : Int32)) hx hb dL_law_238 (by decide) ?_
  refine lv_iadd hx hb dL_law_239 ?_
  refine va_sld hx hb hX hbl hbA hS h4 dL_law_240 ?_
  refine lci2 (lrunV F hH.2.2.2.2.2.1 hH.2.1 hH.2.2.2.1 hH.2.2.2.2.2.2.2 (c_X6_block l D cy ad2 R (xs (i + 1).toNatClampNeg) (xs (i + 2).toNatClampNeg) (xs (i + 3).toNatClampNeg) (xs (i + 4).toNatClampNeg)) kM_L_17 zK6 kq_X6_block zR0 rfl hl.1 rfl rfl rfl ⟨Nat.le_of_ble_eq_true rfl, Nat.le_of_ble_eq_true rfl⟩ hf (Nat.le_of_ble_eq_true rfl) dL_law_241) hH (fun H locs hH => ?_)
  have hS := hH.2.2.2.2.2.1
  have hm := m_block hI (xs (i + 1).toNatClampNeg) (xs (i + 2).toNatClampNeg) (xs (i + 3).toNatClampNeg) (xs (i + 4).toNatClampNeg)
  exact lv_icmp_eq (tgt := 1289) hx hb dL_law_244 (by decide) (fun _ => next _ _ _ _ hH hm.2) (fun hc => absurd hm.1 hc)
set_option maxRecDepth 20000 in
theorem lw_case1 {p : Program} {l : Launch} {e : Env} {s : State} {m : MethodId} {below : List Frame} {meth : Method} {c : Code} {H : Heap} {locs : List Loc} {cells slots : Nat} {Q : State → Prop} {ls : Array Slot} {D : va_G} {cy : Nat → ClassId} {b L : Nat} {xs : Nat → Int32} {ad1 ad2 : Nat → Nat} {C R : zM} {i : Int32} (F : zLF p s m meth c b L xs D cy) (hf : cells + 0 ≤ room_1.cells ∧ slots + 0 ≤ room_1.slots) (h1 : vp_in (i + 1) L) (h2 : vp_in (i + 2) L) (h3 : vp_in (i + 3) L) (h4 : vp_in (i + 4) L) (h5 : vp_in (i + 5) L) (hH : zL2 D cy s H locs ad1 ad2 C R) (hI : zIN C R) (hl : lv_has ls 4 [(3, .int i), (2, .ref (ad2 0)), (1, .ref (ad1 0)), (0, .ref b)])
    (next : ∀ (C' R' : zM) (H1 : Heap) (locs1 : List Loc), zL2 D cy s H1 locs1 ad1 ad2 C' R' → zIN C' R' → W p l e room_1 s m #[Value.ref b] below meth c H1 locs1 cells slots Q (F0 m 1289 ls [])) :
    W p l e room_1 s m #[Value.ref b] below meth c H locs cells slots Q (F0 m 249 ls []) := by
  obtain ⟨⟨hx, hb, hr, hml, hown, hts, hX, hbl, hlocks, hgv⟩, -⟩ := id F
  have hbA : ¬ (fun q : Nat => s.heap.size ≤ q) b := Nat.not_le.mpr hbl
  have hS := hH.2.2.2.2.2.1
  refine lv_aload_n hx hb dL_law_249 rfl (lv_at hl 2 rfl) ?_
  refine lv_aload_n hx hb dL_law_250 rfl (lv_at hl 3 rfl) ?_
  refine lv_iload_n hx hb dL_law_251 rfl (lv_at hl 0 rfl) ?_
  refine lv_iconst (v := (1 : Int32)) hx hb dL_law_252 (by decide) ?_
  refine lv_iadd hx hb dL_law_253 ?_
  refine va_sld hx hb hX hbl hbA hS h1 dL_law_254 ?_
  refine lv_aload_n hx hb dL_law_255 rfl (lv_at hl 3 rfl) ?_
  refine lv_iload_n hx hb dL_law_256 rfl (lv_at hl 0 rfl) ?_
  refine lv_iconst (v := (2 : Int32)) hx hb dL_law_257 (by decide) ?_
  refine lv_iadd hx hb dL_law_258 ?_
  refine va_sld hx hb hX hbl hbA hS h2 dL_law_259 ?_
  refine lci1 (lrunV F hH.2.2.2.2.2.1 hH.1 hH.2.2.1 hH.2.2.2.2.2.2.1 (c_X5_of l D cy ad1 C (xs (i + 1).toNatClampNeg) (xs (i + 2).toNatClampNeg)) kM_L_18 zK5 kq_X5_of zX0 rfl hl.1 rfl rfl rfl ⟨Nat.le_of_ble_eq_true rfl, Nat.le_of_ble_eq_true rfl⟩ hf (Nat.le_of_ble_eq_true rfl) dL_law_260) hH (fun H locs hH => ?_)
  have hS := hH.2.2.2.2.2.1
  refine lv_aload_n hx hb dL_law_263 rfl (lv_at hl 1 rfl) ?_
  refine lv_aload_n hx hb dL_law_264 rfl (lv_at hl 3 rfl) ?_
  refine lv_iload_n hx hb dL_law_265 rfl (lv_at hl 0 rfl) ?_
  refine lv_iconst (v := (1 : Int32)) hx hb dL_law_266 (by decide) ?_
  refine lv_iadd hx hb dL_law_267 ?_
  refine va_sld hx hb hX hbl hbA hS h1 dL_law_268 ?_
  refine lv_aload_n hx hb dL_law_269 rfl (lv_at hl 3 rfl) ?_
  refine lv_iload_n hx hb dL_law_270 rfl (lv_at hl 0 rfl) ?_
  refine lv_iconst (v := (2 : Int32)) hx hb dL_law_271 (by decide) ?_
  refine lv_iadd hx hb dL_law_272 ?_
  refine va_sld hx hb hX hbl hbA hS h2 dL_law_273 ?_
  refine lci2 (lrunV F hH.2.2.2.2.2.1 hH.2.1 hH.2.2.2.1 hH.2.2.2.2.2.2.2 (c_X6_of l D cy ad2 R (xs (i + 1).toNatClampNeg) (xs (i + 2).toNatClampNeg) (zVl.val hI.1.2.2)) kM_L_22 zK6 kq_X6_of zR0 rfl hl.1 rfl rfl rfl ⟨Nat.le_of_ble_eq_true rfl, Nat.le_of_ble_eq_true rfl⟩ hf (Nat.le_of_ble_eq_true rfl) dL_law_274) hH (fun H locs hH => ?_)
  have hS := hH.2.2.2.2.2.1
  have hm := m_of hI (xs (i + 1).toNatClampNeg) (xs (i + 2).toNatClampNeg)
  exact lv_icmp_eq (tgt := 1289) hx hb dL_law_277 (by decide) (fun _ => next _ _ _ _ hH hm.2) (fun hc => absurd hm.1 hc)
set_option maxRecDepth 20000 in
theorem lw_case2 {p : Program} {l : Launch} {e : Env} {s : State} {m : MethodId} {below : List Frame} {meth : Method} {c : Code} {H : Heap} {locs : List Loc} {cells slots : Nat} {Q : State → Prop} {ls : Array Slot} {D : va_G} {cy : Nat → ClassId} {b L : Nat} {xs : Nat → Int32} {ad1 ad2 : Nat → Nat} {C R : zM} {i : Int32} (F : zLF p s m meth c b L xs D cy) (hf : cells + 0 ≤ room_1.cells ∧ slots + 0 ≤ room_1.slots) (h1 : vp_in (i + 1) L) (h2 : vp_in (i + 2) L) (h3 : vp_in (i + 3) L) (h4 : vp_in (i + 4) L) (h5 : vp_in (i + 5) L) (hH : zL2 D cy s H locs ad1 ad2 C R) (hI : zIN C R) (hl : lv_has ls 4 [(3, .int i), (2, .ref (ad2 0)), (1, .ref (ad1 0)), (0, .ref b)])
    (next : ∀ (C' R' : zM) (H1 : Heap) (locs1 : List Loc), zL2 D cy s H1 locs1 ad1 ad2 C' R' → zIN C' R' → W p l e room_1 s m #[Value.ref b] below meth c H1 locs1 cells slots Q (F0 m 1289 ls [])) :
    W p l e room_1 s m #[Value.ref b] below meth c H locs cells slots Q (F0 m 282 ls []) := by
  obtain ⟨⟨hx, hb, hr, hml, hown, hts, hX, hbl, hlocks, hgv⟩, -⟩ := id F
  have hbA : ¬ (fun q : Nat => s.heap.size ≤ q) b := Nat.not_le.mpr hbl
  have hS := hH.2.2.2.2.2.1
  refine lv_aload_n hx hb dL_law_282 rfl (lv_at hl 2 rfl) ?_
  refine lv_aload_n hx hb dL_law_283 rfl (lv_at hl 3 rfl) ?_
  refine lv_iload_n hx hb dL_law_284 rfl (lv_at hl 0 rfl) ?_
  refine lv_iconst (v := (1 : Int32)) hx hb dL_law_285 (by decide) ?_
  refine lv_iadd hx hb dL_law_286 ?_
  refine va_sld hx hb hX hbl hbA hS h1 dL_law_287 ?_
  refine lv_aload_n hx hb dL_law_288 rfl (lv_at hl 3 rfl) ?_
  refine lv_iload_n hx hb dL_law_289 rfl (lv_at hl 0 rfl) ?_
  refine lv_iconst (v := (2 : Int32)) hx hb dL_law_290 (by decide) ?_
  refine lv_iadd hx hb dL_law_291 ?_
  refine va_sld hx hb hX hbl hbA hS h2 dL_law_292 ?_
  refine lv_aload_n hx hb dL_law_293 rfl (lv_at hl 3 rfl) ?_
  refine lv_iload_n hx hb dL_law_294 rfl (lv_at hl 0 rfl) ?_
  refine lv_iconst (v := (3 : Int32)) hx hb dL_law_295 (by decide) ?_
  refine lv_iadd hx hb dL_law_296 ?_
  refine va_sld hx hb hX hbl hbA hS h3 dL_law_297 ?_
  refine lci1 (lrunV F hH.2.2.2.2.2.1 hH.1 hH.2.2.1 hH.2.2.2.2.2.2.1 (c_X5_set l D cy ad1 C (xs (i + 1).toNatClampNeg) (xs (i + 2).toNatClampNeg) (xs (i + 3).toNatClampNeg)) kM_L_23 zK5 kq_X5_set zX0 rfl hl.1 rfl rfl rfl ⟨Nat.le_of_ble_eq_true rfl, Nat.le_of_ble_eq_true rfl⟩ hf (Nat.le_of_ble_eq_true rfl) dL_law_298) hH (fun H locs hH => ?_)
  have hS := hH.2.2.2.2.2.1
  refine lv_aload_n hx hb dL_law_301 rfl (lv_at hl 1 rfl) ?_
  refine lv_aload_n hx hb dL_law_302 rfl (lv_at hl 3 rfl) ?_
  refine lv_iload_n hx hb dL_law_303 rfl (lv_at hl 0 rfl) ?_
  refine lv_iconst (v := (1 : Int32)) hx hb dL_law_304 (by decide) ?_
  refine lv_iadd hx hb dL_law_305 ?_
  refine va_sld hx hb hX hbl hbA hS h1 dL_law_306 ?_
  refine lv_aload_n hx hb dL_law_307 rfl (lv_at hl 3 rfl) ?_
  refine lv_iload_n hx hb dL_law_308 rfl (lv_at hl 0 rfl) ?_
  refine lv_iconst (v := (2 : Int32)) hx hb dL_law_309 (by decide) ?_
  refine lv_iadd hx hb dL_law_310 ?_
  refine va_sld hx hb hX hbl hbA hS h2 dL_law_311 ?_
  refine lv_aload_n hx hb dL_law_312 rfl (lv_at hl 3 rfl) ?_
  refine lv_iload_n hx hb dL_law_313 rfl (lv_at hl 0 rfl) ?_
  refine lv_iconst (v := (3 : Int32)) hx hb dL_law_314 (by decide) ?_
  refine lv_iadd hx hb dL_law_315 ?_
  refine va_sld hx hb hX hbl hbA hS h3 dL_law_316 ?_
  refine lci2 (lrunV F hH.2.2.2.2.2.1 hH.2.1 hH.2.2.2.1 hH.2.2.2.2.2.2.2 (c_X6_set l D cy ad2 R (xs (i + 1).toNatClampNeg) (xs (i + 2).toNatClampNeg) (xs (i + 3).toNatClampNeg)) kM_L_27 zK6 kq_X6_set zR0 rfl hl.1 rfl rfl rfl ⟨Nat.le_of_ble_eq_true rfl, Nat.le_of_ble_eq_true rfl⟩ hf (Nat.le_of_ble_eq_true rfl) dL_law_317) hH (fun H locs hH => ?_)
  have hS := hH.2.2.2.2.2.1
  have hm := m_set hI (xs (i + 1).toNatClampNeg) (xs (i + 2).toNatClampNeg) (xs (i + 3).toNatClampNeg)
  exact lv_icmp_eq (tgt := 1289) hx hb dL_law_320 (by decide) (fun _ => next _ _ _ _ hH hm.2) (fun hc => absurd hm.1 hc)
set_option maxRecDepth 20000 in
theorem lw_case3 {p : Program} {l : Launch} {e : Env} {s : State} {m : MethodId} {below : List Frame} {meth : Method} {c : Code} {H : Heap} {locs : List Loc} {cells slots : Nat} {Q : State → Prop} {ls : Array Slot} {D : va_G} {cy : Nat → ClassId} {b L : Nat} {xs : Nat → Int32} {ad1 ad2 : Nat → Nat} {C R : zM} {i : Int32} (F : zLF p s m meth c b L xs D cy) (hf : cells + 0 ≤ room_1.cells ∧ slots + 0 ≤ room_1.slots) (h1 : vp_in (i + 1) L) (h2 : vp_in (i + 2) L) (h3 : vp_in (i + 3) L) (h4 : vp_in (i + 4) L) (h5 : vp_in (i + 5) L) (hH : zL2 D cy s H locs ad1 ad2 C R) (hI : zIN C R) (hl : lv_has ls 4 [(3, .int i), (2, .ref (ad2 0)), (1, .ref (ad1 0)), (0, .ref b)])
    (next : ∀ (C' R' : zM) (H1 : Heap) (locs1 : List Loc), zL2 D cy s H1 locs1 ad1 ad2 C' R' → zIN C' R' → W p l e room_1 s m #[Value.ref b] below meth c H1 locs1 cells slots Q (F0 m 1289 ls [])) :
    W p l e room_1 s m #[Value.ref b] below meth c H locs cells slots Q (F0 m 325 ls []) := by
  obtain ⟨⟨hx, hb, hr, hml, hown, hts, hX, hbl, hlocks, hgv⟩, -⟩ := id F
  have hbA : ¬ (fun q : Nat => s.heap.size ≤ q) b := Nat.not_le.mpr hbl
  have hS := hH.2.2.2.2.2.1
  refine lv_aload_n hx hb dL_law_325 rfl (lv_at hl 2 rfl) ?_
  refine lv_aload_n hx hb dL_law_326 rfl (lv_at hl 3 rfl) ?_
  refine lv_iload_n hx hb dL_law_327 rfl (lv_at hl 0 rfl) ?_
  refine lv_iconst (v := (1 : Int32)) hx hb dL_law_328 (by decide) ?_
  refine lv_iadd hx hb dL_law_329 ?_
  refine va_sld hx hb hX hbl hbA hS h1 dL_law_330 ?_
  refine lv_aload_n hx hb dL_law_331 rfl (lv_at hl 3 rfl) ?_
  refine lv_iload_n hx hb dL_law_332 rfl (lv_at hl 0 rfl) ?_
  refine lv_iconst (v := (2 : Int32)) hx hb dL_law_333 (by decide) ?_
  refine lv_iadd hx hb dL_law_334 ?_
  refine va_sld hx hb hX hbl hbA hS h2 dL_law_335 ?_
  refine lci1 (lrunV F hH.2.2.2.2.2.1 hH.1 hH.2.2.1 hH.2.2.2.2.2.2.1 (c_X5_as l D cy ad1 C (xs (i + 1).toNatClampNeg) (xs (i + 2).toNatClampNeg)) kM_L_28 zK5 kq_X5_as zX0 rfl hl.1 rfl rfl rfl ⟨Nat.le_of_ble_eq_true rfl, Nat.le_of_ble_eq_true rfl⟩ hf (Nat.le_of_ble_eq_true rfl) dL_law_336) hH (fun H locs hH => ?_)
  have hS := hH.2.2.2.2.2.1
  refine lv_aload_n hx hb dL_law_339 rfl (lv_at hl 1 rfl) ?_
  refine lv_aload_n hx hb dL_law_340 rfl (lv_at hl 3 rfl) ?_
  refine lv_iload_n hx hb dL_law_341 rfl (lv_at hl 0 rfl) ?_
  refine lv_iconst (v := (1 : Int32)) hx hb dL_law_342 (by decide) ?_
  refine lv_iadd hx hb dL_law_343 ?_
  refine va_sld hx hb hX hbl hbA hS h1 dL_law_344 ?_
  refine lv_aload_n hx hb dL_law_345 rfl (lv_at hl 3 rfl) ?_
  refine lv_iload_n hx hb dL_law_346 rfl (lv_at hl 0 rfl) ?_
  refine lv_iconst (v := (2 : Int32)) hx hb dL_law_347 (by decide) ?_
  refine lv_iadd hx hb dL_law_348 ?_
  refine va_sld hx hb hX hbl hbA hS h2 dL_law_349 ?_
  refine lci2 (lrunV F hH.2.2.2.2.2.1 hH.2.1 hH.2.2.2.1 hH.2.2.2.2.2.2.2 (c_X6_as l D cy ad2 R (xs (i + 1).toNatClampNeg) (xs (i + 2).toNatClampNeg) (zVl.val hI.1.2.2)) kM_L_31 zK6 kq_X6_as zR0 rfl hl.1 rfl rfl rfl ⟨Nat.le_of_ble_eq_true rfl, Nat.le_of_ble_eq_true rfl⟩ hf (Nat.le_of_ble_eq_true rfl) dL_law_350) hH (fun H locs hH => ?_)
  have hS := hH.2.2.2.2.2.1
  have hm := m_as hI (xs (i + 1).toNatClampNeg) (xs (i + 2).toNatClampNeg)
  exact lv_icmp_eq (tgt := 1289) hx hb dL_law_353 (by decide) (fun _ => next _ _ _ _ hH hm.2) (fun hc => absurd hm.1 hc)
set_option maxRecDepth 20000 in
theorem lw_case4 {p : Program} {l : Launch} {e : Env} {s : State} {m : MethodId} {below : List Frame} {meth : Method} {c : Code} {H : Heap} {locs : List Loc} {cells slots : Nat} {Q : State → Prop} {ls : Array Slot} {D : va_G} {cy : Nat → ClassId} {b L : Nat} {xs : Nat → Int32} {ad1 ad2 : Nat → Nat} {C R : zM} {i : Int32} (F : zLF p s m meth c b L xs D cy) (hf : cells + 0 ≤ room_1.cells ∧ slots + 0 ≤ room_1.slots) (h1 : vp_in (i + 1) L) (h2 : vp_in (i + 2) L) (h3 : vp_in (i + 3) L) (h4 : vp_in (i + 4) L) (h5 : vp_in (i + 5) L) (hH : zL2 D cy s H locs ad1 ad2 C R) (hI : zIN C R) (hl : lv_has ls 4 [(3, .int i), (2, .ref (ad2 0)), (1, .ref (ad1 0)), (0, .ref b)])
    (next : ∀ (C' R' : zM) (H1 : Heap) (locs1 : List Loc), zL2 D cy s H1 locs1 ad1 ad2 C' R' → zIN C' R' → W p l e room_1 s m #[Value.ref b] below meth c H1 locs1 cells slots Q (F0 m 1289 ls [])) :
    W p l e room_1 s m #[Value.ref b] below meth c H locs cells slots Q (F0 m 358 ls []) := by
  obtain ⟨⟨hx, hb, hr, hml, hown, hts, hX, hbl, hlocks, hgv⟩, -⟩ := id F
  have hbA : ¬ (fun q : Nat => s.heap.size ≤ q) b := Nat.not_le.mpr hbl
  have hS := hH.2.2.2.2.2.1
  refine lv_aload_n hx hb dL_law_358 rfl (lv_at hl 2 rfl) ?_
  refine lv_aload_n hx hb dL_law_359 rfl (lv_at hl 3 rfl) ?_
  refine lv_iload_n hx hb dL_law_360 rfl (lv_at hl 0 rfl) ?_
  refine lv_iconst (v := (1 : Int32)) hx hb dL_law_361 (by decide) ?_
  refine lv_iadd hx hb dL_law_362 ?_
  refine va_sld hx hb hX hbl hbA hS h1 dL_law_363 ?_
  refine lv_aload_n hx hb dL_law_364 rfl (lv_at hl 3 rfl) ?_
  refine lv_iload_n hx hb dL_law_365 rfl (lv_at hl 0 rfl) ?_
  refine lv_iconst (v := (2 : Int32)) hx hb dL_law_366 (by decide) ?_
  refine lv_iadd hx hb dL_law_367 ?_
  refine va_sld hx hb hX hbl hbA hS h2 dL_law_368 ?_
  refine lci1 (lrunV F hH.2.2.2.2.2.1 hH.1 hH.2.2.1 hH.2.2.2.2.2.2.1 (c_X5_holds l D cy ad1 C (xs (i + 1).toNatClampNeg) (xs (i + 2).toNatClampNeg)) kM_L_32 zK5 kq_X5_holds zX0 rfl hl.1 rfl rfl rfl ⟨Nat.le_of_ble_eq_true rfl, Nat.le_of_ble_eq_true rfl⟩ hf (Nat.le_of_ble_eq_true rfl) dL_law_369) hH (fun H locs hH => ?_)
  have hS := hH.2.2.2.2.2.1
  refine lv_aload_n hx hb dL_law_372 rfl (lv_at hl 1 rfl) ?_
  refine lv_aload_n hx hb dL_law_373 rfl (lv_at hl 3 rfl) ?_
  refine lv_iload_n hx hb dL_law_374 rfl (lv_at hl 0 rfl) ?_
  refine lv_iconst (v := (1 : Int32)) hx hb dL_law_375 (by decide) ?_
  refine lv_iadd hx hb dL_law_376 ?_
  refine va_sld hx hb hX hbl hbA hS h1 dL_law_377 ?_
  refine lv_aload_n hx hb dL_law_378 rfl (lv_at hl 3 rfl) ?_
  refine lv_iload_n hx hb dL_law_379 rfl (lv_at hl 0 rfl) ?_
  refine lv_iconst (v := (2 : Int32)) hx hb dL_law_380 (by decide) ?_
  refine lv_iadd hx hb dL_law_381 ?_
  refine va_sld hx hb hX hbl hbA hS h2 dL_law_382 ?_
  refine lci2 (lrunV F hH.2.2.2.2.2.1 hH.2.1 hH.2.2.2.1 hH.2.2.2.2.2.2.2 (c_X6_holds l D cy ad2 R (xs (i + 1).toNatClampNeg) (xs (i + 2).toNatClampNeg) (zVl.val hI.1.2.2)) kM_L_35 zK6 kq_X6_holds zR0 rfl hl.1 rfl rfl rfl ⟨Nat.le_of_ble_eq_true rfl, Nat.le_of_ble_eq_true rfl⟩ hf (Nat.le_of_ble_eq_true rfl) dL_law_383) hH (fun H locs hH => ?_)
  have hS := hH.2.2.2.2.2.1
  have hm := m_holds hI (xs (i + 1).toNatClampNeg) (xs (i + 2).toNatClampNeg)
  exact lv_icmp_eq (tgt := 1289) hx hb dL_law_386 (by decide) (fun _ => next _ _ _ _ hH hm.2) (fun hc => absurd hm.1 hc)
set_option maxRecDepth 20000 in
theorem lw_case5 {p : Program} {l : Launch} {e : Env} {s : State} {m : MethodId} {below : List Frame} {meth : Method} {c : Code} {H : Heap} {locs : List Loc} {cells slots : Nat} {Q : State → Prop} {ls : Array Slot} {D : va_G} {cy : Nat → ClassId} {b L : Nat} {xs : Nat → Int32} {ad1 ad2 : Nat → Nat} {C R : zM} {i : Int32} (F : zLF p s m meth c b L xs D cy) (hf : cells + 0 ≤ room_1.cells ∧ slots + 0 ≤ room_1.slots) (h1 : vp_in (i + 1) L) (h2 : vp_in (i + 2) L) (h3 : vp_in (i + 3) L) (h4 : vp_in (i + 4) L) (h5 : vp_in (i + 5) L) (hH : zL2 D cy s H locs ad1 ad2 C R) (hI : zIN C R) (hl : lv_has ls 4 [(3, .int i), (2, .ref (ad2 0)), (1, .ref (ad1 0)), (0, .ref b)])
    (next : ∀ (C' R' : zM) (H1 : Heap) (locs1 : List Loc), zL2 D cy s H1 locs1 ad1 ad2 C' R' → zIN C' R' → W p l e room_1 s m #[Value.ref b] below meth c H1 locs1 cells slots Q (F0 m 1289 ls [])) :
    W p l e room_1 s m #[Value.ref b] below meth c H locs cells slots Q (F0 m 391 ls []) := by
  obtain ⟨⟨hx, hb, hr, hml, hown, hts, hX, hbl, hlocks, hgv⟩, -⟩ := id F
  have hbA : ¬ (fun q : Nat => s.heap.size ≤ q) b := Nat.not_le.mpr hbl
  have hS := hH.2.2.2.2.2.1
  refine lv_aload_n hx hb dL_law_391 rfl (lv_at hl 2 rfl) ?_
  refine lv_aload_n hx hb dL_law_392 rfl (lv_at hl 3 rfl) ?_
  refine lv_iload_n hx hb dL_law_393 rfl (lv_at hl 0 rfl) ?_
  refine lv_iconst (v := (1 : Int32)) hx hb dL_law_394 (by decide) ?_
  refine lv_iadd hx hb dL_law_395 ?_
  refine va_sld hx hb hX hbl hbA hS h1 dL_law_396 ?_
  refine lv_aload_n hx hb dL_law_397 rfl (lv_at hl 3 rfl) ?_
  refine lv_iload_n hx hb dL_law_398 rfl (lv_at hl 0 rfl) ?_
  refine lv_iconst (v := (2 : Int32)) hx hb dL_law_399 (by decide) ?_
  refine lv_iadd hx hb dL_law_400 ?_
  refine va_sld hx hb hX hbl hbA hS h2 dL_law_401 ?_
  refine lci1 (lrunV F hH.2.2.2.2.2.1 hH.1 hH.2.2.1 hH.2.2.2.2.2.2.1 (c_X5_rubs l D cy ad1 C (xs (i + 1).toNatClampNeg) (xs (i + 2).toNatClampNeg)) kM_L_36 zK5 kq_X5_rubs zX0 rfl hl.1 rfl rfl rfl ⟨Nat.le_of_ble_eq_true rfl, Nat.le_of_ble_eq_true rfl⟩ hf (Nat.le_of_ble_eq_true rfl) dL_law_402) hH (fun H locs hH => ?_)
  have hS := hH.2.2.2.2.2.1
  refine lv_aload_n hx hb dL_law_405 rfl (lv_at hl 1 rfl) ?_
  refine lv_aload_n hx hb dL_law_406 rfl (lv_at hl 3 rfl) ?_
  refine lv_iload_n hx hb dL_law_407 rfl (lv_at hl 0 rfl) ?_
  refine lv_iconst (v := (1 : Int32)) hx hb dL_law_408 (by decide) ?_
  refine lv_iadd hx hb dL_law_409 ?_
  refine va_sld hx hb hX hbl hbA hS h1 dL_law_410 ?_
  refine lv_aload_n hx hb dL_law_411 rfl (lv_at hl 3 rfl) ?_
  refine lv_iload_n hx hb dL_law_412 rfl (lv_at hl 0 rfl) ?_
  refine lv_iconst (v := (2 : Int32)) hx hb dL_law_413 (by decide) ?_
  refine lv_iadd hx hb dL_law_414 ?_
  refine va_sld hx hb hX hbl hbA hS h2 dL_law_415 ?_
  refine lci2 (lrunV F hH.2.2.2.2.2.1 hH.2.1 hH.2.2.2.1 hH.2.2.2.2.2.2.2 (c_X6_rubs l D cy ad2 R (xs (i + 1).toNatClampNeg) (xs (i + 2).toNatClampNeg)) kM_L_39 zK6 kq_X6_rubs zR0 rfl hl.1 rfl rfl rfl ⟨Nat.le_of_ble_eq_true rfl, Nat.le_of_ble_eq_true rfl⟩ hf (Nat.le_of_ble_eq_true rfl) dL_law_416) hH (fun H locs hH => ?_)
  have hS := hH.2.2.2.2.2.1
  have hm := m_rubs hI (xs (i + 1).toNatClampNeg) (xs (i + 2).toNatClampNeg)
  exact lv_icmp_eq (tgt := 1289) hx hb dL_law_419 (by decide) (fun _ => next _ _ _ _ hH hm.2) (fun hc => absurd hm.1 hc)
set_option maxRecDepth 20000 in
theorem lw_case6 {p : Program} {l : Launch} {e : Env} {s : State} {m : MethodId} {below : List Frame} {meth : Method} {c : Code} {H : Heap} {locs : List Loc} {cells slots : Nat} {Q : State → Prop} {ls : Array Slot} {D : va_G} {cy : Nat → ClassId} {b L : Nat} {xs : Nat → Int32} {ad1 ad2 : Nat → Nat} {C R : zM} {i : Int32} (F : zLF p s m meth c b L xs D cy) (hf : cells + 0 ≤ room_1.cells ∧ slots + 0 ≤ room_1.slots) (h1 : vp_in (i + 1) L) (h2 : vp_in (i + 2) L) (h3 : vp_in (i + 3) L) (h4 : vp_in (i + 4) L) (h5 : vp_in (i + 5) L) (hH : zL2 D cy s H locs ad1 ad2 C R) (hI : zIN C R) (hl : lv_has ls 4 [(3, .int i), (2, .ref (ad2 0)), (1, .ref (ad1 0)), (0, .ref b)])
    (next : ∀ (C' R' : zM) (H1 : Heap) (locs1 : List Loc), zL2 D cy s H1 locs1 ad1 ad2 C' R' → zIN C' R' → W p l e room_1 s m #[Value.ref b] below meth c H1 locs1 cells slots Q (F0 m 1289 ls [])) :
    W p l e room_1 s m #[Value.ref b] below meth c H locs cells slots Q (F0 m 424 ls []) := by
  obtain ⟨⟨hx, hb, hr, hml, hown, hts, hX, hbl, hlocks, hgv⟩, -⟩ := id F
  have hbA : ¬ (fun q : Nat => s.heap.size ≤ q) b := Nat.not_le.mpr hbl
  have hS := hH.2.2.2.2.2.1
  refine lv_aload_n hx hb dL_law_424 rfl (lv_at hl 2 rfl) ?_
  refine lv_aload_n hx hb dL_law_425 rfl (lv_at hl 3 rfl) ?_
  refine lv_iload_n hx hb dL_law_426 rfl (lv_at hl 0 rfl) ?_
  refine lv_iconst (v := (1 : Int32)) hx hb dL_law_427 (by decide) ?_
  refine lv_iadd hx hb dL_law_428 ?_
  refine va_sld hx hb hX hbl hbA hS h1 dL_law_429 ?_
  refine lv_aload_n hx hb dL_law_430 rfl (lv_at hl 3 rfl) ?_
  refine lv_iload_n hx hb dL_law_431 rfl (lv_at hl 0 rfl) ?_
  refine lv_iconst (v := (2 : Int32)) hx hb dL_law_432 (by decide) ?_
  refine lv_iadd hx hb dL_law_433 ?_
  refine va_sld hx hb hX hbl hbA hS h2 dL_law_434 ?_
  refine lci1 (lrunV F hH.2.2.2.2.2.1 hH.1 hH.2.2.1 hH.2.2.2.2.2.2.1 (c_X5_push l D cy ad1 C (xs (i + 1).toNatClampNeg) (xs (i + 2).toNatClampNeg)) kM_L_40 zK5 kq_X5_push zX0 rfl hl.1 rfl rfl rfl ⟨Nat.le_of_ble_eq_true rfl, Nat.le_of_ble_eq_true rfl⟩ hf (Nat.le_of_ble_eq_true rfl) dL_law_435) hH (fun H locs hH => ?_)
  have hS := hH.2.2.2.2.2.1
  refine lv_aload_n hx hb dL_law_438 rfl (lv_at hl 1 rfl) ?_
  refine lv_aload_n hx hb dL_law_439 rfl (lv_at hl 3 rfl) ?_
  refine lv_iload_n hx hb dL_law_440 rfl (lv_at hl 0 rfl) ?_
  refine lv_iconst (v := (1 : Int32)) hx hb dL_law_441 (by decide) ?_
  refine lv_iadd hx hb dL_law_442 ?_
  refine va_sld hx hb hX hbl hbA hS h1 dL_law_443 ?_
  refine lv_aload_n hx hb dL_law_444 rfl (lv_at hl 3 rfl) ?_
  refine lv_iload_n hx hb dL_law_445 rfl (lv_at hl 0 rfl) ?_
  refine lv_iconst (v := (2 : Int32)) hx hb dL_law_446 (by decide) ?_
  refine lv_iadd hx hb dL_law_447 ?_
  refine va_sld hx hb hX hbl hbA hS h2 dL_law_448 ?_
  refine lci2 (lrunV F hH.2.2.2.2.2.1 hH.2.1 hH.2.2.2.1 hH.2.2.2.2.2.2.2 (c_X6_push l D cy ad2 R (xs (i + 1).toNatClampNeg) (xs (i + 2).toNatClampNeg)) kM_L_43 zK6 kq_X6_push zR0 rfl hl.1 rfl rfl rfl ⟨Nat.le_of_ble_eq_true rfl, Nat.le_of_ble_eq_true rfl⟩ hf (Nat.le_of_ble_eq_true rfl) dL_law_449) hH (fun H locs hH => ?_)
  have hS := hH.2.2.2.2.2.1
  have hm := m_push hI (xs (i + 1).toNatClampNeg) (xs (i + 2).toNatClampNeg)
  exact lv_icmp_eq (tgt := 1289) hx hb dL_law_452 (by decide) (fun _ => next _ _ _ _ hH hm.2) (fun hc => absurd hm.1 hc)
set_option maxRecDepth 20000 in
theorem lw_case7 {p : Program} {l : Launch} {e : Env} {s : State} {m : MethodId} {below : List Frame} {meth : Method} {c : Code} {H : Heap} {locs : List Loc} {cells slots : Nat} {Q : State → Prop} {ls : Array Slot} {D : va_G} {cy : Nat → ClassId} {b L : Nat} {xs : Nat → Int32} {ad1 ad2 : Nat → Nat} {C R : zM} {i : Int32} (F : zLF p s m meth c b L xs D cy) (hf : cells + 0 ≤ room_1.cells ∧ slots + 0 ≤ room_1.slots) (h1 : vp_in (i + 1) L) (h2 : vp_in (i + 2) L) (h3 : vp_in (i + 3) L) (h4 : vp_in (i + 4) L) (h5 : vp_in (i + 5) L) (hH : zL2 D cy s H locs ad1 ad2 C R) (hI : zIN C R) (hl : lv_has ls 4 [(3, .int i), (2, .ref (ad2 0)), (1, .ref (ad1 0)), (0, .ref b)])
    (next : ∀ (C' R' : zM) (H1 : Heap) (locs1 : List Loc), zL2 D cy s H1 locs1 ad1 ad2 C' R' → zIN C' R' → W p l e room_1 s m #[Value.ref b] below meth c H1 locs1 cells slots Q (F0 m 1289 ls [])) :
    W p l e room_1 s m #[Value.ref b] below meth c H locs cells slots Q (F0 m 457 ls []) := by
  obtain ⟨⟨hx, hb, hr, hml, hown, hts, hX, hbl, hlocks, hgv⟩, -⟩ := id F
  have hbA : ¬ (fun q : Nat => s.heap.size ≤ q) b := Nat.not_le.mpr hbl
  have hS := hH.2.2.2.2.2.1
  refine lv_aload_n hx hb dL_law_457 rfl (lv_at hl 2 rfl) ?_
  refine lv_aload_n hx hb dL_law_458 rfl (lv_at hl 3 rfl) ?_
  refine lv_iload_n hx hb dL_law_459 rfl (lv_at hl 0 rfl) ?_
  refine lv_iconst (v := (1 : Int32)) hx hb dL_law_460 (by decide) ?_
  refine lv_iadd hx hb dL_law_461 ?_
  refine va_sld hx hb hX hbl hbA hS h1 dL_law_462 ?_
  refine lv_aload_n hx hb dL_law_463 rfl (lv_at hl 3 rfl) ?_
  refine lv_iload_n hx hb dL_law_464 rfl (lv_at hl 0 rfl) ?_
  refine lv_iconst (v := (2 : Int32)) hx hb dL_law_465 (by decide) ?_
  refine lv_iadd hx hb dL_law_466 ?_
  refine va_sld hx hb hX hbl hbA hS h2 dL_law_467 ?_
  refine lci1 (lrunV F hH.2.2.2.2.2.1 hH.1 hH.2.2.1 hH.2.2.2.2.2.2.1 (c_X5_oil l D cy ad1 C (xs (i + 1).toNatClampNeg) (xs (i + 2).toNatClampNeg)) kM_L_44 zK5 kq_X5_oil zX0 rfl hl.1 rfl rfl rfl ⟨Nat.le_of_ble_eq_true rfl, Nat.le_of_ble_eq_true rfl⟩ hf (Nat.le_of_ble_eq_true rfl) dL_law_468) hH (fun H locs hH => ?_)
  have hS := hH.2.2.2.2.2.1
  refine lv_aload_n hx hb dL_law_471 rfl (lv_at hl 1 rfl) ?_
  refine lv_aload_n hx hb dL_law_472 rfl (lv_at hl 3 rfl) ?_
  refine lv_iload_n hx hb dL_law_473 rfl (lv_at hl 0 rfl) ?_
  refine lv_iconst (v := (1 : Int32)) hx hb dL_law_474 (by decide) ?_
  refine lv_iadd hx hb dL_law_475 ?_
  refine va_sld hx hb hX hbl hbA hS h1 dL_law_476 ?_
  refine lv_aload_n hx hb dL_law_477 rfl (lv_at hl 3 rfl) ?_
  refine lv_iload_n hx hb dL_law_478 rfl (lv_at hl 0 rfl) ?_
  refine lv_iconst (v := (2 : Int32)) hx hb dL_law_479 (by decide) ?_
  refine lv_iadd hx hb dL_law_480 ?_
  refine va_sld hx hb hX hbl hbA hS h2 dL_law_481 ?_
  refine lci2 (lrunV F hH.2.2.2.2.2.1 hH.2.1 hH.2.2.2.1 hH.2.2.2.2.2.2.2 (c_X6_oil l D cy ad2 R (xs (i + 1).toNatClampNeg) (xs (i + 2).toNatClampNeg)) kM_L_47 zK6 kq_X6_oil zR0 rfl hl.1 rfl rfl rfl ⟨Nat.le_of_ble_eq_true rfl, Nat.le_of_ble_eq_true rfl⟩ hf (Nat.le_of_ble_eq_true rfl) dL_law_482) hH (fun H locs hH => ?_)
  have hS := hH.2.2.2.2.2.1
  have hm := m_oil hI (xs (i + 1).toNatClampNeg) (xs (i + 2).toNatClampNeg)
  exact lv_icmp_eq (tgt := 1289) hx hb dL_law_485 (by decide) (fun _ => next _ _ _ _ hH hm.2) (fun hc => absurd hm.1 hc)
set_option maxRecDepth 20000 in
theorem lw_case8 {p : Program} {l : Launch} {e : Env} {s : State} {m : MethodId} {below : List Frame} {meth : Method} {c : Code} {H : Heap} {locs : List Loc} {cells slots : Nat} {Q : State → Prop} {ls : Array Slot} {D : va_G} {cy : Nat → ClassId} {b L : Nat} {xs : Nat → Int32} {ad1 ad2 : Nat → Nat} {C R : zM} {i : Int32} (F : zLF p s m meth c b L xs D cy) (hf : cells + 0 ≤ room_1.cells ∧ slots + 0 ≤ room_1.slots) (h1 : vp_in (i + 1) L) (h2 : vp_in (i + 2) L) (h3 : vp_in (i + 3) L) (h4 : vp_in (i + 4) L) (h5 : vp_in (i + 5) L) (hH : zL2 D cy s H locs ad1 ad2 C R) (hI : zIN C R) (hl : lv_has ls 4 [(3, .int i), (2, .ref (ad2 0)), (1, .ref (ad1 0)), (0, .ref b)])
    (next : ∀ (C' R' : zM) (H1 : Heap) (locs1 : List Loc), zL2 D cy s H1 locs1 ad1 ad2 C' R' → zIN C' R' → W p l e room_1 s m #[Value.ref b] below meth c H1 locs1 cells slots Q (F0 m 1289 ls [])) :
    W p l e room_1 s m #[Value.ref b] below meth c H locs cells slots Q (F0 m 490 ls []) := by
  obtain ⟨⟨hx, hb, hr, hml, hown, hts, hX, hbl, hlocks, hgv⟩, -⟩ := id F
  have hbA : ¬ (fun q : Nat => s.heap.size ≤ q) b := Nat.not_le.mpr hbl
  have hS := hH.2.2.2.2.2.1
  refine lv_aload_n hx hb dL_law_490 rfl (lv_at hl 2 rfl) ?_
  refine lv_aload_n hx hb dL_law_491 rfl (lv_at hl 3 rfl) ?_
  refine lv_iload_n hx hb dL_law_492 rfl (lv_at hl 0 rfl) ?_
  refine lv_iconst (v := (1 : Int32)) hx hb dL_law_493 (by decide) ?_
  refine lv_iadd hx hb dL_law_494 ?_
  refine va_sld hx hb hX hbl hbA hS h1 dL_law_495 ?_
  refine lci1 (lrunV F hH.2.2.2.2.2.1 hH.1 hH.2.2.1 hH.2.2.2.2.2.2.1 (c_X5_pace l D cy ad1 C (xs (i + 1).toNatClampNeg)) kM_L_48 zK5 kq_X5_pace zX0 rfl hl.1 rfl rfl rfl ⟨Nat.le_of_ble_eq_true rfl, Nat.le_of_ble_eq_true rfl⟩ hf (Nat.le_of_ble_eq_true rfl) dL_law_496) hH (fun H locs hH => ?_)
  have hS := hH.2.2.2.2.2.1
  refine lv_aload_n hx hb dL_law_499 rfl (lv_at hl 1 rfl) ?_
  refine lv_aload_n hx hb dL_law_500 rfl (lv_at hl 3 rfl) ?_
  refine lv_iload_n hx hb dL_law_501 rfl (lv_at hl 0 rfl) ?_
  refine lv_iconst (v := (1 : Int32)) hx hb dL_law_502 (by decide) ?_
  refine lv_iadd hx hb dL_law_503 ?_
  refine va_sld hx hb hX hbl hbA hS h1 dL_law_504 ?_
  refine lci2 (lrunV F hH.2.2.2.2.2.1 hH.2.1 hH.2.2.2.1 hH.2.2.2.2.2.2.2 (c_X6_pace l D cy ad2 R (xs (i + 1).toNatClampNeg)) kM_L_52 zK6 kq_X6_pace zR0 rfl hl.1 rfl rfl rfl ⟨Nat.le_of_ble_eq_true rfl, Nat.le_of_ble_eq_true rfl⟩ hf (Nat.le_of_ble_eq_true rfl) dL_law_505) hH (fun H locs hH => ?_)
  have hS := hH.2.2.2.2.2.1
  have hm := m_pace hI (xs (i + 1).toNatClampNeg)
  exact lv_icmp_eq (tgt := 1289) hx hb dL_law_508 (by decide) (fun _ => next _ _ _ _ hH hm.2) (fun hc => absurd hm.1 hc)
set_option maxRecDepth 20000 in
theorem lw_case9 {p : Program} {l : Launch} {e : Env} {s : State} {m : MethodId} {below : List Frame} {meth : Method} {c : Code} {H : Heap} {locs : List Loc} {cells slots : Nat} {Q : State → Prop} {ls : Array Slot} {D : va_G} {cy : Nat → ClassId} {b L : Nat} {xs : Nat → Int32} {ad1 ad2 : Nat → Nat} {C R : zM} {i : Int32} (F : zLF p s m meth c b L xs D cy) (hf : cells + 0 ≤ room_1.cells ∧ slots + 0 ≤ room_1.slots) (h1 : vp_in (i + 1) L) (h2 : vp_in (i + 2) L) (h3 : vp_in (i + 3) L) (h4 : vp_in (i + 4) L) (h5 : vp_in (i + 5) L) (hH : zL2 D cy s H locs ad1 ad2 C R) (hI : zIN C R) (hl : lv_has ls 4 [(3, .int i), (2, .ref (ad2 0)), (1, .ref (ad1 0)), (0, .ref b)])
    (next : ∀ (C' R' : zM) (H1 : Heap) (locs1 : List Loc), zL2 D cy s H1 locs1 ad1 ad2 C' R' → zIN C' R' → W p l e room_1 s m #[Value.ref b] below meth c H1 locs1 cells slots Q (F0 m 1289 ls [])) :
    W p l e room_1 s m #[Value.ref b] below meth c H locs cells slots Q (F0 m 513 ls []) := by
  obtain ⟨⟨hx, hb, hr, hml, hown, hts, hX, hbl, hlocks, hgv⟩, -⟩ := id F
  have hbA : ¬ (fun q : Nat => s.heap.size ≤ q) b := Nat.not_le.mpr hbl
  have hS := hH.2.2.2.2.2.1
  refine lv_aload_n hx hb dL_law_513 rfl (lv_at hl 2 rfl) ?_
  refine lv_aload_n hx hb dL_law_514 rfl (lv_at hl 3 rfl) ?_
  refine lv_iload_n hx hb dL_law_515 rfl (lv_at hl 0 rfl) ?_
  refine lv_iconst (v := (1 : Int32)) hx hb dL_law_516 (by decide) ?_
  refine lv_iadd hx hb dL_law_517 ?_
  refine va_sld hx hb hX hbl hbA hS h1 dL_law_518 ?_
  refine lci1 (lrunV F hH.2.2.2.2.2.1 hH.1 hH.2.2.1 hH.2.2.2.2.2.2.1 (c_X5_ticks l D cy ad1 C (xs (i + 1).toNatClampNeg)) kM_L_53 zK5 kq_X5_ticks zX0 rfl hl.1 rfl rfl rfl ⟨Nat.le_of_ble_eq_true rfl, Nat.le_of_ble_eq_true rfl⟩ hf (Nat.le_of_ble_eq_true rfl) dL_law_519) hH (fun H locs hH => ?_)
  have hS := hH.2.2.2.2.2.1
  refine lv_aload_n hx hb dL_law_522 rfl (lv_at hl 1 rfl) ?_
  refine lv_aload_n hx hb dL_law_523 rfl (lv_at hl 3 rfl) ?_
  refine lv_iload_n hx hb dL_law_524 rfl (lv_at hl 0 rfl) ?_
  refine lv_iconst (v := (1 : Int32)) hx hb dL_law_525 (by decide) ?_
  refine lv_iadd hx hb dL_law_526 ?_
  refine va_sld hx hb hX hbl hbA hS h1 dL_law_527 ?_
  refine lci2 (lrunV F hH.2.2.2.2.2.1 hH.2.1 hH.2.2.2.1 hH.2.2.2.2.2.2.2 (c_X6_ticks l D cy ad2 R (xs (i + 1).toNatClampNeg) (zVl.val hI.1.2.2)) kM_L_56 zK6 kq_X6_ticks zR0 rfl hl.1 rfl rfl rfl ⟨Nat.le_of_ble_eq_true rfl, Nat.le_of_ble_eq_true rfl⟩ hf (Nat.le_of_ble_eq_true rfl) dL_law_528) hH (fun H locs hH => ?_)
  have hS := hH.2.2.2.2.2.1
  have hm := m_ticks hI (xs (i + 1).toNatClampNeg)
  exact lv_icmp_eq (tgt := 1289) hx hb dL_law_531 (by decide) (fun _ => next _ _ _ _ hH hm.2) (fun hc => absurd hm.1 hc)
set_option maxRecDepth 20000 in
theorem lw_case10 {p : Program} {l : Launch} {e : Env} {s : State} {m : MethodId} {below : List Frame} {meth : Method} {c : Code} {H : Heap} {locs : List Loc} {cells slots : Nat} {Q : State → Prop} {ls : Array Slot} {D : va_G} {cy : Nat → ClassId} {b L : Nat} {xs : Nat → Int32} {ad1 ad2 : Nat → Nat} {C R : zM} {i : Int32} (F : zLF p s m meth c b L xs D cy) (hf : cells + 0 ≤ room_1.cells ∧ slots + 0 ≤ room_1.slots) (h1 : vp_in (i + 1) L) (h2 : vp_in (i + 2) L) (h3 : vp_in (i + 3) L) (h4 : vp_in (i + 4) L) (h5 : vp_in (i + 5) L) (hH : zL2 D cy s H locs ad1 ad2 C R) (hI : zIN C R) (hl : lv_has ls 4 [(3, .int i), (2, .ref (ad2 0)), (1, .ref (ad1 0)), (0, .ref b)])
    (next : ∀ (C' R' : zM) (H1 : Heap) (locs1 : List Loc), zL2 D cy s H1 locs1 ad1 ad2 C' R' → zIN C' R' → W p l e room_1 s m #[Value.ref b] below meth c H1 locs1 cells slots Q (F0 m 1289 ls [])) :
    W p l e room_1 s m #[Value.ref b] below meth c H locs cells slots Q (F0 m 536 ls []) := by
  obtain ⟨⟨hx, hb, hr, hml, hown, hts, hX, hbl, hlocks, hgv⟩, -⟩ := id F
  have hbA : ¬ (fun q : Nat => s.heap.size ≤ q) b := Nat.not_le.mpr hbl
  have hS := hH.2.2.2.2.2.1
  refine lv_aload_n hx hb dL_law_536 rfl (lv_at hl 2 rfl) ?_
  refine lv_aload_n hx hb dL_law_537 rfl (lv_at hl 3 rfl) ?_
  refine lv_iload_n hx hb dL_law_538 rfl (lv_at hl 0 rfl) ?_
  refine lv_iconst (v := (1 : Int32)) hx hb dL_law_539 (by decide) ?_
  refine lv_iadd hx hb dL_law_540 ?_
  refine va_sld hx hb hX hbl hbA hS h1 dL_law_541 ?_
  refine lv_aload_n hx hb dL_law_542 rfl (lv_at hl 3 rfl) ?_
  refine lv_iload_n hx hb dL_law_543 rfl (lv_at hl 0 rfl) ?_
  refine lv_iconst (v := (2 : Int32)) hx hb dL_law_544 (by decide) ?_
  refine lv_iadd hx hb dL_law_545 ?_
  refine va_sld hx hb hX hbl hbA hS h2 dL_law_546 ?_
  refine lci1 (lrunV F hH.2.2.2.2.2.1 hH.1 hH.2.2.1 hH.2.2.2.2.2.2.1 (c_X5_until l D cy ad1 C (xs (i + 1).toNatClampNeg) (xs (i + 2).toNatClampNeg)) kM_L_57 zK5 kq_X5_until zX0 rfl hl.1 rfl rfl rfl ⟨Nat.le_of_ble_eq_true rfl, Nat.le_of_ble_eq_true rfl⟩ hf (Nat.le_of_ble_eq_true rfl) dL_law_547) hH (fun H locs hH => ?_)
  have hS := hH.2.2.2.2.2.1
  refine lv_aload_n hx hb dL_law_550 rfl (lv_at hl 1 rfl) ?_
  refine lv_aload_n hx hb dL_law_551 rfl (lv_at hl 3 rfl) ?_
  refine lv_iload_n hx hb dL_law_552 rfl (lv_at hl 0 rfl) ?_
  refine lv_iconst (v := (1 : Int32)) hx hb dL_law_553 (by decide) ?_
  refine lv_iadd hx hb dL_law_554 ?_
  refine va_sld hx hb hX hbl hbA hS h1 dL_law_555 ?_
  refine lv_aload_n hx hb dL_law_556 rfl (lv_at hl 3 rfl) ?_
  refine lv_iload_n hx hb dL_law_557 rfl (lv_at hl 0 rfl) ?_
  refine lv_iconst (v := (2 : Int32)) hx hb dL_law_558 (by decide) ?_
  refine lv_iadd hx hb dL_law_559 ?_
  refine va_sld hx hb hX hbl hbA hS h2 dL_law_560 ?_
  refine lci2 (lrunV F hH.2.2.2.2.2.1 hH.2.1 hH.2.2.2.1 hH.2.2.2.2.2.2.2 (c_X6_until l D cy ad2 R (xs (i + 1).toNatClampNeg) (xs (i + 2).toNatClampNeg) (zVl.val hI.1.2.2)) kM_L_60 zK6 kq_X6_until zR0 rfl hl.1 rfl rfl rfl ⟨Nat.le_of_ble_eq_true rfl, Nat.le_of_ble_eq_true rfl⟩ hf (Nat.le_of_ble_eq_true rfl) dL_law_561) hH (fun H locs hH => ?_)
  have hS := hH.2.2.2.2.2.1
  have hm := m_until hI (xs (i + 1).toNatClampNeg) (xs (i + 2).toNatClampNeg)
  exact lv_icmp_eq (tgt := 1289) hx hb dL_law_564 (by decide) (fun _ => next _ _ _ _ hH hm.2) (fun hc => absurd hm.1 hc)
set_option maxRecDepth 20000 in
theorem lw_case11 {p : Program} {l : Launch} {e : Env} {s : State} {m : MethodId} {below : List Frame} {meth : Method} {c : Code} {H : Heap} {locs : List Loc} {cells slots : Nat} {Q : State → Prop} {ls : Array Slot} {D : va_G} {cy : Nat → ClassId} {b L : Nat} {xs : Nat → Int32} {ad1 ad2 : Nat → Nat} {C R : zM} {i : Int32} (F : zLF p s m meth c b L xs D cy) (hf : cells + 0 ≤ room_1.cells ∧ slots + 0 ≤ room_1.slots) (h1 : vp_in (i + 1) L) (h2 : vp_in (i + 2) L) (h3 : vp_in (i + 3) L) (h4 : vp_in (i + 4) L) (h5 : vp_in (i + 5) L) (hH : zL2 D cy s H locs ad1 ad2 C R) (hI : zIN C R) (hl : lv_has ls 4 [(3, .int i), (2, .ref (ad2 0)), (1, .ref (ad1 0)), (0, .ref b)])
    (next : ∀ (C' R' : zM) (H1 : Heap) (locs1 : List Loc), zL2 D cy s H1 locs1 ad1 ad2 C' R' → zIN C' R' → W p l e room_1 s m #[Value.ref b] below meth c H1 locs1 cells slots Q (F0 m 1289 ls [])) :
    W p l e room_1 s m #[Value.ref b] below meth c H locs cells slots Q (F0 m 569 ls []) := by
  obtain ⟨⟨hx, hb, hr, hml, hown, hts, hX, hbl, hlocks, hgv⟩, -⟩ := id F
  have hbA : ¬ (fun q : Nat => s.heap.size ≤ q) b := Nat.not_le.mpr hbl
  have hS := hH.2.2.2.2.2.1
  refine lv_aload_n hx hb dL_law_569 rfl (lv_at hl 2 rfl) ?_
  refine lv_aload_n hx hb dL_law_570 rfl (lv_at hl 3 rfl) ?_
  refine lv_iload_n hx hb dL_law_571 rfl (lv_at hl 0 rfl) ?_
  refine lv_iconst (v := (1 : Int32)) hx hb dL_law_572 (by decide) ?_
  refine lv_iadd hx hb dL_law_573 ?_
  refine va_sld hx hb hX hbl hbA hS h1 dL_law_574 ?_
  refine lv_aload_n hx hb dL_law_575 rfl (lv_at hl 3 rfl) ?_
  refine lv_iload_n hx hb dL_law_576 rfl (lv_at hl 0 rfl) ?_
  refine lv_iconst (v := (2 : Int32)) hx hb dL_law_577 (by decide) ?_
  refine lv_iadd hx hb dL_law_578 ?_
  refine va_sld hx hb hX hbl hbA hS h2 dL_law_579 ?_
  refine lci1 (lrunV F hH.2.2.2.2.2.1 hH.1 hH.2.2.1 hH.2.2.2.2.2.2.1 (c_X5_book l D cy ad1 C (xs (i + 1).toNatClampNeg) (xs (i + 2).toNatClampNeg)) kM_L_61 zK5 kq_X5_book zX0 rfl hl.1 rfl rfl rfl ⟨Nat.le_of_ble_eq_true rfl, Nat.le_of_ble_eq_true rfl⟩ hf (Nat.le_of_ble_eq_true rfl) dL_law_580) hH (fun H locs hH => ?_)
  have hS := hH.2.2.2.2.2.1
  refine lv_aload_n hx hb dL_law_583 rfl (lv_at hl 1 rfl) ?_
  refine lv_aload_n hx hb dL_law_584 rfl (lv_at hl 3 rfl) ?_
  refine lv_iload_n hx hb dL_law_585 rfl (lv_at hl 0 rfl) ?_
  refine lv_iconst (v := (1 : Int32)) hx hb dL_law_586 (by decide) ?_
  refine lv_iadd hx hb dL_law_587 ?_
  refine va_sld hx hb hX hbl hbA hS h1 dL_law_588 ?_
  refine lv_aload_n hx hb dL_law_589 rfl (lv_at hl 3 rfl) ?_
  refine lv_iload_n hx hb dL_law_590 rfl (lv_at hl 0 rfl) ?_
  refine lv_iconst (v := (2 : Int32)) hx hb dL_law_591 (by decide) ?_
  refine lv_iadd hx hb dL_law_592 ?_
  refine va_sld hx hb hX hbl hbA hS h2 dL_law_593 ?_
  refine lci2 (lrunV F hH.2.2.2.2.2.1 hH.2.1 hH.2.2.2.1 hH.2.2.2.2.2.2.2 (c_X6_book l D cy ad2 R (xs (i + 1).toNatClampNeg) (xs (i + 2).toNatClampNeg)) kM_L_64 zK6 kq_X6_book zR0 rfl hl.1 rfl rfl rfl ⟨Nat.le_of_ble_eq_true rfl, Nat.le_of_ble_eq_true rfl⟩ hf (Nat.le_of_ble_eq_true rfl) dL_law_594) hH (fun H locs hH => ?_)
  have hS := hH.2.2.2.2.2.1
  have hm := m_book hI (xs (i + 1).toNatClampNeg) (xs (i + 2).toNatClampNeg)
  exact lv_icmp_eq (tgt := 1289) hx hb dL_law_597 (by decide) (fun _ => next _ _ _ _ hH hm.2) (fun hc => absurd hm.1 hc)
set_option maxRecDepth 20000 in
theorem lw_case12 {p : Program} {l : Launch} {e : Env} {s : State} {m : MethodId} {below : List Frame} {meth : Method} {c : Code} {H : Heap} {locs : List Loc} {cells slots : Nat} {Q : State → Prop} {ls : Array Slot} {D : va_G} {cy : Nat → ClassId} {b L : Nat} {xs : Nat → Int32} {ad1 ad2 : Nat → Nat} {C R : zM} {i : Int32} (F : zLF p s m meth c b L xs D cy) (hf : cells + 0 ≤ room_1.cells ∧ slots + 0 ≤ room_1.slots) (h1 : vp_in (i + 1) L) (h2 : vp_in (i + 2) L) (h3 : vp_in (i + 3) L) (h4 : vp_in (i + 4) L) (h5 : vp_in (i + 5) L) (hH : zL2 D cy s H locs ad1 ad2 C R) (hI : zIN C R) (hl : lv_has ls 4 [(3, .int i), (2, .ref (ad2 0)), (1, .ref (ad1 0)), (0, .ref b)])
    (next : ∀ (C' R' : zM) (H1 : Heap) (locs1 : List Loc), zL2 D cy s H1 locs1 ad1 ad2 C' R' → zIN C' R' → W p l e room_1 s m #[Value.ref b] below meth c H1 locs1 cells slots Q (F0 m 1289 ls [])) :
    W p l e room_1 s m #[Value.ref b] below meth c H locs cells slots Q (F0 m 602 ls []) := by
  obtain ⟨⟨hx, hb, hr, hml, hown, hts, hX, hbl, hlocks, hgv⟩, -⟩ := id F
  have hbA : ¬ (fun q : Nat => s.heap.size ≤ q) b := Nat.not_le.mpr hbl
  have hS := hH.2.2.2.2.2.1
  refine lv_aload_n hx hb dL_law_602 rfl (lv_at hl 2 rfl) ?_
  refine lv_aload_n hx hb dL_law_603 rfl (lv_at hl 3 rfl) ?_
  refine lv_iload_n hx hb dL_law_604 rfl (lv_at hl 0 rfl) ?_
  refine lv_iconst (v := (1 : Int32)) hx hb dL_law_605 (by decide) ?_
  refine lv_iadd hx hb dL_law_606 ?_
  refine va_sld hx hb hX hbl hbA hS h1 dL_law_607 ?_
  refine lci1 (lrunV F hH.2.2.2.2.2.1 hH.1 hH.2.2.1 hH.2.2.2.2.2.2.1 (c_X5_counts l D cy ad1 C (xs (i + 1).toNatClampNeg)) kM_L_65 zK5 kq_X5_counts zX0 rfl hl.1 rfl rfl rfl ⟨Nat.le_of_ble_eq_true rfl, Nat.le_of_ble_eq_true rfl⟩ hf (Nat.le_of_ble_eq_true rfl) dL_law_608) hH (fun H locs hH => ?_)
  have hS := hH.2.2.2.2.2.1
  refine lv_aload_n hx hb dL_law_611 rfl (lv_at hl 1 rfl) ?_
  refine lv_aload_n hx hb dL_law_612 rfl (lv_at hl 3 rfl) ?_
  refine lv_iload_n hx hb dL_law_613 rfl (lv_at hl 0 rfl) ?_
  refine lv_iconst (v := (1 : Int32)) hx hb dL_law_614 (by decide) ?_
  refine lv_iadd hx hb dL_law_615 ?_
  refine va_sld hx hb hX hbl hbA hS h1 dL_law_616 ?_
  refine lci2 (lrunV F hH.2.2.2.2.2.1 hH.2.1 hH.2.2.2.1 hH.2.2.2.2.2.2.2 (c_X6_counts l D cy ad2 R (xs (i + 1).toNatClampNeg)) kM_L_68 zK6 kq_X6_counts zR0 rfl hl.1 rfl rfl rfl ⟨Nat.le_of_ble_eq_true rfl, Nat.le_of_ble_eq_true rfl⟩ hf (Nat.le_of_ble_eq_true rfl) dL_law_617) hH (fun H locs hH => ?_)
  have hS := hH.2.2.2.2.2.1
  have hm := m_counts hI (xs (i + 1).toNatClampNeg)
  exact lv_icmp_eq (tgt := 1289) hx hb dL_law_620 (by decide) (fun _ => next _ _ _ _ hH hm.2) (fun hc => absurd hm.1 hc)
set_option maxRecDepth 20000 in
theorem lw_case13 {p : Program} {l : Launch} {e : Env} {s : State} {m : MethodId} {below : List Frame} {meth : Method} {c : Code} {H : Heap} {locs : List Loc} {cells slots : Nat} {Q : State → Prop} {ls : Array Slot} {D : va_G} {cy : Nat → ClassId} {b L : Nat} {xs : Nat → Int32} {ad1 ad2 : Nat → Nat} {C R : zM} {i : Int32} (F : zLF p s m meth c b L xs D cy) (hf : cells + 0 ≤ room_1.cells ∧ slots + 0 ≤ room_1.slots) (h1 : vp_in (i + 1) L) (h2 : vp_in (i + 2) L) (h3 : vp_in (i + 3) L) (h4 : vp_in (i + 4) L) (h5 : vp_in (i + 5) L) (hH : zL2 D cy s H locs ad1 ad2 C R) (hI : zIN C R) (hl : lv_has ls 4 [(3, .int i), (2, .ref (ad2 0)), (1, .ref (ad1 0)), (0, .ref b)])
    (next : ∀ (C' R' : zM) (H1 : Heap) (locs1 : List Loc), zL2 D cy s H1 locs1 ad1 ad2 C' R' → zIN C' R' → W p l e room_1 s m #[Value.ref b] below meth c H1 locs1 cells slots Q (F0 m 1289 ls [])) :
    W p l e room_1 s m #[Value.ref b] below meth c H locs cells slots Q (F0 m 625 ls []) := by
  obtain ⟨⟨hx, hb, hr, hml, hown, hts, hX, hbl, hlocks, hgv⟩, -⟩ := id F
  have hbA : ¬ (fun q : Nat => s.heap.size ≤ q) b := Nat.not_le.mpr hbl
  have hS := hH.2.2.2.2.2.1
  refine lv_aload_n hx hb dL_law_625 rfl (lv_at hl 2 rfl) ?_
  refine lci1 (lrunV F hH.2.2.2.2.2.1 hH.1 hH.2.2.1 hH.2.2.2.2.2.2.1 (c_X5_power l D cy ad1 C) kM_L_69 zK5 kq_X5_power zX0 rfl hl.1 rfl rfl rfl ⟨Nat.le_of_ble_eq_true rfl, Nat.le_of_ble_eq_true rfl⟩ hf (Nat.le_of_ble_eq_true rfl) dL_law_626) hH (fun H locs hH => ?_)
  have hS := hH.2.2.2.2.2.1
  refine lv_aload_n hx hb dL_law_629 rfl (lv_at hl 1 rfl) ?_
  refine lci2 (lrunV F hH.2.2.2.2.2.1 hH.2.1 hH.2.2.2.1 hH.2.2.2.2.2.2.2 (c_X6_power l D cy ad2 R) kM_L_73 zK6 kq_X6_power zR0 rfl hl.1 rfl rfl rfl ⟨Nat.le_of_ble_eq_true rfl, Nat.le_of_ble_eq_true rfl⟩ hf (Nat.le_of_ble_eq_true rfl) dL_law_630) hH (fun H locs hH => ?_)
  have hS := hH.2.2.2.2.2.1
  have hm := m_power hI
  exact lv_icmp_eq (tgt := 1289) hx hb dL_law_633 (by decide) (fun _ => next _ _ _ _ hH hI) (fun hc => absurd hm hc)
set_option maxRecDepth 20000 in
theorem lw_case14 {p : Program} {l : Launch} {e : Env} {s : State} {m : MethodId} {below : List Frame} {meth : Method} {c : Code} {H : Heap} {locs : List Loc} {cells slots : Nat} {Q : State → Prop} {ls : Array Slot} {D : va_G} {cy : Nat → ClassId} {b L : Nat} {xs : Nat → Int32} {ad1 ad2 : Nat → Nat} {C R : zM} {i : Int32} (F : zLF p s m meth c b L xs D cy) (hf : cells + 0 ≤ room_1.cells ∧ slots + 0 ≤ room_1.slots) (h1 : vp_in (i + 1) L) (h2 : vp_in (i + 2) L) (h3 : vp_in (i + 3) L) (h4 : vp_in (i + 4) L) (h5 : vp_in (i + 5) L) (hH : zL2 D cy s H locs ad1 ad2 C R) (hI : zIN C R) (hl : lv_has ls 4 [(3, .int i), (2, .ref (ad2 0)), (1, .ref (ad1 0)), (0, .ref b)])
    (next : ∀ (C' R' : zM) (H1 : Heap) (locs1 : List Loc), zL2 D cy s H1 locs1 ad1 ad2 C' R' → zIN C' R' → W p l e room_1 s m #[Value.ref b] below meth c H1 locs1 cells slots Q (F0 m 1289 ls [])) :
    W p l e room_1 s m #[Value.ref b] below meth c H locs cells slots Q (F0 m 638 ls []) := by
  obtain ⟨⟨hx, hb, hr, hml, hown, hts, hX, hbl, hlocks, hgv⟩, -⟩ := id F
  have hbA : ¬ (fun q : Nat => s.heap.size ≤ q) b := Nat.not_le.mpr hbl
  have hS := hH.2.2.2.2.2.1
  refine lv_aload_n hx hb dL_law_638 rfl (lv_at hl 2 rfl) ?_
  refine lci1 (lrunV F hH.2.2.2.2.2.1 hH.1 hH.2.2.1 hH.2.2.2.2.2.2.1 (c_X5_tone l D cy ad1 C) kM_L_74 zK5 kq_X5_tone zX0 rfl hl.1 rfl rfl rfl ⟨Nat.le_of_ble_eq_true rfl, Nat.le_of_ble_eq_true rfl⟩ hf (Nat.le_of_ble_eq_true rfl) dL_law_639) hH (fun H locs hH => ?_)
  have hS := hH.2.2.2.2.2.1
  refine lv_aload_n hx hb dL_law_642 rfl (lv_at hl 1 rfl) ?_
  refine lci2 (lrunV F hH.2.2.2.2.2.1 hH.2.1 hH.2.2.2.1 hH.2.2.2.2.2.2.2 (c_X6_tone l D cy ad2 R) kM_L_77 zK6 kq_X6_tone zR0 rfl hl.1 rfl rfl rfl ⟨Nat.le_of_ble_eq_true rfl, Nat.le_of_ble_eq_true rfl⟩ hf (Nat.le_of_ble_eq_true rfl) dL_law_643) hH (fun H locs hH => ?_)
  have hS := hH.2.2.2.2.2.1
  have hm := m_tone hI
  exact lv_icmp_eq (tgt := 1289) hx hb dL_law_646 (by decide) (fun _ => next _ _ _ _ hH hm.2) (fun hc => absurd hm.1 hc)
set_option maxRecDepth 20000 in
theorem lw_case15 {p : Program} {l : Launch} {e : Env} {s : State} {m : MethodId} {below : List Frame} {meth : Method} {c : Code} {H : Heap} {locs : List Loc} {cells slots : Nat} {Q : State → Prop} {ls : Array Slot} {D : va_G} {cy : Nat → ClassId} {b L : Nat} {xs : Nat → Int32} {ad1 ad2 : Nat → Nat} {C R : zM} {i : Int32} (F : zLF p s m meth c b L xs D cy) (hf : cells + 0 ≤ room_1.cells ∧ slots + 0 ≤ room_1.slots) (h1 : vp_in (i + 1) L) (h2 : vp_in (i + 2) L) (h3 : vp_in (i + 3) L) (h4 : vp_in (i + 4) L) (h5 : vp_in (i + 5) L) (hH : zL2 D cy s H locs ad1 ad2 C R) (hI : zIN C R) (hl : lv_has ls 4 [(3, .int i), (2, .ref (ad2 0)), (1, .ref (ad1 0)), (0, .ref b)])
    (next : ∀ (C' R' : zM) (H1 : Heap) (locs1 : List Loc), zL2 D cy s H1 locs1 ad1 ad2 C' R' → zIN C' R' → W p l e room_1 s m #[Value.ref b] below meth c H1 locs1 cells slots Q (F0 m 1289 ls [])) :
    W p l e room_1 s m #[Value.ref b] below meth c H locs cells slots Q (F0 m 651 ls []) := by
  obtain ⟨⟨hx, hb, hr, hml, hown, hts, hX, hbl, hlocks, hgv⟩, -⟩ := id F
  have hbA : ¬ (fun q : Nat => s.heap.size ≤ q) b := Nat.not_le.mpr hbl
  have hS := hH.2.2.2.2.2.1
  refine lv_aload_n hx hb dL_law_651 rfl (lv_at hl 2 rfl) ?_
  refine lv_aload_n hx hb dL_law_652 rfl (lv_at hl 3 rfl) ?_
  refine lv_iload_n hx hb dL_law_653 rfl (lv_at hl 0 rfl) ?_
  refine lv_iconst (v := (1 : Int32)) hx hb dL_law_654 (by decide) ?_
  refine lv_iadd hx hb dL_law_655 ?_
  refine va_sld hx hb hX hbl hbA hS h1 dL_law_656 ?_
  refine lv_aload_n hx hb dL_law_657 rfl (lv_at hl 3 rfl) ?_
  refine lv_iload_n hx hb dL_law_658 rfl (lv_at hl 0 rfl) ?_
  refine lv_iconst (v := (2 : Int32)) hx hb dL_law_659 (by decide) ?_
  refine lv_iadd hx hb dL_law_660 ?_
  refine va_sld hx hb hX hbl hbA hS h2 dL_law_661 ?_
  refine lci1 (lrunV F hH.2.2.2.2.2.1 hH.1 hH.2.2.1 hH.2.2.2.2.2.2.1 (c_X5_great l D cy ad1 C (xs (i + 1).toNatClampNeg) (xs (i + 2).toNatClampNeg)) kM_L_78 zK5 kq_X5_great zX0 rfl hl.1 rfl rfl rfl ⟨Nat.le_of_ble_eq_true rfl, Nat.le_of_ble_eq_true rfl⟩ hf (Nat.le_of_ble_eq_true rfl) dL_law_662) hH (fun H locs hH => ?_)
  have hS := hH.2.2.2.2.2.1
  refine lv_aload_n hx hb dL_law_665 rfl (lv_at hl 1 rfl) ?_
  refine lv_aload_n hx hb dL_law_666 rfl (lv_at hl 3 rfl) ?_
  refine lv_iload_n hx hb dL_law_667 rfl (lv_at hl 0 rfl) ?_
  refine lv_iconst (v := (1 : Int32)) hx hb dL_law_668 (by decide) ?_
  refine lv_iadd hx hb dL_law_669 ?_
  refine va_sld hx hb hX hbl hbA hS h1 dL_law_670 ?_
  refine lv_aload_n hx hb dL_law_671 rfl (lv_at hl 3 rfl) ?_
  refine lv_iload_n hx hb dL_law_672 rfl (lv_at hl 0 rfl) ?_
  refine lv_iconst (v := (2 : Int32)) hx hb dL_law_673 (by decide) ?_
  refine lv_iadd hx hb dL_law_674 ?_
  refine va_sld hx hb hX hbl hbA hS h2 dL_law_675 ?_
  refine lci2 (lrunV F hH.2.2.2.2.2.1 hH.2.1 hH.2.2.2.1 hH.2.2.2.2.2.2.2 (c_X6_great l D cy ad2 R (xs (i + 1).toNatClampNeg) (xs (i + 2).toNatClampNeg)) kM_L_81 zK6 kq_X6_great zR0 rfl hl.1 rfl rfl rfl ⟨Nat.le_of_ble_eq_true rfl, Nat.le_of_ble_eq_true rfl⟩ hf (Nat.le_of_ble_eq_true rfl) dL_law_676) hH (fun H locs hH => ?_)
  have hS := hH.2.2.2.2.2.1
  have hm := m_great hI (xs (i + 1).toNatClampNeg) (xs (i + 2).toNatClampNeg)
  exact lv_icmp_eq (tgt := 1289) hx hb dL_law_679 (by decide) (fun _ => next _ _ _ _ hH hm.2) (fun hc => absurd hm.1 hc)
set_option maxRecDepth 20000 in
theorem lw_case16 {p : Program} {l : Launch} {e : Env} {s : State} {m : MethodId} {below : List Frame} {meth : Method} {c : Code} {H : Heap} {locs : List Loc} {cells slots : Nat} {Q : State → Prop} {ls : Array Slot} {D : va_G} {cy : Nat → ClassId} {b L : Nat} {xs : Nat → Int32} {ad1 ad2 : Nat → Nat} {C R : zM} {i : Int32} (F : zLF p s m meth c b L xs D cy) (hf : cells + 0 ≤ room_1.cells ∧ slots + 0 ≤ room_1.slots) (h1 : vp_in (i + 1) L) (h2 : vp_in (i + 2) L) (h3 : vp_in (i + 3) L) (h4 : vp_in (i + 4) L) (h5 : vp_in (i + 5) L) (hH : zL2 D cy s H locs ad1 ad2 C R) (hI : zIN C R) (hl : lv_has ls 4 [(3, .int i), (2, .ref (ad2 0)), (1, .ref (ad1 0)), (0, .ref b)])
    (next : ∀ (C' R' : zM) (H1 : Heap) (locs1 : List Loc), zL2 D cy s H1 locs1 ad1 ad2 C' R' → zIN C' R' → W p l e room_1 s m #[Value.ref b] below meth c H1 locs1 cells slots Q (F0 m 1289 ls [])) :
    W p l e room_1 s m #[Value.ref b] below meth c H locs cells slots Q (F0 m 684 ls []) := by
  obtain ⟨⟨hx, hb, hr, hml, hown, hts, hX, hbl, hlocks, hgv⟩, -⟩ := id F
  have hbA : ¬ (fun q : Nat => s.heap.size ≤ q) b := Nat.not_le.mpr hbl
  have hS := hH.2.2.2.2.2.1
  refine lv_aload_n hx hb dL_law_684 rfl (lv_at hl 2 rfl) ?_
  refine lv_aload_n hx hb dL_law_685 rfl (lv_at hl 3 rfl) ?_
  refine lv_iload_n hx hb dL_law_686 rfl (lv_at hl 0 rfl) ?_
  refine lv_iconst (v := (1 : Int32)) hx hb dL_law_687 (by decide) ?_
  refine lv_iadd hx hb dL_law_688 ?_
  refine va_sld hx hb hX hbl hbA hS h1 dL_law_689 ?_
  refine lcl1 (lrunV F hH.2.2.2.2.2.1 hH.1 hH.2.2.1 hH.2.2.2.2.2.2.1 (c_X5_noise l D cy ad1 C (xs (i + 1).toNatClampNeg)) kM_L_82 zK5 kq_X5_noise zX0 rfl hl.1 rfl rfl rfl ⟨Nat.le_of_ble_eq_true rfl, Nat.le_of_ble_eq_true rfl⟩ hf (Nat.le_of_ble_eq_true rfl) dL_law_690) hH (fun H locs hH => ?_)
  have hS := hH.2.2.2.2.2.1
  refine lv_aload_n hx hb dL_law_693 rfl (lv_at hl 1 rfl) ?_
  refine lv_aload_n hx hb dL_law_694 rfl (lv_at hl 3 rfl) ?_
  refine lv_iload_n hx hb dL_law_695 rfl (lv_at hl 0 rfl) ?_
  refine lv_iconst (v := (1 : Int32)) hx hb dL_law_696 (by decide) ?_
  refine lv_iadd hx hb dL_law_697 ?_
  refine va_sld hx hb hX hbl hbA hS h1 dL_law_698 ?_
  refine lcl2 (lrunV F hH.2.2.2.2.2.1 hH.2.1 hH.2.2.2.1 hH.2.2.2.2.2.2.2 (c_X6_noise l D cy ad2 R (xs (i + 1).toNatClampNeg)) kM_L_86 zK6 kq_X6_noise zR0 rfl hl.1 rfl rfl rfl ⟨Nat.le_of_ble_eq_true rfl, Nat.le_of_ble_eq_true rfl⟩ hf (Nat.le_of_ble_eq_true rfl) dL_law_699) hH (fun H locs hH => ?_)
  have hS := hH.2.2.2.2.2.1
  have hm := m_noise hI (xs (i + 1).toNatClampNeg)
  refine W.lcmp hx hb dL_law_702 ?_
  exact lv_if_eq (tgt := 1289) hx hb dL_law_703 (by decide) (fun _ => next _ _ _ _ hH hm.2) (fun hc => absurd (by rw [hm.1]; exact zcmp_self) hc)
set_option maxRecDepth 20000 in
theorem lw_case17 {p : Program} {l : Launch} {e : Env} {s : State} {m : MethodId} {below : List Frame} {meth : Method} {c : Code} {H : Heap} {locs : List Loc} {cells slots : Nat} {Q : State → Prop} {ls : Array Slot} {D : va_G} {cy : Nat → ClassId} {b L : Nat} {xs : Nat → Int32} {ad1 ad2 : Nat → Nat} {C R : zM} {i : Int32} (F : zLF p s m meth c b L xs D cy) (hf : cells + 0 ≤ room_1.cells ∧ slots + 0 ≤ room_1.slots) (h1 : vp_in (i + 1) L) (h2 : vp_in (i + 2) L) (h3 : vp_in (i + 3) L) (h4 : vp_in (i + 4) L) (h5 : vp_in (i + 5) L) (hH : zL2 D cy s H locs ad1 ad2 C R) (hI : zIN C R) (hl : lv_has ls 4 [(3, .int i), (2, .ref (ad2 0)), (1, .ref (ad1 0)), (0, .ref b)])
    (next : ∀ (C' R' : zM) (H1 : Heap) (locs1 : List Loc), zL2 D cy s H1 locs1 ad1 ad2 C' R' → zIN C' R' → W p l e room_1 s m #[Value.ref b] below meth c H1 locs1 cells slots Q (F0 m 1289 ls [])) :
    W p l e room_1 s m #[Value.ref b] below meth c H locs cells slots Q (F0 m 708 ls []) := by
  obtain ⟨⟨hx, hb, hr, hml, hown, hts, hX, hbl, hlocks, hgv⟩, -⟩ := id F
  have hbA : ¬ (fun q : Nat => s.heap.size ≤ q) b := Nat.not_le.mpr hbl
  have hS := hH.2.2.2.2.2.1
  refine lv_aload_n hx hb dL_law_708 rfl (lv_at hl 2 rfl) ?_
  refine lv_aload_n hx hb dL_law_709 rfl (lv_at hl 3 rfl) ?_
  refine lv_iload_n hx hb dL_law_710 rfl (lv_at hl 0 rfl) ?_
  refine lv_iconst (v := (1 : Int32)) hx hb dL_law_711 (by decide) ?_
  refine lv_iadd hx hb dL_law_712 ?_
  refine va_sld hx hb hX hbl hbA hS h1 dL_law_713 ?_
  refine lv_aload_n hx hb dL_law_714 rfl (lv_at hl 3 rfl) ?_
  refine lv_iload_n hx hb dL_law_715 rfl (lv_at hl 0 rfl) ?_
  refine lv_iconst (v := (2 : Int32)) hx hb dL_law_716 (by decide) ?_
  refine lv_iadd hx hb dL_law_717 ?_
  refine va_sld hx hb hX hbl hbA hS h2 dL_law_718 ?_
  refine lci1 (lrunV F hH.2.2.2.2.2.1 hH.1 hH.2.2.1 hH.2.2.2.2.2.2.1 (c_X5_ahead l D cy ad1 C (xs (i + 1).toNatClampNeg) (xs (i + 2).toNatClampNeg)) kM_L_87 zK5 kq_X5_ahead zX0 rfl hl.1 rfl rfl rfl ⟨Nat.le_of_ble_eq_true rfl, Nat.le_of_ble_eq_true rfl⟩ hf (Nat.le_of_ble_eq_true rfl) dL_law_719) hH (fun H locs hH => ?_)
  have hS := hH.2.2.2.2.2.1
  refine lv_aload_n hx hb dL_law_722 rfl (lv_at hl 1 rfl) ?_
  refine lv_aload_n hx hb dL_law_723 rfl (lv_at hl 3 rfl) ?_
  refine lv_iload_n hx hb dL_law_724 rfl (lv_at hl 0 rfl) ?_
  refine lv_iconst (v := (1 : Int32)) hx hb dL_law_725 (by decide) ?_
  refine lv_iadd hx hb dL_law_726 ?_
  refine va_sld hx hb hX hbl hbA hS h1 dL_law_727 ?_
  refine lv_aload_n hx hb dL_law_728 rfl (lv_at hl 3 rfl) ?_
  refine lv_iload_n hx hb dL_law_729 rfl (lv_at hl 0 rfl) ?_
  refine lv_iconst (v := (2 : Int32)) hx hb dL_law_730 (by decide) ?_
  refine lv_iadd hx hb dL_law_731 ?_
  refine va_sld hx hb hX hbl hbA hS h2 dL_law_732 ?_
  refine lci2 (lrunV F hH.2.2.2.2.2.1 hH.2.1 hH.2.2.2.1 hH.2.2.2.2.2.2.2 (c_X6_ahead l D cy ad2 R (xs (i + 1).toNatClampNeg) (xs (i + 2).toNatClampNeg) (zVl.val hI.1.2.2)) kM_L_90 zK6 kq_X6_ahead zR0 rfl hl.1 rfl rfl rfl ⟨Nat.le_of_ble_eq_true rfl, Nat.le_of_ble_eq_true rfl⟩ hf (Nat.le_of_ble_eq_true rfl) dL_law_733) hH (fun H locs hH => ?_)
  have hS := hH.2.2.2.2.2.1
  have hm := m_ahead hI (xs (i + 1).toNatClampNeg) (xs (i + 2).toNatClampNeg)
  exact lv_icmp_eq (tgt := 1289) hx hb dL_law_736 (by decide) (fun _ => next _ _ _ _ hH hm.2) (fun hc => absurd hm.1 hc)
set_option maxRecDepth 20000 in
theorem lw_case18 {p : Program} {l : Launch} {e : Env} {s : State} {m : MethodId} {below : List Frame} {meth : Method} {c : Code} {H : Heap} {locs : List Loc} {cells slots : Nat} {Q : State → Prop} {ls : Array Slot} {D : va_G} {cy : Nat → ClassId} {b L : Nat} {xs : Nat → Int32} {ad1 ad2 : Nat → Nat} {C R : zM} {i : Int32} (F : zLF p s m meth c b L xs D cy) (hf : cells + 0 ≤ room_1.cells ∧ slots + 0 ≤ room_1.slots) (h1 : vp_in (i + 1) L) (h2 : vp_in (i + 2) L) (h3 : vp_in (i + 3) L) (h4 : vp_in (i + 4) L) (h5 : vp_in (i + 5) L) (hH : zL2 D cy s H locs ad1 ad2 C R) (hI : zIN C R) (hl : lv_has ls 4 [(3, .int i), (2, .ref (ad2 0)), (1, .ref (ad1 0)), (0, .ref b)])
    (next : ∀ (C' R' : zM) (H1 : Heap) (locs1 : List Loc), zL2 D cy s H1 locs1 ad1 ad2 C' R' → zIN C' R' → W p l e room_1 s m #[Value.ref b] below meth c H1 locs1 cells slots Q (F0 m 1289 ls [])) :
    W p l e room_1 s m #[Value.ref b] below meth c H locs cells slots Q (F0 m 741 ls []) := by
  obtain ⟨⟨hx, hb, hr, hml, hown, hts, hX, hbl, hlocks, hgv⟩, -⟩ := id F
  have hbA : ¬ (fun q : Nat => s.heap.size ≤ q) b := Nat.not_le.mpr hbl
  have hS := hH.2.2.2.2.2.1
  refine lv_aload_n hx hb dL_law_741 rfl (lv_at hl 2 rfl) ?_
  refine lv_aload_n hx hb dL_law_742 rfl (lv_at hl 3 rfl) ?_
  refine lv_iload_n hx hb dL_law_743 rfl (lv_at hl 0 rfl) ?_
  refine lv_iconst (v := (1 : Int32)) hx hb dL_law_744 (by decide) ?_
  refine lv_iadd hx hb dL_law_745 ?_
  refine va_sld hx hb hX hbl hbA hS h1 dL_law_746 ?_
  refine lci1 (lrunV F hH.2.2.2.2.2.1 hH.1 hH.2.2.1 hH.2.2.2.2.2.2.1 (c_X5_from l D cy ad1 C (xs (i + 1).toNatClampNeg)) kM_L_91 zK5 kq_X5_from zX0 rfl hl.1 rfl rfl rfl ⟨Nat.le_of_ble_eq_true rfl, Nat.le_of_ble_eq_true rfl⟩ hf (Nat.le_of_ble_eq_true rfl) dL_law_747) hH (fun H locs hH => ?_)
  have hS := hH.2.2.2.2.2.1
  refine lv_aload_n hx hb dL_law_750 rfl (lv_at hl 1 rfl) ?_
  refine lv_aload_n hx hb dL_law_751 rfl (lv_at hl 3 rfl) ?_
  refine lv_iload_n hx hb dL_law_752 rfl (lv_at hl 0 rfl) ?_
  refine lv_iconst (v := (1 : Int32)) hx hb dL_law_753 (by decide) ?_
  refine lv_iadd hx hb dL_law_754 ?_
  refine va_sld hx hb hX hbl hbA hS h1 dL_law_755 ?_
  refine lci2 (lrunV F hH.2.2.2.2.2.1 hH.2.1 hH.2.2.2.1 hH.2.2.2.2.2.2.2 (c_X6_from l D cy ad2 R (xs (i + 1).toNatClampNeg) (zVl.val hI.1.2.2)) kM_L_94 zK6 kq_X6_from zR0 rfl hl.1 rfl rfl rfl ⟨Nat.le_of_ble_eq_true rfl, Nat.le_of_ble_eq_true rfl⟩ hf (Nat.le_of_ble_eq_true rfl) dL_law_756) hH (fun H locs hH => ?_)
  have hS := hH.2.2.2.2.2.1
  have hm := m_from hI (xs (i + 1).toNatClampNeg)
  exact lv_icmp_eq (tgt := 1289) hx hb dL_law_759 (by decide) (fun _ => next _ _ _ _ hH hm.2) (fun hc => absurd hm.1 hc)
set_option maxRecDepth 20000 in
theorem lw_case19 {p : Program} {l : Launch} {e : Env} {s : State} {m : MethodId} {below : List Frame} {meth : Method} {c : Code} {H : Heap} {locs : List Loc} {cells slots : Nat} {Q : State → Prop} {ls : Array Slot} {D : va_G} {cy : Nat → ClassId} {b L : Nat} {xs : Nat → Int32} {ad1 ad2 : Nat → Nat} {C R : zM} {i : Int32} (F : zLF p s m meth c b L xs D cy) (hf : cells + 0 ≤ room_1.cells ∧ slots + 0 ≤ room_1.slots) (h1 : vp_in (i + 1) L) (h2 : vp_in (i + 2) L) (h3 : vp_in (i + 3) L) (h4 : vp_in (i + 4) L) (h5 : vp_in (i + 5) L) (hH : zL2 D cy s H locs ad1 ad2 C R) (hI : zIN C R) (hl : lv_has ls 4 [(3, .int i), (2, .ref (ad2 0)), (1, .ref (ad1 0)), (0, .ref b)])
    (next : ∀ (C' R' : zM) (H1 : Heap) (locs1 : List Loc), zL2 D cy s H1 locs1 ad1 ad2 C' R' → zIN C' R' → W p l e room_1 s m #[Value.ref b] below meth c H1 locs1 cells slots Q (F0 m 1289 ls [])) :
    W p l e room_1 s m #[Value.ref b] below meth c H locs cells slots Q (F0 m 764 ls []) := by
  obtain ⟨⟨hx, hb, hr, hml, hown, hts, hX, hbl, hlocks, hgv⟩, -⟩ := id F
  have hbA : ¬ (fun q : Nat => s.heap.size ≤ q) b := Nat.not_le.mpr hbl
  have hS := hH.2.2.2.2.2.1
  refine lv_aload_n hx hb dL_law_764 rfl (lv_at hl 2 rfl) ?_
  refine lv_aload_n hx hb dL_law_765 rfl (lv_at hl 3 rfl) ?_
  refine lv_iload_n hx hb dL_law_766 rfl (lv_at hl 0 rfl) ?_
  refine lv_iconst (v := (1 : Int32)) hx hb dL_law_767 (by decide) ?_
  refine lv_iadd hx hb dL_law_768 ?_
  refine va_sld hx hb hX hbl hbA hS h1 dL_law_769 ?_
  refine lv_aload_n hx hb dL_law_770 rfl (lv_at hl 3 rfl) ?_
  refine lv_iload_n hx hb dL_law_771 rfl (lv_at hl 0 rfl) ?_
  refine lv_iconst (v := (2 : Int32)) hx hb dL_law_772 (by decide) ?_
  refine lv_iadd hx hb dL_law_773 ?_
  refine va_sld hx hb hX hbl hbA hS h2 dL_law_774 ?_
  refine lv_aload_n hx hb dL_law_775 rfl (lv_at hl 3 rfl) ?_
  refine lv_iload_n hx hb dL_law_776 rfl (lv_at hl 0 rfl) ?_
  refine lv_iconst (v := (3 : Int32)) hx hb dL_law_777 (by decide) ?_
  refine lv_iadd hx hb dL_law_778 ?_
  refine va_sld hx hb hX hbl hbA hS h3 dL_law_779 ?_
  refine lci1 (lrunV F hH.2.2.2.2.2.1 hH.1 hH.2.2.1 hH.2.2.2.2.2.2.1 (c_X5_still l D cy ad1 C (xs (i + 1).toNatClampNeg) (xs (i + 2).toNatClampNeg) (xs (i + 3).toNatClampNeg)) kM_L_95 zK5 kq_X5_still zX0 rfl hl.1 rfl rfl rfl ⟨Nat.le_of_ble_eq_true rfl, Nat.le_of_ble_eq_true rfl⟩ hf (Nat.le_of_ble_eq_true rfl) dL_law_780) hH (fun H locs hH => ?_)
  have hS := hH.2.2.2.2.2.1
  refine lv_aload_n hx hb dL_law_783 rfl (lv_at hl 1 rfl) ?_
  refine lv_aload_n hx hb dL_law_784 rfl (lv_at hl 3 rfl) ?_
  refine lv_iload_n hx hb dL_law_785 rfl (lv_at hl 0 rfl) ?_
  refine lv_iconst (v := (1 : Int32)) hx hb dL_law_786 (by decide) ?_
  refine lv_iadd hx hb dL_law_787 ?_
  refine va_sld hx hb hX hbl hbA hS h1 dL_law_788 ?_
  refine lv_aload_n hx hb dL_law_789 rfl (lv_at hl 3 rfl) ?_
  refine lv_iload_n hx hb dL_law_790 rfl (lv_at hl 0 rfl) ?_
  refine lv_iconst (v := (2 : Int32)) hx hb dL_law_791 (by decide) ?_
  refine lv_iadd hx hb dL_law_792 ?_
  refine va_sld hx hb hX hbl hbA hS h2 dL_law_793 ?_
  refine lv_aload_n hx hb dL_law_794 rfl (lv_at hl 3 rfl) ?_
  refine lv_iload_n hx hb dL_law_795 rfl (lv_at hl 0 rfl) ?_
  refine lv_iconst (v := (3 : Int32)) hx hb dL_law_796 (by decide) ?_
  refine lv_iadd hx hb dL_law_797 ?_
  refine va_sld hx hb hX hbl hbA hS h3 dL_law_798 ?_
  refine lci2 (lrunV F hH.2.2.2.2.2.1 hH.2.1 hH.2.2.2.1 hH.2.2.2.2.2.2.2 (c_X6_still l D cy ad2 R (xs (i + 1).toNatClampNeg) (xs (i + 2).toNatClampNeg) (xs (i + 3).toNatClampNeg) (zVl.val hI.1.2.2)) kM_L_98 zK6 kq_X6_still zR0 rfl hl.1 rfl rfl rfl ⟨Nat.le_of_ble_eq_true rfl, Nat.le_of_ble_eq_true rfl⟩ hf (Nat.le_of_ble_eq_true rfl) dL_law_799) hH (fun H locs hH => ?_)
  have hS := hH.2.2.2.2.2.1
  have hm := m_still hI (xs (i + 1).toNatClampNeg) (xs (i + 2).toNatClampNeg) (xs (i + 3).toNatClampNeg)
  exact lv_icmp_eq (tgt := 1289) hx hb dL_law_802 (by decide) (fun _ => next _ _ _ _ hH hm.2) (fun hc => absurd hm.1 hc)
set_option maxRecDepth 20000 in
theorem lw_case20 {p : Program} {l : Launch} {e : Env} {s : State} {m : MethodId} {below : List Frame} {meth : Method} {c : Code} {H : Heap} {locs : List Loc} {cells slots : Nat} {Q : State → Prop} {ls : Array Slot} {D : va_G} {cy : Nat → ClassId} {b L : Nat} {xs : Nat → Int32} {ad1 ad2 : Nat → Nat} {C R : zM} {i : Int32} (F : zLF p s m meth c b L xs D cy) (hf : cells + 0 ≤ room_1.cells ∧ slots + 0 ≤ room_1.slots) (h1 : vp_in (i + 1) L) (h2 : vp_in (i + 2) L) (h3 : vp_in (i + 3) L) (h4 : vp_in (i + 4) L) (h5 : vp_in (i + 5) L) (hH : zL2 D cy s H locs ad1 ad2 C R) (hI : zIN C R) (hl : lv_has ls 4 [(3, .int i), (2, .ref (ad2 0)), (1, .ref (ad1 0)), (0, .ref b)])
    (next : ∀ (C' R' : zM) (H1 : Heap) (locs1 : List Loc), zL2 D cy s H1 locs1 ad1 ad2 C' R' → zIN C' R' → W p l e room_1 s m #[Value.ref b] below meth c H1 locs1 cells slots Q (F0 m 1289 ls [])) :
    W p l e room_1 s m #[Value.ref b] below meth c H locs cells slots Q (F0 m 807 ls []) := by
  obtain ⟨⟨hx, hb, hr, hml, hown, hts, hX, hbl, hlocks, hgv⟩, -⟩ := id F
  have hbA : ¬ (fun q : Nat => s.heap.size ≤ q) b := Nat.not_le.mpr hbl
  have hS := hH.2.2.2.2.2.1
  refine lv_aload_n hx hb dL_law_807 rfl (lv_at hl 2 rfl) ?_
  refine lv_aload_n hx hb dL_law_808 rfl (lv_at hl 3 rfl) ?_
  refine lv_iload_n hx hb dL_law_809 rfl (lv_at hl 0 rfl) ?_
  refine lv_iconst (v := (1 : Int32)) hx hb dL_law_810 (by decide) ?_
  refine lv_iadd hx hb dL_law_811 ?_
  refine va_sld hx hb hX hbl hbA hS h1 dL_law_812 ?_
  refine lv_aload_n hx hb dL_law_813 rfl (lv_at hl 3 rfl) ?_
  refine lv_iload_n hx hb dL_law_814 rfl (lv_at hl 0 rfl) ?_
  refine lv_iconst (v := (2 : Int32)) hx hb dL_law_815 (by decide) ?_
  refine lv_iadd hx hb dL_law_816 ?_
  refine va_sld hx hb hX hbl hbA hS h2 dL_law_817 ?_
  refine lci1 (lrunV F hH.2.2.2.2.2.1 hH.1 hH.2.2.1 hH.2.2.2.2.2.2.1 (c_X5_which l D cy ad1 C (xs (i + 1).toNatClampNeg) (xs (i + 2).toNatClampNeg)) kM_L_99 zK5 kq_X5_which zX0 rfl hl.1 rfl rfl rfl ⟨Nat.le_of_ble_eq_true rfl, Nat.le_of_ble_eq_true rfl⟩ hf (Nat.le_of_ble_eq_true rfl) dL_law_818) hH (fun H locs hH => ?_)
  have hS := hH.2.2.2.2.2.1
  refine lv_aload_n hx hb dL_law_821 rfl (lv_at hl 1 rfl) ?_
  refine lv_aload_n hx hb dL_law_822 rfl (lv_at hl 3 rfl) ?_
  refine lv_iload_n hx hb dL_law_823 rfl (lv_at hl 0 rfl) ?_
  refine lv_iconst (v := (1 : Int32)) hx hb dL_law_824 (by decide) ?_
  refine lv_iadd hx hb dL_law_825 ?_
  refine va_sld hx hb hX hbl hbA hS h1 dL_law_826 ?_
  refine lv_aload_n hx hb dL_law_827 rfl (lv_at hl 3 rfl) ?_
  refine lv_iload_n hx hb dL_law_828 rfl (lv_at hl 0 rfl) ?_
  refine lv_iconst (v := (2 : Int32)) hx hb dL_law_829 (by decide) ?_
  refine lv_iadd hx hb dL_law_830 ?_
  refine va_sld hx hb hX hbl hbA hS h2 dL_law_831 ?_
  refine lci2 (lrunV F hH.2.2.2.2.2.1 hH.2.1 hH.2.2.2.1 hH.2.2.2.2.2.2.2 (c_X6_which l D cy ad2 R (xs (i + 1).toNatClampNeg) (xs (i + 2).toNatClampNeg) (zVl.val hI.1.2.2)) kM_L_102 zK6 kq_X6_which zR0 rfl hl.1 rfl rfl rfl ⟨Nat.le_of_ble_eq_true rfl, Nat.le_of_ble_eq_true rfl⟩ hf (Nat.le_of_ble_eq_true rfl) dL_law_832) hH (fun H locs hH => ?_)
  have hS := hH.2.2.2.2.2.1
  have hm := m_which hI (xs (i + 1).toNatClampNeg) (xs (i + 2).toNatClampNeg)
  exact lv_icmp_eq (tgt := 1289) hx hb dL_law_835 (by decide) (fun _ => next _ _ _ _ hH hm.2) (fun hc => absurd hm.1 hc)
set_option maxRecDepth 20000 in
theorem lw_case21 {p : Program} {l : Launch} {e : Env} {s : State} {m : MethodId} {below : List Frame} {meth : Method} {c : Code} {H : Heap} {locs : List Loc} {cells slots : Nat} {Q : State → Prop} {ls : Array Slot} {D : va_G} {cy : Nat → ClassId} {b L : Nat} {xs : Nat → Int32} {ad1 ad2 : Nat → Nat} {C R : zM} {i : Int32} (F : zLF p s m meth c b L xs D cy) (hf : cells + 0 ≤ room_1.cells ∧ slots + 0 ≤ room_1.slots) (h1 : vp_in (i + 1) L) (h2 : vp_in (i + 2) L) (h3 : vp_in (i + 3) L) (h4 : vp_in (i + 4) L) (h5 : vp_in (i + 5) L) (hH : zL2 D cy s H locs ad1 ad2 C R) (hI : zIN C R) (hl : lv_has ls 4 [(3, .int i), (2, .ref (ad2 0)), (1, .ref (ad1 0)), (0, .ref b)])
    (next : ∀ (C' R' : zM) (H1 : Heap) (locs1 : List Loc), zL2 D cy s H1 locs1 ad1 ad2 C' R' → zIN C' R' → W p l e room_1 s m #[Value.ref b] below meth c H1 locs1 cells slots Q (F0 m 1289 ls [])) :
    W p l e room_1 s m #[Value.ref b] below meth c H locs cells slots Q (F0 m 840 ls []) := by
  obtain ⟨⟨hx, hb, hr, hml, hown, hts, hX, hbl, hlocks, hgv⟩, -⟩ := id F
  have hbA : ¬ (fun q : Nat => s.heap.size ≤ q) b := Nat.not_le.mpr hbl
  have hS := hH.2.2.2.2.2.1
  refine lv_aload_n hx hb dL_law_840 rfl (lv_at hl 2 rfl) ?_
  refine lv_aload_n hx hb dL_law_841 rfl (lv_at hl 3 rfl) ?_
  refine lv_iload_n hx hb dL_law_842 rfl (lv_at hl 0 rfl) ?_
  refine lv_iconst (v := (1 : Int32)) hx hb dL_law_843 (by decide) ?_
  refine lv_iadd hx hb dL_law_844 ?_
  refine va_sld hx hb hX hbl hbA hS h1 dL_law_845 ?_
  refine lv_aload_n hx hb dL_law_846 rfl (lv_at hl 3 rfl) ?_
  refine lv_iload_n hx hb dL_law_847 rfl (lv_at hl 0 rfl) ?_
  refine lv_iconst (v := (2 : Int32)) hx hb dL_law_848 (by decide) ?_
  refine lv_iadd hx hb dL_law_849 ?_
  refine va_sld hx hb hX hbl hbA hS h2 dL_law_850 ?_
  refine lv_aload_n hx hb dL_law_851 rfl (lv_at hl 3 rfl) ?_
  refine lv_iload_n hx hb dL_law_852 rfl (lv_at hl 0 rfl) ?_
  refine lv_iconst (v := (3 : Int32)) hx hb dL_law_853 (by decide) ?_
  refine lv_iadd hx hb dL_law_854 ?_
  refine va_sld hx hb hX hbl hbA hS h3 dL_law_855 ?_
  refine lci1 (lrunV F hH.2.2.2.2.2.1 hH.1 hH.2.2.1 hH.2.2.2.2.2.2.1 (c_X5_together l D cy ad1 C (xs (i + 1).toNatClampNeg) (xs (i + 2).toNatClampNeg) (xs (i + 3).toNatClampNeg)) kM_L_103 zK5 kq_X5_together zX0 rfl hl.1 rfl rfl rfl ⟨Nat.le_of_ble_eq_true rfl, Nat.le_of_ble_eq_true rfl⟩ hf (Nat.le_of_ble_eq_true rfl) dL_law_856) hH (fun H locs hH => ?_)
  have hS := hH.2.2.2.2.2.1
  refine lv_aload_n hx hb dL_law_859 rfl (lv_at hl 1 rfl) ?_
  refine lv_aload_n hx hb dL_law_860 rfl (lv_at hl 3 rfl) ?_
  refine lv_iload_n hx hb dL_law_861 rfl (lv_at hl 0 rfl) ?_
  refine lv_iconst (v := (1 : Int32)) hx hb dL_law_862 (by decide) ?_
  refine lv_iadd hx hb dL_law_863 ?_
  refine va_sld hx hb hX hbl hbA hS h1 dL_law_864 ?_
  refine lv_aload_n hx hb dL_law_865 rfl (lv_at hl 3 rfl) ?_
  refine lv_iload_n hx hb dL_law_866 rfl (lv_at hl 0 rfl) ?_
  refine lv_iconst (v := (2 : Int32)) hx hb dL_law_867 (by decide) ?_
  refine lv_iadd hx hb dL_law_868 ?_
  refine va_sld hx hb hX hbl hbA hS h2 dL_law_869 ?_
  refine lv_aload_n hx hb dL_law_870 rfl (lv_at hl 3 rfl) ?_
  refine lv_iload_n hx hb dL_law_871 rfl (lv_at hl 0 rfl) ?_
  refine lv_iconst (v := (3 : Int32)) hx hb dL_law_872 (by decide) ?_
  refine lv_iadd hx hb dL_law_873 ?_
  refine va_sld hx hb hX hbl hbA hS h3 dL_law_874 ?_
  refine lci2 (lrunV F hH.2.2.2.2.2.1 hH.2.1 hH.2.2.2.1 hH.2.2.2.2.2.2.2 (c_X6_together l D cy ad2 R (xs (i + 1).toNatClampNeg) (xs (i + 2).toNatClampNeg) (xs (i + 3).toNatClampNeg) (zVl.val hI.1.2.2)) kM_L_106 zK6 kq_X6_together zR0 rfl hl.1 rfl rfl rfl ⟨Nat.le_of_ble_eq_true rfl, Nat.le_of_ble_eq_true rfl⟩ hf (Nat.le_of_ble_eq_true rfl) dL_law_875) hH (fun H locs hH => ?_)
  have hS := hH.2.2.2.2.2.1
  have hm := m_together hI (xs (i + 1).toNatClampNeg) (xs (i + 2).toNatClampNeg) (xs (i + 3).toNatClampNeg)
  exact lv_icmp_eq (tgt := 1289) hx hb dL_law_878 (by decide) (fun _ => next _ _ _ _ hH hm.2) (fun hc => absurd hm.1 hc)
set_option maxRecDepth 20000 in
theorem lw_case22 {p : Program} {l : Launch} {e : Env} {s : State} {m : MethodId} {below : List Frame} {meth : Method} {c : Code} {H : Heap} {locs : List Loc} {cells slots : Nat} {Q : State → Prop} {ls : Array Slot} {D : va_G} {cy : Nat → ClassId} {b L : Nat} {xs : Nat → Int32} {ad1 ad2 : Nat → Nat} {C R : zM} {i : Int32} (F : zLF p s m meth c b L xs D cy) (hf : cells + 0 ≤ room_1.cells ∧ slots + 0 ≤ room_1.slots) (h1 : vp_in (i + 1) L) (h2 : vp_in (i + 2) L) (h3 : vp_in (i + 3) L) (h4 : vp_in (i + 4) L) (h5 : vp_in (i + 5) L) (hH : zL2 D cy s H locs ad1 ad2 C R) (hI : zIN C R) (hl : lv_has ls 4 [(3, .int i), (2, .ref (ad2 0)), (1, .ref (ad1 0)), (0, .ref b)])
    (next : ∀ (C' R' : zM) (H1 : Heap) (locs1 : List Loc), zL2 D cy s H1 locs1 ad1 ad2 C' R' → zIN C' R' → W p l e room_1 s m #[Value.ref b] below meth c H1 locs1 cells slots Q (F0 m 1289 ls [])) :
    W p l e room_1 s m #[Value.ref b] below meth c H locs cells slots Q (F0 m 883 ls []) := by
  obtain ⟨⟨hx, hb, hr, hml, hown, hts, hX, hbl, hlocks, hgv⟩, -⟩ := id F
  have hbA : ¬ (fun q : Nat => s.heap.size ≤ q) b := Nat.not_le.mpr hbl
  have hS := hH.2.2.2.2.2.1
  refine lv_aload_n hx hb dL_law_883 rfl (lv_at hl 2 rfl) ?_
  refine lv_aload_n hx hb dL_law_884 rfl (lv_at hl 3 rfl) ?_
  refine lv_iload_n hx hb dL_law_885 rfl (lv_at hl 0 rfl) ?_
  refine lv_iconst (v := (1 : Int32)) hx hb dL_law_886 (by decide) ?_
  refine lv_iadd hx hb dL_law_887 ?_
  refine va_sld hx hb hX hbl hbA hS h1 dL_law_888 ?_
  refine lv_aload_n hx hb dL_law_889 rfl (lv_at hl 3 rfl) ?_
  refine lv_iload_n hx hb dL_law_890 rfl (lv_at hl 0 rfl) ?_
  refine lv_iconst (v := (2 : Int32)) hx hb dL_law_891 (by decide) ?_
  refine lv_iadd hx hb dL_law_892 ?_
  refine va_sld hx hb hX hbl hbA hS h2 dL_law_893 ?_
  refine lci1 (lrunV F hH.2.2.2.2.2.1 hH.1 hH.2.2.1 hH.2.2.2.2.2.2.1 (c_X5_feed l D cy ad1 C (xs (i + 1).toNatClampNeg) (xs (i + 2).toNatClampNeg)) kM_L_107 zK5 kq_X5_feed zX0 rfl hl.1 rfl rfl rfl ⟨Nat.le_of_ble_eq_true rfl, Nat.le_of_ble_eq_true rfl⟩ hf (Nat.le_of_ble_eq_true rfl) dL_law_894) hH (fun H locs hH => ?_)
  have hS := hH.2.2.2.2.2.1
  refine lv_aload_n hx hb dL_law_897 rfl (lv_at hl 1 rfl) ?_
  refine lv_aload_n hx hb dL_law_898 rfl (lv_at hl 3 rfl) ?_
  refine lv_iload_n hx hb dL_law_899 rfl (lv_at hl 0 rfl) ?_
  refine lv_iconst (v := (1 : Int32)) hx hb dL_law_900 (by decide) ?_
  refine lv_iadd hx hb dL_law_901 ?_
  refine va_sld hx hb hX hbl hbA hS h1 dL_law_902 ?_
  refine lv_aload_n hx hb dL_law_903 rfl (lv_at hl 3 rfl) ?_
  refine lv_iload_n hx hb dL_law_904 rfl (lv_at hl 0 rfl) ?_
  refine lv_iconst (v := (2 : Int32)) hx hb dL_law_905 (by decide) ?_
  refine lv_iadd hx hb dL_law_906 ?_
  refine va_sld hx hb hX hbl hbA hS h2 dL_law_907 ?_
  refine lci2 (lrunV F hH.2.2.2.2.2.1 hH.2.1 hH.2.2.2.1 hH.2.2.2.2.2.2.2 (c_X6_feed l D cy ad2 R (xs (i + 1).toNatClampNeg) (xs (i + 2).toNatClampNeg)) kM_L_110 zK6 kq_X6_feed zR0 rfl hl.1 rfl rfl rfl ⟨Nat.le_of_ble_eq_true rfl, Nat.le_of_ble_eq_true rfl⟩ hf (Nat.le_of_ble_eq_true rfl) dL_law_908) hH (fun H locs hH => ?_)
  have hS := hH.2.2.2.2.2.1
  have hm := m_feed hI (xs (i + 1).toNatClampNeg) (xs (i + 2).toNatClampNeg)
  exact lv_icmp_eq (tgt := 1289) hx hb dL_law_911 (by decide) (fun _ => next _ _ _ _ hH hm.2) (fun hc => absurd hm.1 hc)
set_option maxRecDepth 20000 in
theorem lw_case23 {p : Program} {l : Launch} {e : Env} {s : State} {m : MethodId} {below : List Frame} {meth : Method} {c : Code} {H : Heap} {locs : List Loc} {cells slots : Nat} {Q : State → Prop} {ls : Array Slot} {D : va_G} {cy : Nat → ClassId} {b L : Nat} {xs : Nat → Int32} {ad1 ad2 : Nat → Nat} {C R : zM} {i : Int32} (F : zLF p s m meth c b L xs D cy) (hf : cells + 0 ≤ room_1.cells ∧ slots + 0 ≤ room_1.slots) (h1 : vp_in (i + 1) L) (h2 : vp_in (i + 2) L) (h3 : vp_in (i + 3) L) (h4 : vp_in (i + 4) L) (h5 : vp_in (i + 5) L) (hH : zL2 D cy s H locs ad1 ad2 C R) (hI : zIN C R) (hl : lv_has ls 4 [(3, .int i), (2, .ref (ad2 0)), (1, .ref (ad1 0)), (0, .ref b)])
    (next : ∀ (C' R' : zM) (H1 : Heap) (locs1 : List Loc), zL2 D cy s H1 locs1 ad1 ad2 C' R' → zIN C' R' → W p l e room_1 s m #[Value.ref b] below meth c H1 locs1 cells slots Q (F0 m 1289 ls [])) :
    W p l e room_1 s m #[Value.ref b] below meth c H locs cells slots Q (F0 m 916 ls []) := by
  obtain ⟨⟨hx, hb, hr, hml, hown, hts, hX, hbl, hlocks, hgv⟩, -⟩ := id F
  have hbA : ¬ (fun q : Nat => s.heap.size ≤ q) b := Nat.not_le.mpr hbl
  have hS := hH.2.2.2.2.2.1
  refine lv_aload_n hx hb dL_law_916 rfl (lv_at hl 2 rfl) ?_
  refine lci1 (lrunV F hH.2.2.2.2.2.1 hH.1 hH.2.2.1 hH.2.2.2.2.2.2.1 (c_X5_wipe l D cy ad1 C) kM_L_111 zK5 kq_X5_wipe zX0 rfl hl.1 rfl rfl rfl ⟨Nat.le_of_ble_eq_true rfl, Nat.le_of_ble_eq_true rfl⟩ hf (Nat.le_of_ble_eq_true rfl) dL_law_917) hH (fun H locs hH => ?_)
  have hS := hH.2.2.2.2.2.1
  refine lv_aload_n hx hb dL_law_920 rfl (lv_at hl 1 rfl) ?_
  refine lci2 (lrunV F hH.2.2.2.2.2.1 hH.2.1 hH.2.2.2.1 hH.2.2.2.2.2.2.2 (c_X6_wipe l D cy ad2 R) kM_L_114 zK6 kq_X6_wipe zR0 rfl hl.1 rfl rfl rfl ⟨Nat.le_of_ble_eq_true rfl, Nat.le_of_ble_eq_true rfl⟩ hf (Nat.le_of_ble_eq_true rfl) dL_law_921) hH (fun H locs hH => ?_)
  have hS := hH.2.2.2.2.2.1
  have hm := m_wipe hI
  exact lv_icmp_eq (tgt := 1289) hx hb dL_law_924 (by decide) (fun _ => next _ _ _ _ hH hm.2) (fun hc => absurd hm.1 hc)
set_option maxRecDepth 20000 in
theorem lw_case24 {p : Program} {l : Launch} {e : Env} {s : State} {m : MethodId} {below : List Frame} {meth : Method} {c : Code} {H : Heap} {locs : List Loc} {cells slots : Nat} {Q : State → Prop} {ls : Array Slot} {D : va_G} {cy : Nat → ClassId} {b L : Nat} {xs : Nat → Int32} {ad1 ad2 : Nat → Nat} {C R : zM} {i : Int32} (F : zLF p s m meth c b L xs D cy) (hf : cells + 0 ≤ room_1.cells ∧ slots + 0 ≤ room_1.slots) (h1 : vp_in (i + 1) L) (h2 : vp_in (i + 2) L) (h3 : vp_in (i + 3) L) (h4 : vp_in (i + 4) L) (h5 : vp_in (i + 5) L) (hH : zL2 D cy s H locs ad1 ad2 C R) (hI : zIN C R) (hl : lv_has ls 4 [(3, .int i), (2, .ref (ad2 0)), (1, .ref (ad1 0)), (0, .ref b)])
    (next : ∀ (C' R' : zM) (H1 : Heap) (locs1 : List Loc), zL2 D cy s H1 locs1 ad1 ad2 C' R' → zIN C' R' → W p l e room_1 s m #[Value.ref b] below meth c H1 locs1 cells slots Q (F0 m 1289 ls [])) :
    W p l e room_1 s m #[Value.ref b] below meth c H locs cells slots Q (F0 m 929 ls []) := by
  obtain ⟨⟨hx, hb, hr, hml, hown, hts, hX, hbl, hlocks, hgv⟩, -⟩ := id F
  have hbA : ¬ (fun q : Nat => s.heap.size ≤ q) b := Nat.not_le.mpr hbl
  have hS := hH.2.2.2.2.2.1
  refine lv_aload_n hx hb dL_law_929 rfl (lv_at hl 2 rfl) ?_
  refine lci1 (lrunV F hH.2.2.2.2.2.1 hH.1 hH.2.2.1 hH.2.2.2.2.2.2.1 (c_X5_law l D cy ad1 C) kM_L_115 zK5 kq_X5_law zX0 rfl hl.1 rfl rfl rfl ⟨Nat.le_of_ble_eq_true rfl, Nat.le_of_ble_eq_true rfl⟩ hf (Nat.le_of_ble_eq_true rfl) dL_law_930) hH (fun H locs hH => ?_)
  have hS := hH.2.2.2.2.2.1
  refine lv_aload_n hx hb dL_law_933 rfl (lv_at hl 1 rfl) ?_
  refine lci2 (lrunV F hH.2.2.2.2.2.1 hH.2.1 hH.2.2.2.1 hH.2.2.2.2.2.2.2 (c_X6_law l D cy ad2 R) kM_L_118 zK6 kq_X6_law zR0 rfl hl.1 rfl rfl rfl ⟨Nat.le_of_ble_eq_true rfl, Nat.le_of_ble_eq_true rfl⟩ hf (Nat.le_of_ble_eq_true rfl) dL_law_934) hH (fun H locs hH => ?_)
  have hS := hH.2.2.2.2.2.1
  have hm := m_law hI
  exact lv_icmp_eq (tgt := 1289) hx hb dL_law_937 (by decide) (fun _ => next _ _ _ _ hH hm.2) (fun hc => absurd hm.1 hc)
set_option maxRecDepth 20000 in
theorem lw_case25 {p : Program} {l : Launch} {e : Env} {s : State} {m : MethodId} {below : List Frame} {meth : Method} {c : Code} {H : Heap} {locs : List Loc} {cells slots : Nat} {Q : State → Prop} {ls : Array Slot} {D : va_G} {cy : Nat → ClassId} {b L : Nat} {xs : Nat → Int32} {ad1 ad2 : Nat → Nat} {C R : zM} {i : Int32} (F : zLF p s m meth c b L xs D cy) (hf : cells + 0 ≤ room_1.cells ∧ slots + 0 ≤ room_1.slots) (h1 : vp_in (i + 1) L) (h2 : vp_in (i + 2) L) (h3 : vp_in (i + 3) L) (h4 : vp_in (i + 4) L) (h5 : vp_in (i + 5) L) (hH : zL2 D cy s H locs ad1 ad2 C R) (hI : zIN C R) (hl : lv_has ls 4 [(3, .int i), (2, .ref (ad2 0)), (1, .ref (ad1 0)), (0, .ref b)])
    (next : ∀ (C' R' : zM) (H1 : Heap) (locs1 : List Loc), zL2 D cy s H1 locs1 ad1 ad2 C' R' → zIN C' R' → W p l e room_1 s m #[Value.ref b] below meth c H1 locs1 cells slots Q (F0 m 1289 ls [])) :
    W p l e room_1 s m #[Value.ref b] below meth c H locs cells slots Q (F0 m 942 ls []) := by
  obtain ⟨⟨hx, hb, hr, hml, hown, hts, hX, hbl, hlocks, hgv⟩, -⟩ := id F
  have hbA : ¬ (fun q : Nat => s.heap.size ≤ q) b := Nat.not_le.mpr hbl
  have hS := hH.2.2.2.2.2.1
  refine lv_aload_n hx hb dL_law_942 rfl (lv_at hl 2 rfl) ?_
  refine lci1 (lrunV F hH.2.2.2.2.2.1 hH.1 hH.2.2.1 hH.2.2.2.2.2.2.1 (c_X5_plain l D cy ad1 C) kM_L_119 zK5 kq_X5_plain zX0 rfl hl.1 rfl rfl rfl ⟨Nat.le_of_ble_eq_true rfl, Nat.le_of_ble_eq_true rfl⟩ hf (Nat.le_of_ble_eq_true rfl) dL_law_943) hH (fun H locs hH => ?_)
  have hS := hH.2.2.2.2.2.1
  refine lv_aload_n hx hb dL_law_946 rfl (lv_at hl 1 rfl) ?_
  refine lci2 (lrunV F hH.2.2.2.2.2.1 hH.2.1 hH.2.2.2.1 hH.2.2.2.2.2.2.2 (c_X6_plain l D cy ad2 R) kM_L_122 zK6 kq_X6_plain zR0 rfl hl.1 rfl rfl rfl ⟨Nat.le_of_ble_eq_true rfl, Nat.le_of_ble_eq_true rfl⟩ hf (Nat.le_of_ble_eq_true rfl) dL_law_947) hH (fun H locs hH => ?_)
  have hS := hH.2.2.2.2.2.1
  have hm := m_plain hI
  exact lv_icmp_eq (tgt := 1289) hx hb dL_law_950 (by decide) (fun _ => next _ _ _ _ hH hm.2) (fun hc => absurd hm.1 hc)
set_option maxRecDepth 20000 in
theorem lw_case26 {p : Program} {l : Launch} {e : Env} {s : State} {m : MethodId} {below : List Frame} {meth : Method} {c : Code} {H : Heap} {locs : List Loc} {cells slots : Nat} {Q : State → Prop} {ls : Array Slot} {D : va_G} {cy : Nat → ClassId} {b L : Nat} {xs : Nat → Int32} {ad1 ad2 : Nat → Nat} {C R : zM} {i : Int32} (F : zLF p s m meth c b L xs D cy) (hf : cells + 0 ≤ room_1.cells ∧ slots + 0 ≤ room_1.slots) (h1 : vp_in (i + 1) L) (h2 : vp_in (i + 2) L) (h3 : vp_in (i + 3) L) (h4 : vp_in (i + 4) L) (h5 : vp_in (i + 5) L) (hH : zL2 D cy s H locs ad1 ad2 C R) (hI : zIN C R) (hl : lv_has ls 4 [(3, .int i), (2, .ref (ad2 0)), (1, .ref (ad1 0)), (0, .ref b)])
    (next : ∀ (C' R' : zM) (H1 : Heap) (locs1 : List Loc), zL2 D cy s H1 locs1 ad1 ad2 C' R' → zIN C' R' → W p l e room_1 s m #[Value.ref b] below meth c H1 locs1 cells slots Q (F0 m 1289 ls [])) :
    W p l e room_1 s m #[Value.ref b] below meth c H locs cells slots Q (F0 m 955 ls []) := by
  obtain ⟨⟨hx, hb, hr, hml, hown, hts, hX, hbl, hlocks, hgv⟩, -⟩ := id F
  have hbA : ¬ (fun q : Nat => s.heap.size ≤ q) b := Nat.not_le.mpr hbl
  have hS := hH.2.2.2.2.2.1
  refine lv_aload_n hx hb dL_law_955 rfl (lv_at hl 2 rfl) ?_
  refine lv_aload_n hx hb dL_law_956 rfl (lv_at hl 3 rfl) ?_
  refine lv_iload_n hx hb dL_law_957 rfl (lv_at hl 0 rfl) ?_
  refine lv_iconst (v := (1 : Int32)) hx hb dL_law_958 (by decide) ?_
  refine lv_iadd hx hb dL_law_959 ?_
  refine va_sld hx hb hX hbl hbA hS h1 dL_law_960 ?_
  refine lci1 (lrunV F hH.2.2.2.2.2.1 hH.1 hH.2.2.1 hH.2.2.2.2.2.2.1 (c_X5_says l D cy ad1 C (xs (i + 1).toNatClampNeg)) kM_L_123 zK5 kq_X5_says zX0 rfl hl.1 rfl rfl rfl ⟨Nat.le_of_ble_eq_true rfl, Nat.le_of_ble_eq_true rfl⟩ hf (Nat.le_of_ble_eq_true rfl) dL_law_961) hH (fun H locs hH => ?_)
  have hS := hH.2.2.2.2.2.1
  refine lv_aload_n hx hb dL_law_964 rfl (lv_at hl 1 rfl) ?_
  refine lv_aload_n hx hb dL_law_965 rfl (lv_at hl 3 rfl) ?_
  refine lv_iload_n hx hb dL_law_966 rfl (lv_at hl 0 rfl) ?_
  refine lv_iconst (v := (1 : Int32)) hx hb dL_law_967 (by decide) ?_
  refine lv_iadd hx hb dL_law_968 ?_
  refine va_sld hx hb hX hbl hbA hS h1 dL_law_969 ?_
  refine lci2 (lrunV F hH.2.2.2.2.2.1 hH.2.1 hH.2.2.2.1 hH.2.2.2.2.2.2.2 (c_X6_says l D cy ad2 R (xs (i + 1).toNatClampNeg) (zVl.val hI.1.2.2)) kM_L_126 zK6 kq_X6_says zR0 rfl hl.1 rfl rfl rfl ⟨Nat.le_of_ble_eq_true rfl, Nat.le_of_ble_eq_true rfl⟩ hf (Nat.le_of_ble_eq_true rfl) dL_law_970) hH (fun H locs hH => ?_)
  have hS := hH.2.2.2.2.2.1
  have hm := m_says hI (xs (i + 1).toNatClampNeg)
  exact lv_icmp_eq (tgt := 1289) hx hb dL_law_973 (by decide) (fun _ => next _ _ _ _ hH hm.2) (fun hc => absurd hm.1 hc)
set_option maxRecDepth 20000 in
theorem lw_case27 {p : Program} {l : Launch} {e : Env} {s : State} {m : MethodId} {below : List Frame} {meth : Method} {c : Code} {H : Heap} {locs : List Loc} {cells slots : Nat} {Q : State → Prop} {ls : Array Slot} {D : va_G} {cy : Nat → ClassId} {b L : Nat} {xs : Nat → Int32} {ad1 ad2 : Nat → Nat} {C R : zM} {i : Int32} (F : zLF p s m meth c b L xs D cy) (hf : cells + 0 ≤ room_1.cells ∧ slots + 0 ≤ room_1.slots) (h1 : vp_in (i + 1) L) (h2 : vp_in (i + 2) L) (h3 : vp_in (i + 3) L) (h4 : vp_in (i + 4) L) (h5 : vp_in (i + 5) L) (hH : zL2 D cy s H locs ad1 ad2 C R) (hI : zIN C R) (hl : lv_has ls 4 [(3, .int i), (2, .ref (ad2 0)), (1, .ref (ad1 0)), (0, .ref b)])
    (next : ∀ (C' R' : zM) (H1 : Heap) (locs1 : List Loc), zL2 D cy s H1 locs1 ad1 ad2 C' R' → zIN C' R' → W p l e room_1 s m #[Value.ref b] below meth c H1 locs1 cells slots Q (F0 m 1289 ls [])) :
    W p l e room_1 s m #[Value.ref b] below meth c H locs cells slots Q (F0 m 978 ls []) := by
  obtain ⟨⟨hx, hb, hr, hml, hown, hts, hX, hbl, hlocks, hgv⟩, -⟩ := id F
  have hbA : ¬ (fun q : Nat => s.heap.size ≤ q) b := Nat.not_le.mpr hbl
  have hS := hH.2.2.2.2.2.1
  refine lv_aload_n hx hb dL_law_978 rfl (lv_at hl 2 rfl) ?_
  refine lv_aload_n hx hb dL_law_979 rfl (lv_at hl 3 rfl) ?_
  refine lv_iload_n hx hb dL_law_980 rfl (lv_at hl 0 rfl) ?_
  refine lv_iconst (v := (1 : Int32)) hx hb dL_law_981 (by decide) ?_
  refine lv_iadd hx hb dL_law_982 ?_
  refine va_sld hx hb hX hbl hbA hS h1 dL_law_983 ?_
  refine lv_aload_n hx hb dL_law_984 rfl (lv_at hl 3 rfl) ?_
  refine lv_iload_n hx hb dL_law_985 rfl (lv_at hl 0 rfl) ?_
  refine lv_iconst (v := (2 : Int32)) hx hb dL_law_986 (by decide) ?_
  refine lv_iadd hx hb dL_law_987 ?_
  refine va_sld hx hb hX hbl hbA hS h2 dL_law_988 ?_
  refine lv_aload_n hx hb dL_law_989 rfl (lv_at hl 3 rfl) ?_
  refine lv_iload_n hx hb dL_law_990 rfl (lv_at hl 0 rfl) ?_
  refine lv_iconst (v := (3 : Int32)) hx hb dL_law_991 (by decide) ?_
  refine lv_iadd hx hb dL_law_992 ?_
  refine va_sld hx hb hX hbl hbA hS h3 dL_law_993 ?_
  refine lci1 (lrunV F hH.2.2.2.2.2.1 hH.1 hH.2.2.1 hH.2.2.2.2.2.2.1 (c_X5_sheet l D cy ad1 C (xs (i + 1).toNatClampNeg) (xs (i + 2).toNatClampNeg) (xs (i + 3).toNatClampNeg)) kM_L_127 zK5 kq_X5_sheet zX0 rfl hl.1 rfl rfl rfl ⟨Nat.le_of_ble_eq_true rfl, Nat.le_of_ble_eq_true rfl⟩ hf (Nat.le_of_ble_eq_true rfl) dL_law_994) hH (fun H locs hH => ?_)
  have hS := hH.2.2.2.2.2.1
  refine lv_aload_n hx hb dL_law_997 rfl (lv_at hl 1 rfl) ?_
  refine lv_aload_n hx hb dL_law_998 rfl (lv_at hl 3 rfl) ?_
  refine lv_iload_n hx hb dL_law_999 rfl (lv_at hl 0 rfl) ?_
  refine lv_iconst (v := (1 : Int32)) hx hb dL_law_1000 (by decide) ?_
  refine lv_iadd hx hb dL_law_1001 ?_
  refine va_sld hx hb hX hbl hbA hS h1 dL_law_1002 ?_
  refine lv_aload_n hx hb dL_law_1003 rfl (lv_at hl 3 rfl) ?_
  refine lv_iload_n hx hb dL_law_1004 rfl (lv_at hl 0 rfl) ?_
  refine lv_iconst (v := (2 : Int32)) hx hb dL_law_1005 (by decide) ?_
  refine lv_iadd hx hb dL_law_1006 ?_
  refine va_sld hx hb hX hbl hbA hS h2 dL_law_1007 ?_
  refine lv_aload_n hx hb dL_law_1008 rfl (lv_at hl 3 rfl) ?_
  refine lv_iload_n hx hb dL_law_1009 rfl (lv_at hl 0 rfl) ?_
  refine lv_iconst (v := (3 : Int32)) hx hb dL_law_1010 (by decide) ?_
  refine lv_iadd hx hb dL_law_1011 ?_
  refine va_sld hx hb hX hbl hbA hS h3 dL_law_1012 ?_
  refine lci2 (lrunV F hH.2.2.2.2.2.1 hH.2.1 hH.2.2.2.1 hH.2.2.2.2.2.2.2 (c_X6_sheet l D cy ad2 R (xs (i + 1).toNatClampNeg) (xs (i + 2).toNatClampNeg) (xs (i + 3).toNatClampNeg)) kM_L_130 zK6 kq_X6_sheet zR0 rfl hl.1 rfl rfl rfl ⟨Nat.le_of_ble_eq_true rfl, Nat.le_of_ble_eq_true rfl⟩ hf (Nat.le_of_ble_eq_true rfl) dL_law_1013) hH (fun H locs hH => ?_)
  have hS := hH.2.2.2.2.2.1
  have hm := m_sheet hI (xs (i + 1).toNatClampNeg) (xs (i + 2).toNatClampNeg) (xs (i + 3).toNatClampNeg)
  exact lv_icmp_eq (tgt := 1289) hx hb dL_law_1016 (by decide) (fun _ => next _ _ _ _ hH hm.2) (fun hc => absurd hm.1 hc)
set_option maxRecDepth 20000 in
theorem lw_case28 {p : Program} {l : Launch} {e : Env} {s : State} {m : MethodId} {below : List Frame} {meth : Method} {c : Code} {H : Heap} {locs : List Loc} {cells slots : Nat} {Q : State → Prop} {ls : Array Slot} {D : va_G} {cy : Nat → ClassId} {b L : Nat} {xs : Nat → Int32} {ad1 ad2 : Nat → Nat} {C R : zM} {i : Int32} (F : zLF p s m meth c b L xs D cy) (hf : cells + 0 ≤ room_1.cells ∧ slots + 0 ≤ room_1.slots) (h1 : vp_in (i + 1) L) (h2 : vp_in (i + 2) L) (h3 : vp_in (i + 3) L) (h4 : vp_in (i + 4) L) (h5 : vp_in (i + 5) L) (hH : zL2 D cy s H locs ad1 ad2 C R) (hI : zIN C R) (hl : lv_has ls 4 [(3, .int i), (2, .ref (ad2 0)), (1, .ref (ad1 0)), (0, .ref b)])
    (next : ∀ (C' R' : zM) (H1 : Heap) (locs1 : List Loc), zL2 D cy s H1 locs1 ad1 ad2 C' R' → zIN C' R' → W p l e room_1 s m #[Value.ref b] below meth c H1 locs1 cells slots Q (F0 m 1289 ls [])) :
    W p l e room_1 s m #[Value.ref b] below meth c H locs cells slots Q (F0 m 1021 ls []) := by
  obtain ⟨⟨hx, hb, hr, hml, hown, hts, hX, hbl, hlocks, hgv⟩, -⟩ := id F
  have hbA : ¬ (fun q : Nat => s.heap.size ≤ q) b := Nat.not_le.mpr hbl
  have hS := hH.2.2.2.2.2.1
  refine lv_aload_n hx hb dL_law_1021 rfl (lv_at hl 2 rfl) ?_
  refine lv_aload_n hx hb dL_law_1022 rfl (lv_at hl 3 rfl) ?_
  refine lv_iload_n hx hb dL_law_1023 rfl (lv_at hl 0 rfl) ?_
  refine lv_iconst (v := (1 : Int32)) hx hb dL_law_1024 (by decide) ?_
  refine lv_iadd hx hb dL_law_1025 ?_
  refine va_sld hx hb hX hbl hbA hS h1 dL_law_1026 ?_
  refine lv_aload_n hx hb dL_law_1027 rfl (lv_at hl 3 rfl) ?_
  refine lv_iload_n hx hb dL_law_1028 rfl (lv_at hl 0 rfl) ?_
  refine lv_iconst (v := (2 : Int32)) hx hb dL_law_1029 (by decide) ?_
  refine lv_iadd hx hb dL_law_1030 ?_
  refine va_sld hx hb hX hbl hbA hS h2 dL_law_1031 ?_
  refine lv_aload_n hx hb dL_law_1032 rfl (lv_at hl 3 rfl) ?_
  refine lv_iload_n hx hb dL_law_1033 rfl (lv_at hl 0 rfl) ?_
  refine lv_iconst (v := (3 : Int32)) hx hb dL_law_1034 (by decide) ?_
  refine lv_iadd hx hb dL_law_1035 ?_
  refine va_sld hx hb hX hbl hbA hS h3 dL_law_1036 ?_
  refine lv_i2l hx hb dL_law_1037 rfl ?_
  refine lv_bipush (v := (32 : Int32)) hx hb dL_law_1038 (by decide) ?_
  refine lv_lshl hx hb dL_law_1040 rfl ?_
  refine lv_aload_n hx hb dL_law_1041 rfl (lv_at hl 3 rfl) ?_
  refine lv_iload_n hx hb dL_law_1042 rfl (lv_at hl 0 rfl) ?_
  refine lv_iconst (v := (4 : Int32)) hx hb dL_law_1043 (by decide) ?_
  refine lv_iadd hx hb dL_law_1044 ?_
  refine va_sld hx hb hX hbl hbA hS h4 dL_law_1045 ?_
  refine lv_i2l hx hb dL_law_1046 rfl ?_
  refine lv_ldc2 (v := (4294967295 : Int64)) hx hb hown (hts _ (zG_tbl _ kK_L_131)) dL_law_1047 ?_
  refine lv_land hx hb dL_law_1050 ?_
  refine lv_lor hx hb dL_law_1051 ?_
  refine lcl1 (lrunV F hH.2.2.2.2.2.1 hH.1 hH.2.2.1 hH.2.2.2.2.2.2.1 (c_X5_write l D cy ad1 C (xs (i + 1).toNatClampNeg) (xs (i + 2).toNatClampNeg) (((xs (i + 3).toNatClampNeg).toInt64 <<< ((32 : Int32).toInt64 &&& 63)) ||| ((xs (i + 4).toNatClampNeg).toInt64 &&& (4294967295 : Int64)))) kM_L_133 zK5 kq_X5_write zX0 rfl hl.1 rfl rfl rfl ⟨Nat.le_of_ble_eq_true rfl, Nat.le_of_ble_eq_true rfl⟩ hf (Nat.le_of_ble_eq_true rfl) dL_law_1052) hH (fun H locs hH => ?_)
  have hS := hH.2.2.2.2.2.1
  refine lv_aload_n hx hb dL_law_1055 rfl (lv_at hl 1 rfl) ?_
  refine lv_aload_n hx hb dL_law_1056 rfl (lv_at hl 3 rfl) ?_
  refine lv_iload_n hx hb dL_law_1057 rfl (lv_at hl 0 rfl) ?_
  refine lv_iconst (v := (1 : Int32)) hx hb dL_law_1058 (by decide) ?_
  refine lv_iadd hx hb dL_law_1059 ?_
  refine va_sld hx hb hX hbl hbA hS h1 dL_law_1060 ?_
  refine lv_aload_n hx hb dL_law_1061 rfl (lv_at hl 3 rfl) ?_
  refine lv_iload_n hx hb dL_law_1062 rfl (lv_at hl 0 rfl) ?_
  refine lv_iconst (v := (2 : Int32)) hx hb dL_law_1063 (by decide) ?_
  refine lv_iadd hx hb dL_law_1064 ?_
  refine va_sld hx hb hX hbl hbA hS h2 dL_law_1065 ?_
  refine lv_aload_n hx hb dL_law_1066 rfl (lv_at hl 3 rfl) ?_
  refine lv_iload_n hx hb dL_law_1067 rfl (lv_at hl 0 rfl) ?_
  refine lv_iconst (v := (3 : Int32)) hx hb dL_law_1068 (by decide) ?_
  refine lv_iadd hx hb dL_law_1069 ?_
  refine va_sld hx hb hX hbl hbA hS h3 dL_law_1070 ?_
  refine lv_i2l hx hb dL_law_1071 rfl ?_
  refine lv_bipush (v := (32 : Int32)) hx hb dL_law_1072 (by decide) ?_
  refine lv_lshl hx hb dL_law_1074 rfl ?_
  refine lv_aload_n hx hb dL_law_1075 rfl (lv_at hl 3 rfl) ?_
  refine lv_iload_n hx hb dL_law_1076 rfl (lv_at hl 0 rfl) ?_
  refine lv_iconst (v := (4 : Int32)) hx hb dL_law_1077 (by decide) ?_
  refine lv_iadd hx hb dL_law_1078 ?_
  refine va_sld hx hb hX hbl hbA hS h4 dL_law_1079 ?_
  refine lv_i2l hx hb dL_law_1080 rfl ?_
  refine lv_ldc2 (v := (4294967295 : Int64)) hx hb hown (hts _ (zG_tbl _ kK_L_131)) dL_law_1081 ?_
  refine lv_land hx hb dL_law_1084 ?_
  refine lv_lor hx hb dL_law_1085 ?_
  refine lcl2 (lrunV F hH.2.2.2.2.2.1 hH.2.1 hH.2.2.2.1 hH.2.2.2.2.2.2.2 (c_X6_write l D cy ad2 R (xs (i + 1).toNatClampNeg) (xs (i + 2).toNatClampNeg) (((xs (i + 3).toNatClampNeg).toInt64 <<< ((32 : Int32).toInt64 &&& 63)) ||| ((xs (i + 4).toNatClampNeg).toInt64 &&& (4294967295 : Int64)))) kM_L_137 zK6 kq_X6_write zR0 rfl hl.1 rfl rfl rfl ⟨Nat.le_of_ble_eq_true rfl, Nat.le_of_ble_eq_true rfl⟩ hf (Nat.le_of_ble_eq_true rfl) dL_law_1086) hH (fun H locs hH => ?_)
  have hS := hH.2.2.2.2.2.1
  have hm := m_write hI (xs (i + 1).toNatClampNeg) (xs (i + 2).toNatClampNeg) (((xs (i + 3).toNatClampNeg).toInt64 <<< ((32 : Int32).toInt64 &&& 63)) ||| ((xs (i + 4).toNatClampNeg).toInt64 &&& (4294967295 : Int64)))
  refine W.lcmp hx hb dL_law_1089 ?_
  exact lv_if_eq (tgt := 1289) hx hb dL_law_1090 (by decide) (fun _ => next _ _ _ _ hH hm.2) (fun hc => absurd (by rw [hm.1]; exact zcmp_self) hc)
set_option maxRecDepth 20000 in
theorem lw_case29 {p : Program} {l : Launch} {e : Env} {s : State} {m : MethodId} {below : List Frame} {meth : Method} {c : Code} {H : Heap} {locs : List Loc} {cells slots : Nat} {Q : State → Prop} {ls : Array Slot} {D : va_G} {cy : Nat → ClassId} {b L : Nat} {xs : Nat → Int32} {ad1 ad2 : Nat → Nat} {C R : zM} {i : Int32} (F : zLF p s m meth c b L xs D cy) (hf : cells + 0 ≤ room_1.cells ∧ slots + 0 ≤ room_1.slots) (h1 : vp_in (i + 1) L) (h2 : vp_in (i + 2) L) (h3 : vp_in (i + 3) L) (h4 : vp_in (i + 4) L) (h5 : vp_in (i + 5) L) (hH : zL2 D cy s H locs ad1 ad2 C R) (hI : zIN C R) (hl : lv_has ls 4 [(3, .int i), (2, .ref (ad2 0)), (1, .ref (ad1 0)), (0, .ref b)])
    (next : ∀ (C' R' : zM) (H1 : Heap) (locs1 : List Loc), zL2 D cy s H1 locs1 ad1 ad2 C' R' → zIN C' R' → W p l e room_1 s m #[Value.ref b] below meth c H1 locs1 cells slots Q (F0 m 1289 ls [])) :
    W p l e room_1 s m #[Value.ref b] below meth c H locs cells slots Q (F0 m 1095 ls []) := by
  obtain ⟨⟨hx, hb, hr, hml, hown, hts, hX, hbl, hlocks, hgv⟩, -⟩ := id F
  have hbA : ¬ (fun q : Nat => s.heap.size ≤ q) b := Nat.not_le.mpr hbl
  have hS := hH.2.2.2.2.2.1
  refine lv_aload_n hx hb dL_law_1095 rfl (lv_at hl 2 rfl) ?_
  refine lv_aload_n hx hb dL_law_1096 rfl (lv_at hl 3 rfl) ?_
  refine lv_iload_n hx hb dL_law_1097 rfl (lv_at hl 0 rfl) ?_
  refine lv_iconst (v := (1 : Int32)) hx hb dL_law_1098 (by decide) ?_
  refine lv_iadd hx hb dL_law_1099 ?_
  refine va_sld hx hb hX hbl hbA hS h1 dL_law_1100 ?_
  refine lv_aload_n hx hb dL_law_1101 rfl (lv_at hl 3 rfl) ?_
  refine lv_iload_n hx hb dL_law_1102 rfl (lv_at hl 0 rfl) ?_
  refine lv_iconst (v := (2 : Int32)) hx hb dL_law_1103 (by decide) ?_
  refine lv_iadd hx hb dL_law_1104 ?_
  refine va_sld hx hb hX hbl hbA hS h2 dL_law_1105 ?_
  refine lv_aload_n hx hb dL_law_1106 rfl (lv_at hl 3 rfl) ?_
  refine lv_iload_n hx hb dL_law_1107 rfl (lv_at hl 0 rfl) ?_
  refine lv_iconst (v := (3 : Int32)) hx hb dL_law_1108 (by decide) ?_
  refine lv_iadd hx hb dL_law_1109 ?_
  refine va_sld hx hb hX hbl hbA hS h3 dL_law_1110 ?_
  refine lv_aload_n hx hb dL_law_1111 rfl (lv_at hl 3 rfl) ?_
  refine lv_iload_n hx hb dL_law_1112 rfl (lv_at hl 0 rfl) ?_
  refine lv_iconst (v := (4 : Int32)) hx hb dL_law_1113 (by decide) ?_
  refine lv_iadd hx hb dL_law_1114 ?_
  refine va_sld hx hb hX hbl hbA hS h4 dL_law_1115 ?_
  refine lv_aload_n hx hb dL_law_1116 rfl (lv_at hl 3 rfl) ?_
  refine lv_iload_n hx hb dL_law_1117 rfl (lv_at hl 0 rfl) ?_
  refine lv_iconst (v := (5 : Int32)) hx hb dL_law_1118 (by decide) ?_
  refine lv_iadd hx hb dL_law_1119 ?_
  refine va_sld hx hb hX hbl hbA hS h5 dL_law_1120 ?_
  refine lci1 (lrunV F hH.2.2.2.2.2.1 hH.1 hH.2.2.1 hH.2.2.2.2.2.2.1 (c_X5_copy l D cy ad1 C (xs (i + 1).toNatClampNeg) (xs (i + 2).toNatClampNeg) (xs (i + 3).toNatClampNeg) (xs (i + 4).toNatClampNeg) (xs (i + 5).toNatClampNeg)) kM_L_138 zK5 kq_X5_copy zX0 rfl hl.1 rfl rfl rfl ⟨Nat.le_of_ble_eq_true rfl, Nat.le_of_ble_eq_true rfl⟩ hf (Nat.le_of_ble_eq_true rfl) dL_law_1121) hH (fun H locs hH => ?_)
  have hS := hH.2.2.2.2.2.1
  refine lv_aload_n hx hb dL_law_1124 rfl (lv_at hl 1 rfl) ?_
  refine lv_aload_n hx hb dL_law_1125 rfl (lv_at hl 3 rfl) ?_
  refine lv_iload_n hx hb dL_law_1126 rfl (lv_at hl 0 rfl) ?_
  refine lv_iconst (v := (1 : Int32)) hx hb dL_law_1127 (by decide) ?_
  refine lv_iadd hx hb dL_law_1128 ?_
  refine va_sld hx hb hX hbl hbA hS h1 dL_law_1129 ?_
  refine lv_aload_n hx hb dL_law_1130 rfl (lv_at hl 3 rfl) ?_
  refine lv_iload_n hx hb dL_law_1131 rfl (lv_at hl 0 rfl) ?_
  refine lv_iconst (v := (2 : Int32)) hx hb dL_law_1132 (by decide) ?_
  refine lv_iadd hx hb dL_law_1133 ?_
  refine va_sld hx hb hX hbl hbA hS h2 dL_law_1134 ?_
  refine lv_aload_n hx hb dL_law_1135 rfl (lv_at hl 3 rfl) ?_
  refine lv_iload_n hx hb dL_law_1136 rfl (lv_at hl 0 rfl) ?_
  refine lv_iconst (v := (3 : Int32)) hx hb dL_law_1137 (by decide) ?_
  refine lv_iadd hx hb dL_law_1138 ?_
  refine va_sld hx hb hX hbl hbA hS h3 dL_law_1139 ?_
  refine lv_aload_n hx hb dL_law_1140 rfl (lv_at hl 3 rfl) ?_
  refine lv_iload_n hx hb dL_law_1141 rfl (lv_at hl 0 rfl) ?_
  refine lv_iconst (v := (4 : Int32)) hx hb dL_law_1142 (by decide) ?_
  refine lv_iadd hx hb dL_law_1143 ?_
  refine va_sld hx hb hX hbl hbA hS h4 dL_law_1144 ?_
  refine lv_aload_n hx hb dL_law_1145 rfl (lv_at hl 3 rfl) ?_
  refine lv_iload_n hx hb dL_law_1146 rfl (lv_at hl 0 rfl) ?_
  refine lv_iconst (v := (5 : Int32)) hx hb dL_law_1147 (by decide) ?_
  refine lv_iadd hx hb dL_law_1148 ?_
  refine va_sld hx hb hX hbl hbA hS h5 dL_law_1149 ?_
  refine lci2 (lrunV F hH.2.2.2.2.2.1 hH.2.1 hH.2.2.2.1 hH.2.2.2.2.2.2.2 (c_X6_copy l D cy ad2 R (xs (i + 1).toNatClampNeg) (xs (i + 2).toNatClampNeg) (xs (i + 3).toNatClampNeg) (xs (i + 4).toNatClampNeg) (xs (i + 5).toNatClampNeg)) kM_L_142 zK6 kq_X6_copy zR0 rfl hl.1 rfl rfl rfl ⟨Nat.le_of_ble_eq_true rfl, Nat.le_of_ble_eq_true rfl⟩ hf (Nat.le_of_ble_eq_true rfl) dL_law_1150) hH (fun H locs hH => ?_)
  have hS := hH.2.2.2.2.2.1
  have hm := m_copy hI (xs (i + 1).toNatClampNeg) (xs (i + 2).toNatClampNeg) (xs (i + 3).toNatClampNeg) (xs (i + 4).toNatClampNeg) (xs (i + 5).toNatClampNeg)
  exact lv_icmp_eq (tgt := 1289) hx hb dL_law_1153 (by decide) (fun _ => next _ _ _ _ hH hm.2) (fun hc => absurd hm.1 hc)
set_option maxRecDepth 20000 in
theorem lw_case30 {p : Program} {l : Launch} {e : Env} {s : State} {m : MethodId} {below : List Frame} {meth : Method} {c : Code} {H : Heap} {locs : List Loc} {cells slots : Nat} {Q : State → Prop} {ls : Array Slot} {D : va_G} {cy : Nat → ClassId} {b L : Nat} {xs : Nat → Int32} {ad1 ad2 : Nat → Nat} {C R : zM} {i : Int32} (F : zLF p s m meth c b L xs D cy) (hf : cells + 0 ≤ room_1.cells ∧ slots + 0 ≤ room_1.slots) (h1 : vp_in (i + 1) L) (h2 : vp_in (i + 2) L) (h3 : vp_in (i + 3) L) (h4 : vp_in (i + 4) L) (h5 : vp_in (i + 5) L) (hH : zL2 D cy s H locs ad1 ad2 C R) (hI : zIN C R) (hl : lv_has ls 4 [(3, .int i), (2, .ref (ad2 0)), (1, .ref (ad1 0)), (0, .ref b)])
    (next : ∀ (C' R' : zM) (H1 : Heap) (locs1 : List Loc), zL2 D cy s H1 locs1 ad1 ad2 C' R' → zIN C' R' → W p l e room_1 s m #[Value.ref b] below meth c H1 locs1 cells slots Q (F0 m 1289 ls [])) :
    W p l e room_1 s m #[Value.ref b] below meth c H locs cells slots Q (F0 m 1158 ls []) := by
  obtain ⟨⟨hx, hb, hr, hml, hown, hts, hX, hbl, hlocks, hgv⟩, -⟩ := id F
  have hbA : ¬ (fun q : Nat => s.heap.size ≤ q) b := Nat.not_le.mpr hbl
  have hS := hH.2.2.2.2.2.1
  refine lv_aload_n hx hb dL_law_1158 rfl (lv_at hl 2 rfl) ?_
  refine lv_aload_n hx hb dL_law_1159 rfl (lv_at hl 3 rfl) ?_
  refine lv_iload_n hx hb dL_law_1160 rfl (lv_at hl 0 rfl) ?_
  refine lv_iconst (v := (1 : Int32)) hx hb dL_law_1161 (by decide) ?_
  refine lv_iadd hx hb dL_law_1162 ?_
  refine va_sld hx hb hX hbl hbA hS h1 dL_law_1163 ?_
  refine lci1 (lrunV F hH.2.2.2.2.2.1 hH.1 hH.2.2.1 hH.2.2.2.2.2.2.1 (c_X5_draws l D cy ad1 C (xs (i + 1).toNatClampNeg)) kM_L_143 zK5 kq_X5_draws zX0 rfl hl.1 rfl rfl rfl ⟨Nat.le_of_ble_eq_true rfl, Nat.le_of_ble_eq_true rfl⟩ hf (Nat.le_of_ble_eq_true rfl) dL_law_1164) hH (fun H locs hH => ?_)
  have hS := hH.2.2.2.2.2.1
  refine lv_aload_n hx hb dL_law_1167 rfl (lv_at hl 1 rfl) ?_
  refine lv_aload_n hx hb dL_law_1168 rfl (lv_at hl 3 rfl) ?_
  refine lv_iload_n hx hb dL_law_1169 rfl (lv_at hl 0 rfl) ?_
  refine lv_iconst (v := (1 : Int32)) hx hb dL_law_1170 (by decide) ?_
  refine lv_iadd hx hb dL_law_1171 ?_
  refine va_sld hx hb hX hbl hbA hS h1 dL_law_1172 ?_
  refine lci2 (lrunV F hH.2.2.2.2.2.1 hH.2.1 hH.2.2.2.1 hH.2.2.2.2.2.2.2 (c_X6_draws l D cy ad2 R (xs (i + 1).toNatClampNeg) (zVl.val hI.1.2.2)) kM_L_146 zK6 kq_X6_draws zR0 rfl hl.1 rfl rfl rfl ⟨Nat.le_of_ble_eq_true rfl, Nat.le_of_ble_eq_true rfl⟩ hf (Nat.le_of_ble_eq_true rfl) dL_law_1173) hH (fun H locs hH => ?_)
  have hS := hH.2.2.2.2.2.1
  have hm := m_draws hI (xs (i + 1).toNatClampNeg)
  exact lv_icmp_eq (tgt := 1289) hx hb dL_law_1176 (by decide) (fun _ => next _ _ _ _ hH hm.2) (fun hc => absurd hm.1 hc)
set_option maxRecDepth 20000 in
theorem lw_case31 {p : Program} {l : Launch} {e : Env} {s : State} {m : MethodId} {below : List Frame} {meth : Method} {c : Code} {H : Heap} {locs : List Loc} {cells slots : Nat} {Q : State → Prop} {ls : Array Slot} {D : va_G} {cy : Nat → ClassId} {b L : Nat} {xs : Nat → Int32} {ad1 ad2 : Nat → Nat} {C R : zM} {i : Int32} (F : zLF p s m meth c b L xs D cy) (hf : cells + 0 ≤ room_1.cells ∧ slots + 0 ≤ room_1.slots) (h1 : vp_in (i + 1) L) (h2 : vp_in (i + 2) L) (h3 : vp_in (i + 3) L) (h4 : vp_in (i + 4) L) (h5 : vp_in (i + 5) L) (hH : zL2 D cy s H locs ad1 ad2 C R) (hI : zIN C R) (hl : lv_has ls 4 [(3, .int i), (2, .ref (ad2 0)), (1, .ref (ad1 0)), (0, .ref b)])
    (next : ∀ (C' R' : zM) (H1 : Heap) (locs1 : List Loc), zL2 D cy s H1 locs1 ad1 ad2 C' R' → zIN C' R' → W p l e room_1 s m #[Value.ref b] below meth c H1 locs1 cells slots Q (F0 m 1289 ls [])) :
    W p l e room_1 s m #[Value.ref b] below meth c H locs cells slots Q (F0 m 1181 ls []) := by
  obtain ⟨⟨hx, hb, hr, hml, hown, hts, hX, hbl, hlocks, hgv⟩, -⟩ := id F
  have hbA : ¬ (fun q : Nat => s.heap.size ≤ q) b := Nat.not_le.mpr hbl
  have hS := hH.2.2.2.2.2.1
  refine lv_aload_n hx hb dL_law_1181 rfl (lv_at hl 2 rfl) ?_
  refine lv_aload_n hx hb dL_law_1182 rfl (lv_at hl 3 rfl) ?_
  refine lv_iload_n hx hb dL_law_1183 rfl (lv_at hl 0 rfl) ?_
  refine lv_iconst (v := (1 : Int32)) hx hb dL_law_1184 (by decide) ?_
  refine lv_iadd hx hb dL_law_1185 ?_
  refine va_sld hx hb hX hbl hbA hS h1 dL_law_1186 ?_
  refine lci1 (lrunV F hH.2.2.2.2.2.1 hH.1 hH.2.2.1 hH.2.2.2.2.2.2.1 (c_X5_read l D cy ad1 C (xs (i + 1).toNatClampNeg)) kM_L_147 zK5 kq_X5_read zX0 rfl hl.1 rfl rfl rfl ⟨Nat.le_of_ble_eq_true rfl, Nat.le_of_ble_eq_true rfl⟩ hf (Nat.le_of_ble_eq_true rfl) dL_law_1187) hH (fun H locs hH => ?_)
  have hS := hH.2.2.2.2.2.1
  refine lv_aload_n hx hb dL_law_1190 rfl (lv_at hl 1 rfl) ?_
  refine lv_aload_n hx hb dL_law_1191 rfl (lv_at hl 3 rfl) ?_
  refine lv_iload_n hx hb dL_law_1192 rfl (lv_at hl 0 rfl) ?_
  refine lv_iconst (v := (1 : Int32)) hx hb dL_law_1193 (by decide) ?_
  refine lv_iadd hx hb dL_law_1194 ?_
  refine va_sld hx hb hX hbl hbA hS h1 dL_law_1195 ?_
  refine lci2 (lrunV F hH.2.2.2.2.2.1 hH.2.1 hH.2.2.2.1 hH.2.2.2.2.2.2.2 (c_X6_read l D cy ad2 R (xs (i + 1).toNatClampNeg)) kM_L_150 zK6 kq_X6_read zR0 rfl hl.1 rfl rfl rfl ⟨Nat.le_of_ble_eq_true rfl, Nat.le_of_ble_eq_true rfl⟩ hf (Nat.le_of_ble_eq_true rfl) dL_law_1196) hH (fun H locs hH => ?_)
  have hS := hH.2.2.2.2.2.1
  have hm := m_read hI (xs (i + 1).toNatClampNeg)
  exact lv_icmp_eq (tgt := 1289) hx hb dL_law_1199 (by decide) (fun _ => next _ _ _ _ hH hm.2) (fun hc => absurd hm.1 hc)
set_option maxRecDepth 20000 in
theorem lw_case32 {p : Program} {l : Launch} {e : Env} {s : State} {m : MethodId} {below : List Frame} {meth : Method} {c : Code} {H : Heap} {locs : List Loc} {cells slots : Nat} {Q : State → Prop} {ls : Array Slot} {D : va_G} {cy : Nat → ClassId} {b L : Nat} {xs : Nat → Int32} {ad1 ad2 : Nat → Nat} {C R : zM} {i : Int32} (F : zLF p s m meth c b L xs D cy) (hf : cells + 0 ≤ room_1.cells ∧ slots + 0 ≤ room_1.slots) (h1 : vp_in (i + 1) L) (h2 : vp_in (i + 2) L) (h3 : vp_in (i + 3) L) (h4 : vp_in (i + 4) L) (h5 : vp_in (i + 5) L) (hH : zL2 D cy s H locs ad1 ad2 C R) (hI : zIN C R) (hl : lv_has ls 4 [(3, .int i), (2, .ref (ad2 0)), (1, .ref (ad1 0)), (0, .ref b)])
    (next : ∀ (C' R' : zM) (H1 : Heap) (locs1 : List Loc), zL2 D cy s H1 locs1 ad1 ad2 C' R' → zIN C' R' → W p l e room_1 s m #[Value.ref b] below meth c H1 locs1 cells slots Q (F0 m 1289 ls [])) :
    W p l e room_1 s m #[Value.ref b] below meth c H locs cells slots Q (F0 m 1204 ls []) := by
  obtain ⟨⟨hx, hb, hr, hml, hown, hts, hX, hbl, hlocks, hgv⟩, -⟩ := id F
  have hbA : ¬ (fun q : Nat => s.heap.size ≤ q) b := Nat.not_le.mpr hbl
  have hS := hH.2.2.2.2.2.1
  refine lv_aload_n hx hb dL_law_1204 rfl (lv_at hl 2 rfl) ?_
  refine lci1 (lrunV F hH.2.2.2.2.2.1 hH.1 hH.2.2.1 hH.2.2.2.2.2.2.1 (c_X5_image l D cy ad1 C) kM_L_151 zK5 kq_X5_image zX0 rfl hl.1 rfl rfl rfl ⟨Nat.le_of_ble_eq_true rfl, Nat.le_of_ble_eq_true rfl⟩ hf (Nat.le_of_ble_eq_true rfl) dL_law_1205) hH (fun H locs hH => ?_)
  have hS := hH.2.2.2.2.2.1
  refine lv_aload_n hx hb dL_law_1208 rfl (lv_at hl 1 rfl) ?_
  refine lci2 (lrunV F hH.2.2.2.2.2.1 hH.2.1 hH.2.2.2.1 hH.2.2.2.2.2.2.2 (c_X6_image l D cy ad2 R) kM_L_154 zK6 kq_X6_image zR0 rfl hl.1 rfl rfl rfl ⟨Nat.le_of_ble_eq_true rfl, Nat.le_of_ble_eq_true rfl⟩ hf (Nat.le_of_ble_eq_true rfl) dL_law_1209) hH (fun H locs hH => ?_)
  have hS := hH.2.2.2.2.2.1
  have hm := m_image hI
  exact lv_icmp_eq (tgt := 1289) hx hb dL_law_1212 (by decide) (fun _ => next _ _ _ _ hH hm.2) (fun hc => absurd hm.1 hc)
set_option maxRecDepth 20000 in
theorem lw_case33 {p : Program} {l : Launch} {e : Env} {s : State} {m : MethodId} {below : List Frame} {meth : Method} {c : Code} {H : Heap} {locs : List Loc} {cells slots : Nat} {Q : State → Prop} {ls : Array Slot} {D : va_G} {cy : Nat → ClassId} {b L : Nat} {xs : Nat → Int32} {ad1 ad2 : Nat → Nat} {C R : zM} {i : Int32} (F : zLF p s m meth c b L xs D cy) (hf : cells + 0 ≤ room_1.cells ∧ slots + 0 ≤ room_1.slots) (h1 : vp_in (i + 1) L) (h2 : vp_in (i + 2) L) (h3 : vp_in (i + 3) L) (h4 : vp_in (i + 4) L) (h5 : vp_in (i + 5) L) (hH : zL2 D cy s H locs ad1 ad2 C R) (hI : zIN C R) (hl : lv_has ls 4 [(3, .int i), (2, .ref (ad2 0)), (1, .ref (ad1 0)), (0, .ref b)])
    (next : ∀ (C' R' : zM) (H1 : Heap) (locs1 : List Loc), zL2 D cy s H1 locs1 ad1 ad2 C' R' → zIN C' R' → W p l e room_1 s m #[Value.ref b] below meth c H1 locs1 cells slots Q (F0 m 1289 ls [])) :
    W p l e room_1 s m #[Value.ref b] below meth c H locs cells slots Q (F0 m 1217 ls []) := by
  obtain ⟨⟨hx, hb, hr, hml, hown, hts, hX, hbl, hlocks, hgv⟩, -⟩ := id F
  have hbA : ¬ (fun q : Nat => s.heap.size ≤ q) b := Nat.not_le.mpr hbl
  have hS := hH.2.2.2.2.2.1
  refine lv_aload_n hx hb dL_law_1217 rfl (lv_at hl 2 rfl) ?_
  refine lci1 (lrunV F hH.2.2.2.2.2.1 hH.1 hH.2.2.1 hH.2.2.2.2.2.2.1 (c_X5_undo l D cy ad1 C) kM_L_155 zK5 kq_X5_undo zX0 rfl hl.1 rfl rfl rfl ⟨Nat.le_of_ble_eq_true rfl, Nat.le_of_ble_eq_true rfl⟩ hf (Nat.le_of_ble_eq_true rfl) dL_law_1218) hH (fun H locs hH => ?_)
  have hS := hH.2.2.2.2.2.1
  refine lv_aload_n hx hb dL_law_1221 rfl (lv_at hl 1 rfl) ?_
  refine lci2 (lrunV F hH.2.2.2.2.2.1 hH.2.1 hH.2.2.2.1 hH.2.2.2.2.2.2.2 (c_X6_undo l D cy ad2 R) kM_L_158 zK6 kq_X6_undo zR0 rfl hl.1 rfl rfl rfl ⟨Nat.le_of_ble_eq_true rfl, Nat.le_of_ble_eq_true rfl⟩ hf (Nat.le_of_ble_eq_true rfl) dL_law_1222) hH (fun H locs hH => ?_)
  have hS := hH.2.2.2.2.2.1
  have hm := m_undo hI
  exact lv_icmp_eq (tgt := 1289) hx hb dL_law_1225 (by decide) (fun _ => next _ _ _ _ hH hm.2) (fun hc => absurd hm.1 hc)
set_option maxRecDepth 20000 in
theorem lw_case34 {p : Program} {l : Launch} {e : Env} {s : State} {m : MethodId} {below : List Frame} {meth : Method} {c : Code} {H : Heap} {locs : List Loc} {cells slots : Nat} {Q : State → Prop} {ls : Array Slot} {D : va_G} {cy : Nat → ClassId} {b L : Nat} {xs : Nat → Int32} {ad1 ad2 : Nat → Nat} {C R : zM} {i : Int32} (F : zLF p s m meth c b L xs D cy) (hf : cells + 0 ≤ room_1.cells ∧ slots + 0 ≤ room_1.slots) (h1 : vp_in (i + 1) L) (h2 : vp_in (i + 2) L) (h3 : vp_in (i + 3) L) (h4 : vp_in (i + 4) L) (h5 : vp_in (i + 5) L) (hH : zL2 D cy s H locs ad1 ad2 C R) (hI : zIN C R) (hl : lv_has ls 4 [(3, .int i), (2, .ref (ad2 0)), (1, .ref (ad1 0)), (0, .ref b)])
    (next : ∀ (C' R' : zM) (H1 : Heap) (locs1 : List Loc), zL2 D cy s H1 locs1 ad1 ad2 C' R' → zIN C' R' → W p l e room_1 s m #[Value.ref b] below meth c H1 locs1 cells slots Q (F0 m 1289 ls [])) :
    W p l e room_1 s m #[Value.ref b] below meth c H locs cells slots Q (F0 m 1230 ls []) := by
  obtain ⟨⟨hx, hb, hr, hml, hown, hts, hX, hbl, hlocks, hgv⟩, -⟩ := id F
  have hbA : ¬ (fun q : Nat => s.heap.size ≤ q) b := Nat.not_le.mpr hbl
  have hS := hH.2.2.2.2.2.1
  refine lv_aload_n hx hb dL_law_1230 rfl (lv_at hl 2 rfl) ?_
  refine lci1 (lrunV F hH.2.2.2.2.2.1 hH.1 hH.2.2.1 hH.2.2.2.2.2.2.1 (c_X5_tear l D cy ad1 C) kM_L_159 zK5 kq_X5_tear zX0 rfl hl.1 rfl rfl rfl ⟨Nat.le_of_ble_eq_true rfl, Nat.le_of_ble_eq_true rfl⟩ hf (Nat.le_of_ble_eq_true rfl) dL_law_1231) hH (fun H locs hH => ?_)
  have hS := hH.2.2.2.2.2.1
  refine lv_aload_n hx hb dL_law_1234 rfl (lv_at hl 1 rfl) ?_
  refine lci2 (lrunV F hH.2.2.2.2.2.1 hH.2.1 hH.2.2.2.1 hH.2.2.2.2.2.2.2 (c_X6_tear l D cy ad2 R) kM_L_162 zK6 kq_X6_tear zR0 rfl hl.1 rfl rfl rfl ⟨Nat.le_of_ble_eq_true rfl, Nat.le_of_ble_eq_true rfl⟩ hf (Nat.le_of_ble_eq_true rfl) dL_law_1235) hH (fun H locs hH => ?_)
  have hS := hH.2.2.2.2.2.1
  have hm := m_tear hI
  exact lv_icmp_eq (tgt := 1289) hx hb dL_law_1238 (by decide) (fun _ => next _ _ _ _ hH hm.2) (fun hc => absurd hm.1 hc)
set_option maxRecDepth 20000 in
theorem lw_case35 {p : Program} {l : Launch} {e : Env} {s : State} {m : MethodId} {below : List Frame} {meth : Method} {c : Code} {H : Heap} {locs : List Loc} {cells slots : Nat} {Q : State → Prop} {ls : Array Slot} {D : va_G} {cy : Nat → ClassId} {b L : Nat} {xs : Nat → Int32} {ad1 ad2 : Nat → Nat} {C R : zM} {i : Int32} (F : zLF p s m meth c b L xs D cy) (hf : cells + 0 ≤ room_1.cells ∧ slots + 0 ≤ room_1.slots) (h1 : vp_in (i + 1) L) (h2 : vp_in (i + 2) L) (h3 : vp_in (i + 3) L) (h4 : vp_in (i + 4) L) (h5 : vp_in (i + 5) L) (hH : zL2 D cy s H locs ad1 ad2 C R) (hI : zIN C R) (hl : lv_has ls 4 [(3, .int i), (2, .ref (ad2 0)), (1, .ref (ad1 0)), (0, .ref b)])
    (next : ∀ (C' R' : zM) (H1 : Heap) (locs1 : List Loc), zL2 D cy s H1 locs1 ad1 ad2 C' R' → zIN C' R' → W p l e room_1 s m #[Value.ref b] below meth c H1 locs1 cells slots Q (F0 m 1289 ls [])) :
    W p l e room_1 s m #[Value.ref b] below meth c H locs cells slots Q (F0 m 1243 ls []) := by
  obtain ⟨⟨hx, hb, hr, hml, hown, hts, hX, hbl, hlocks, hgv⟩, -⟩ := id F
  have hbA : ¬ (fun q : Nat => s.heap.size ≤ q) b := Nat.not_le.mpr hbl
  have hS := hH.2.2.2.2.2.1
  refine lv_aload_n hx hb dL_law_1243 rfl (lv_at hl 2 rfl) ?_
  refine lv_aload_n hx hb dL_law_1244 rfl (lv_at hl 3 rfl) ?_
  refine lv_iload_n hx hb dL_law_1245 rfl (lv_at hl 0 rfl) ?_
  refine lv_iconst (v := (1 : Int32)) hx hb dL_law_1246 (by decide) ?_
  refine lv_iadd hx hb dL_law_1247 ?_
  refine va_sld hx hb hX hbl hbA hS h1 dL_law_1248 ?_
  refine lci1 (lrunV F hH.2.2.2.2.2.1 hH.1 hH.2.2.1 hH.2.2.2.2.2.2.1 (c_X5_count l D cy ad1 C (xs (i + 1).toNatClampNeg)) kM_L_163 zK5 kq_X5_count zX0 rfl hl.1 rfl rfl rfl ⟨Nat.le_of_ble_eq_true rfl, Nat.le_of_ble_eq_true rfl⟩ hf (Nat.le_of_ble_eq_true rfl) dL_law_1249) hH (fun H locs hH => ?_)
  have hS := hH.2.2.2.2.2.1
  refine lv_aload_n hx hb dL_law_1252 rfl (lv_at hl 1 rfl) ?_
  refine lv_aload_n hx hb dL_law_1253 rfl (lv_at hl 3 rfl) ?_
  refine lv_iload_n hx hb dL_law_1254 rfl (lv_at hl 0 rfl) ?_
  refine lv_iconst (v := (1 : Int32)) hx hb dL_law_1255 (by decide) ?_
  refine lv_iadd hx hb dL_law_1256 ?_
  refine va_sld hx hb hX hbl hbA hS h1 dL_law_1257 ?_
  refine lci2 (lrunV F hH.2.2.2.2.2.1 hH.2.1 hH.2.2.2.1 hH.2.2.2.2.2.2.2 (c_X6_count l D cy ad2 R (xs (i + 1).toNatClampNeg)) kM_L_166 zK6 kq_X6_count zR0 rfl hl.1 rfl rfl rfl ⟨Nat.le_of_ble_eq_true rfl, Nat.le_of_ble_eq_true rfl⟩ hf (Nat.le_of_ble_eq_true rfl) dL_law_1258) hH (fun H locs hH => ?_)
  have hS := hH.2.2.2.2.2.1
  have hm := m_count hI (xs (i + 1).toNatClampNeg)
  exact lv_icmp_eq (tgt := 1289) hx hb dL_law_1261 (by decide) (fun _ => next _ _ _ _ hH hm.2) (fun hc => absurd hm.1 hc)
set_option maxRecDepth 20000 in
theorem lw_case36 {p : Program} {l : Launch} {e : Env} {s : State} {m : MethodId} {below : List Frame} {meth : Method} {c : Code} {H : Heap} {locs : List Loc} {cells slots : Nat} {Q : State → Prop} {ls : Array Slot} {D : va_G} {cy : Nat → ClassId} {b L : Nat} {xs : Nat → Int32} {ad1 ad2 : Nat → Nat} {C R : zM} {i : Int32} (F : zLF p s m meth c b L xs D cy) (hf : cells + 0 ≤ room_1.cells ∧ slots + 0 ≤ room_1.slots) (h1 : vp_in (i + 1) L) (h2 : vp_in (i + 2) L) (h3 : vp_in (i + 3) L) (h4 : vp_in (i + 4) L) (h5 : vp_in (i + 5) L) (hH : zL2 D cy s H locs ad1 ad2 C R) (hI : zIN C R) (hl : lv_has ls 4 [(3, .int i), (2, .ref (ad2 0)), (1, .ref (ad1 0)), (0, .ref b)])
    (next : ∀ (C' R' : zM) (H1 : Heap) (locs1 : List Loc), zL2 D cy s H1 locs1 ad1 ad2 C' R' → zIN C' R' → W p l e room_1 s m #[Value.ref b] below meth c H1 locs1 cells slots Q (F0 m 1289 ls [])) :
    W p l e room_1 s m #[Value.ref b] below meth c H locs cells slots Q (F0 m 1266 ls []) := by
  obtain ⟨⟨hx, hb, hr, hml, hown, hts, hX, hbl, hlocks, hgv⟩, -⟩ := id F
  have hbA : ¬ (fun q : Nat => s.heap.size ≤ q) b := Nat.not_le.mpr hbl
  have hS := hH.2.2.2.2.2.1
  refine lv_aload_n hx hb dL_law_1266 rfl (lv_at hl 2 rfl) ?_
  refine lv_aload_n hx hb dL_law_1267 rfl (lv_at hl 3 rfl) ?_
  refine lv_iload_n hx hb dL_law_1268 rfl (lv_at hl 0 rfl) ?_
  refine lv_iconst (v := (1 : Int32)) hx hb dL_law_1269 (by decide) ?_
  refine lv_iadd hx hb dL_law_1270 ?_
  refine va_sld hx hb hX hbl hbA hS h1 dL_law_1271 ?_
  refine lci1 (lrunV F hH.2.2.2.2.2.1 hH.1 hH.2.2.1 hH.2.2.2.2.2.2.1 (c_X5_status l D cy ad1 C (xs (i + 1).toNatClampNeg)) kM_L_167 zK5 kq_X5_status zX0 rfl hl.1 rfl rfl rfl ⟨Nat.le_of_ble_eq_true rfl, Nat.le_of_ble_eq_true rfl⟩ hf (Nat.le_of_ble_eq_true rfl) dL_law_1272) hH (fun H locs hH => ?_)
  have hS := hH.2.2.2.2.2.1
  refine lv_aload_n hx hb dL_law_1275 rfl (lv_at hl 1 rfl) ?_
  refine lv_aload_n hx hb dL_law_1276 rfl (lv_at hl 3 rfl) ?_
  refine lv_iload_n hx hb dL_law_1277 rfl (lv_at hl 0 rfl) ?_
  refine lv_iconst (v := (1 : Int32)) hx hb dL_law_1278 (by decide) ?_
  refine lv_iadd hx hb dL_law_1279 ?_
  refine va_sld hx hb hX hbl hbA hS h1 dL_law_1280 ?_
  refine lci2 (lrunV F hH.2.2.2.2.2.1 hH.2.1 hH.2.2.2.1 hH.2.2.2.2.2.2.2 (c_X6_status l D cy ad2 R (xs (i + 1).toNatClampNeg)) kM_L_170 zK6 kq_X6_status zR0 rfl hl.1 rfl rfl rfl ⟨Nat.le_of_ble_eq_true rfl, Nat.le_of_ble_eq_true rfl⟩ hf (Nat.le_of_ble_eq_true rfl) dL_law_1281) hH (fun H locs hH => ?_)
  have hS := hH.2.2.2.2.2.1
  have hm := m_status hI (xs (i + 1).toNatClampNeg)
  exact lv_icmp_eq (tgt := 1289) hx hb dL_law_1284 (by decide) (fun _ => next _ _ _ _ hH hm.2) (fun hc => absurd hm.1 hc)
