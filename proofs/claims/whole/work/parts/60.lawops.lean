/-! ===== the law ===== -/
theorem lw_arg {p : Program} {l : Launch} {e : Env} {s : State} {m : MethodId} {below : List Frame} {meth : Method} {c : Code} {H : Heap} {locs : List Loc} {cells slots : Nat} {Q : State → Prop} {G : GG} {a0 L k : Nat} {xs : Nat → Int32} {f : Hp} {sz : Nat} {ls : Array Slot} {rest : List Value} {pc jj : Nat} {ji : Int} (hx : p.tables.exec = Jvm.exec) (hb : c.code = cL_law) (hX : va_X a0 L xs s s.heap) (hbl : a0 < s.heap.size) (hL : L ≤ 384) (hH : fx_H G s.heap.size s f sz H locs) (hl : lv_has ls 4 [(0, .ref a0), (1, .ref s.heap.size), (2, .ref (s.heap.size + 84)), (3, .int (nI (6 * k)))]) (hj : 6 * k + jj < L) (hji : Int32.ofInt ji = nI jj) (d0 : decode cL_law pc = .ok (.aload_n 0, 1)) (d1 : decode cL_law (pc + 1) = .ok (.iload_n 3, 1)) (d2 : decode cL_law (pc + 2) = .ok (.iconst ji, 1)) (d3 : decode cL_law (pc + 3) = .ok (.iadd, 1)) (d4 : decode cL_law (pc + 4) = .ok (.iaload, 1))
    (kk : W p l e room_1 s m #[Value.ref a0] below meth c H locs cells slots Q (F0 m (pc + 5) ls (.int (xs (6 * k + jj)) :: rest))) : W p l e room_1 s m #[Value.ref a0] below meth c H locs cells slots Q (F0 m pc ls rest) := by
  refine lv_aload_n hx hb d0 rfl (lv_at hl 0 rfl) ?_
  refine lv_iload_n hx hb d1 rfl (lv_at hl 3 rfl) ?_
  refine lv_iconst (v := nI jj) hx hb d2 hji ?_
  refine lv_iadd hx hb d3 ?_
  refine fx_ti (y := nI (6 * k + jj)) (nI_add _ _) ?_
  refine va_sld (A := fun q => s.heap.size ≤ q) hx hb hX hbl (Nat.not_le.mpr hbl) hH.2.2.2 (vp_in_nI hj (by omega)) d4 ?_
  rw [nI_clamp (by omega)]
  exact kk
set_option maxHeartbeats 4000000 in
set_option maxRecDepth 100000 in
theorem lw_row_at {p : Program} {l : Launch} {e : Env} {s : State} {m : MethodId} {below : List Frame} {meth : Method} {c : Code} {H : Heap} {locs : List Loc} {cells slots : Nat} {Q : State → Prop} {G : GG} {a0 L k : Nat} {xs : Nat → Int32} {f : Hp} {sz : Nat} {ls : Array Slot} (C : fx_C G p s m c cL_law 4 RL) (hX : va_X a0 L xs s s.heap) (hbl : a0 < s.heap.size) (hL : L ≤ 384) (hk : 6 * k + 6 ≤ L) (hR : REL s.heap.size f sz) (hH : fx_H G s.heap.size s f sz H locs) (hl : lv_has ls 4 [(0, .ref a0), (1, .ref s.heap.size), (2, .ref (s.heap.size + 84)), (3, .int (nI (6 * k)))]) (hc : cells + 9 ≤ 600000 ∧ slots + 52 ≤ 7302250) (nx : ∀ (f' : Hp) (sz' : Nat) (H' : Heap) (locs' : List Loc), REL s.heap.size f' sz' → fx_H G s.heap.size s f' sz' H' locs' → W p l e room_1 s m #[Value.ref a0] below meth c H' locs' (cells + 9) (slots + 52) Q (F0 m 1352 ls [])) : W p l e room_1 s m #[Value.ref a0] below meth c H locs cells slots Q (F0 m 196 ls []) := by
  have hx := C.1
  have hb := C.2.1
  obtain ⟨oa, ak, tn, tt, fa, fi, hRp⟩ := id hR
  have hx0 := hRp.1
  refine lv_aload_n hx hb dL_law_196 rfl (lv_at hl 1 rfl) ?_
  refine lw_arg (jj := 1) hx hb hX hbl hL hH hl (by omega) (by decide) dL_law_197 dL_law_198 dL_law_199 dL_law_200 dL_law_201 ?_
  refine lw_arg (jj := 2) hx hb hX hbl hL hH hl (by omega) (by decide) dL_law_202 dL_law_203 dL_law_204 dL_law_205 dL_law_206 ?_
  refine lw_arg (jj := 3) hx hb hX hbl hL hH hl (by omega) (by decide) dL_law_207 dL_law_208 dL_law_209 dL_law_210 dL_law_211 ?_
  refine fx_afterP hH (fx_runVP (q := (RX11, TX11, 11)) C hH hl.1 (As := [.int (xs (6 * k + 1)), .int (xs (6 * k + 2)), .int (xs (6 * k + 3))]) (rest := []) (op_row hR (xs (6 * k + 1)) (xs (6 * k + 2)) (xs (6 * k + 3))) mY_X11_row ml_L_13 im_X11_row se_X11_X11_row hx0 rfl rfl ⟨(Nat.le_of_ble_eq_true rfl), (Nat.le_of_ble_eq_true rfl)⟩ rfl (Nat.le_of_ble_eq_true rfl) ⟨show cells + 0 ≤ 600000 by omega, show slots + 0 ≤ 7302250 by omega⟩ dL_law_212) (fun v1 f1 z1 H locs hPo hH => ?_)
  obtain ⟨a, rfl, ⟨fs, hfs⟩, hM⟩ := hPo
  show W _ _ _ _ _ _ _ _ _ _ _ _ _ _ _ (F0 m 215 ls [.int a])
  refine lv_aload_n hx hb dL_law_215 rfl (lv_at hl 2 rfl) ?_
  refine lw_arg (jj := 1) hx hb hX hbl hL hH hl (by omega) (by decide) dL_law_216 dL_law_217 dL_law_218 dL_law_219 dL_law_220 ?_
  refine lw_arg (jj := 2) hx hb hX hbl hL hH hl (by omega) (by decide) dL_law_221 dL_law_222 dL_law_223 dL_law_224 dL_law_225 ?_
  refine lw_arg (jj := 3) hx hb hX hbl hL hH hl (by omega) (by decide) dL_law_226 dL_law_227 dL_law_228 dL_law_229 dL_law_230 ?_
  refine fx_afterP hH (fx_runVP (q := (RX12, TX12, 26)) C hH hl.1 (As := [.int (xs (6 * k + 1)), .int (xs (6 * k + 2)), .int (xs (6 * k + 3))]) (rest := [.int a]) hM mY_X12_row ml_L_17 im_X12_row se_X12_X12_row hfs rfl rfl ⟨(Nat.le_of_ble_eq_true rfl), (Nat.le_of_ble_eq_true rfl)⟩ rfl (Nat.le_of_ble_eq_true rfl) ⟨show cells + 0 + 0 ≤ 600000 by omega, show slots + 0 + 0 ≤ 7302250 by omega⟩ dL_law_231) (fun v2 f2 z2 H locs hPo hH => ?_)
  obtain ⟨rfl, hR2⟩ := hPo
  show W _ _ _ _ _ _ _ _ _ _ _ _ _ _ _ (F0 m 234 ls [.int a, .int a])
  refine lv_icmp_eq (tgt := 1352) hx hb dL_law_234 (by decide) (fun _ => ?_) (fun q => absurd rfl q)
  exact W.widen (show cells + 0 + 0 ≤ cells + 9 by omega) (show slots + 0 + 0 ≤ slots + 52 by omega) (nx f2 z2 H locs hR2 hH)
set_option maxHeartbeats 4000000 in
set_option maxRecDepth 100000 in
theorem lw_set_at {p : Program} {l : Launch} {e : Env} {s : State} {m : MethodId} {below : List Frame} {meth : Method} {c : Code} {H : Heap} {locs : List Loc} {cells slots : Nat} {Q : State → Prop} {G : GG} {a0 L k : Nat} {xs : Nat → Int32} {f : Hp} {sz : Nat} {ls : Array Slot} (C : fx_C G p s m c cL_law 4 RL) (hX : va_X a0 L xs s s.heap) (hbl : a0 < s.heap.size) (hL : L ≤ 384) (hk : 6 * k + 6 ≤ L) (hR : REL s.heap.size f sz) (hH : fx_H G s.heap.size s f sz H locs) (hl : lv_has ls 4 [(0, .ref a0), (1, .ref s.heap.size), (2, .ref (s.heap.size + 84)), (3, .int (nI (6 * k)))]) (hc : cells + 9 ≤ 600000 ∧ slots + 52 ≤ 7302250) (nx : ∀ (f' : Hp) (sz' : Nat) (H' : Heap) (locs' : List Loc), REL s.heap.size f' sz' → fx_H G s.heap.size s f' sz' H' locs' → W p l e room_1 s m #[Value.ref a0] below meth c H' locs' (cells + 9) (slots + 52) Q (F0 m 1352 ls [])) : W p l e room_1 s m #[Value.ref a0] below meth c H locs cells slots Q (F0 m 239 ls []) := by
  have hx := C.1
  have hb := C.2.1
  obtain ⟨oa, ak, tn, tt, fa, fi, hRp⟩ := id hR
  have hx0 := hRp.1
  refine lv_aload_n hx hb dL_law_239 rfl (lv_at hl 1 rfl) ?_
  refine lw_arg (jj := 1) hx hb hX hbl hL hH hl (by omega) (by decide) dL_law_240 dL_law_241 dL_law_242 dL_law_243 dL_law_244 ?_
  refine lw_arg (jj := 2) hx hb hX hbl hL hH hl (by omega) (by decide) dL_law_245 dL_law_246 dL_law_247 dL_law_248 dL_law_249 ?_
  refine lw_arg (jj := 3) hx hb hX hbl hL hH hl (by omega) (by decide) dL_law_250 dL_law_251 dL_law_252 dL_law_253 dL_law_254 ?_
  refine fx_afterP hH (fx_runVP (q := (RX11, TX11, 11)) C hH hl.1 (As := [.int (xs (6 * k + 1)), .int (xs (6 * k + 2)), .int (xs (6 * k + 3))]) (rest := []) (op_set hR (xs (6 * k + 1)) (xs (6 * k + 2)) (xs (6 * k + 3))) mY_X11_set ml_L_18 im_X11_set se_X11_X11_set hx0 rfl rfl ⟨(Nat.le_of_ble_eq_true rfl), (Nat.le_of_ble_eq_true rfl)⟩ rfl (Nat.le_of_ble_eq_true rfl) ⟨show cells + 0 ≤ 600000 by omega, show slots + 0 ≤ 7302250 by omega⟩ dL_law_255) (fun v1 f1 z1 H locs hPo hH => ?_)
  obtain ⟨a, rfl, ⟨fs, hfs⟩, hM⟩ := hPo
  show W _ _ _ _ _ _ _ _ _ _ _ _ _ _ _ (F0 m 258 ls [.int a])
  refine lv_aload_n hx hb dL_law_258 rfl (lv_at hl 2 rfl) ?_
  refine lw_arg (jj := 1) hx hb hX hbl hL hH hl (by omega) (by decide) dL_law_259 dL_law_260 dL_law_261 dL_law_262 dL_law_263 ?_
  refine lw_arg (jj := 2) hx hb hX hbl hL hH hl (by omega) (by decide) dL_law_264 dL_law_265 dL_law_266 dL_law_267 dL_law_268 ?_
  refine lw_arg (jj := 3) hx hb hX hbl hL hH hl (by omega) (by decide) dL_law_269 dL_law_270 dL_law_271 dL_law_272 dL_law_273 ?_
  refine fx_afterP hH (fx_runVP (q := (RX12, TX12, 26)) C hH hl.1 (As := [.int (xs (6 * k + 1)), .int (xs (6 * k + 2)), .int (xs (6 * k + 3))]) (rest := [.int a]) hM mY_X12_set ml_L_21 im_X12_set se_X12_X12_set hfs rfl rfl ⟨(Nat.le_of_ble_eq_true rfl), (Nat.le_of_ble_eq_true rfl)⟩ rfl (Nat.le_of_ble_eq_true rfl) ⟨show cells + 0 + 0 ≤ 600000 by omega, show slots + 0 + 0 ≤ 7302250 by omega⟩ dL_law_274) (fun v2 f2 z2 H locs hPo hH => ?_)
  obtain ⟨rfl, hR2⟩ := hPo
  show W _ _ _ _ _ _ _ _ _ _ _ _ _ _ _ (F0 m 277 ls [.int a, .int a])
  refine lv_icmp_eq (tgt := 1352) hx hb dL_law_277 (by decide) (fun _ => ?_) (fun q => absurd rfl q)
  exact W.widen (show cells + 0 + 0 ≤ cells + 9 by omega) (show slots + 0 + 0 ≤ slots + 52 by omega) (nx f2 z2 H locs hR2 hH)
set_option maxHeartbeats 4000000 in
set_option maxRecDepth 100000 in
theorem lw_copy_at {p : Program} {l : Launch} {e : Env} {s : State} {m : MethodId} {below : List Frame} {meth : Method} {c : Code} {H : Heap} {locs : List Loc} {cells slots : Nat} {Q : State → Prop} {G : GG} {a0 L k : Nat} {xs : Nat → Int32} {f : Hp} {sz : Nat} {ls : Array Slot} (C : fx_C G p s m c cL_law 4 RL) (hX : va_X a0 L xs s s.heap) (hbl : a0 < s.heap.size) (hL : L ≤ 384) (hk : 6 * k + 6 ≤ L) (hR : REL s.heap.size f sz) (hH : fx_H G s.heap.size s f sz H locs) (hl : lv_has ls 4 [(0, .ref a0), (1, .ref s.heap.size), (2, .ref (s.heap.size + 84)), (3, .int (nI (6 * k)))]) (hc : cells + 9 ≤ 600000 ∧ slots + 52 ≤ 7302250) (nx : ∀ (f' : Hp) (sz' : Nat) (H' : Heap) (locs' : List Loc), REL s.heap.size f' sz' → fx_H G s.heap.size s f' sz' H' locs' → W p l e room_1 s m #[Value.ref a0] below meth c H' locs' (cells + 9) (slots + 52) Q (F0 m 1352 ls [])) : W p l e room_1 s m #[Value.ref a0] below meth c H locs cells slots Q (F0 m 282 ls []) := by
  have hx := C.1
  have hb := C.2.1
  obtain ⟨oa, ak, tn, tt, fa, fi, hRp⟩ := id hR
  have hx0 := hRp.1
  refine lv_aload_n hx hb dL_law_282 rfl (lv_at hl 1 rfl) ?_
  refine lw_arg (jj := 1) hx hb hX hbl hL hH hl (by omega) (by decide) dL_law_283 dL_law_284 dL_law_285 dL_law_286 dL_law_287 ?_
  refine lw_arg (jj := 2) hx hb hX hbl hL hH hl (by omega) (by decide) dL_law_288 dL_law_289 dL_law_290 dL_law_291 dL_law_292 ?_
  refine lw_arg (jj := 3) hx hb hX hbl hL hH hl (by omega) (by decide) dL_law_293 dL_law_294 dL_law_295 dL_law_296 dL_law_297 ?_
  refine lw_arg (jj := 4) hx hb hX hbl hL hH hl (by omega) (by decide) dL_law_298 dL_law_299 dL_law_300 dL_law_301 dL_law_302 ?_
  refine lw_arg (jj := 5) hx hb hX hbl hL hH hl (by omega) (by decide) dL_law_303 dL_law_304 dL_law_305 dL_law_306 dL_law_307 ?_
  refine fx_afterP hH (fx_runVP (q := (RX11, TX11, 11)) C hH hl.1 (As := [.int (xs (6 * k + 1)), .int (xs (6 * k + 2)), .int (xs (6 * k + 3)), .int (xs (6 * k + 4)), .int (xs (6 * k + 5))]) (rest := []) (op_copy hR (xs (6 * k + 1)) (xs (6 * k + 2)) (xs (6 * k + 3)) (xs (6 * k + 4)) (xs (6 * k + 5))) mY_X11_copy ml_L_22 im_X11_copy se_X11_X11_copy hx0 rfl rfl ⟨(Nat.le_of_ble_eq_true rfl), (Nat.le_of_ble_eq_true rfl)⟩ rfl (Nat.le_of_ble_eq_true rfl) ⟨show cells + 0 ≤ 600000 by omega, show slots + 0 ≤ 7302250 by omega⟩ dL_law_308) (fun v1 f1 z1 H locs hPo hH => ?_)
  obtain ⟨a, rfl, ⟨fs, hfs⟩, hM⟩ := hPo
  show W _ _ _ _ _ _ _ _ _ _ _ _ _ _ _ (F0 m 311 ls [.int a])
  refine lv_aload_n hx hb dL_law_311 rfl (lv_at hl 2 rfl) ?_
  refine lw_arg (jj := 1) hx hb hX hbl hL hH hl (by omega) (by decide) dL_law_312 dL_law_313 dL_law_314 dL_law_315 dL_law_316 ?_
  refine lw_arg (jj := 2) hx hb hX hbl hL hH hl (by omega) (by decide) dL_law_317 dL_law_318 dL_law_319 dL_law_320 dL_law_321 ?_
  refine lw_arg (jj := 3) hx hb hX hbl hL hH hl (by omega) (by decide) dL_law_322 dL_law_323 dL_law_324 dL_law_325 dL_law_326 ?_
  refine lw_arg (jj := 4) hx hb hX hbl hL hH hl (by omega) (by decide) dL_law_327 dL_law_328 dL_law_329 dL_law_330 dL_law_331 ?_
  refine lw_arg (jj := 5) hx hb hX hbl hL hH hl (by omega) (by decide) dL_law_332 dL_law_333 dL_law_334 dL_law_335 dL_law_336 ?_
  refine fx_afterP hH (fx_runVP (q := (RX12, TX12, 26)) C hH hl.1 (As := [.int (xs (6 * k + 1)), .int (xs (6 * k + 2)), .int (xs (6 * k + 3)), .int (xs (6 * k + 4)), .int (xs (6 * k + 5))]) (rest := [.int a]) hM mY_X12_copy ml_L_26 im_X12_copy se_X12_X12_copy hfs rfl rfl ⟨(Nat.le_of_ble_eq_true rfl), (Nat.le_of_ble_eq_true rfl)⟩ rfl (Nat.le_of_ble_eq_true rfl) ⟨show cells + 0 + 0 ≤ 600000 by omega, show slots + 0 + 0 ≤ 7302250 by omega⟩ dL_law_337) (fun v2 f2 z2 H locs hPo hH => ?_)
  obtain ⟨rfl, hR2⟩ := hPo
  show W _ _ _ _ _ _ _ _ _ _ _ _ _ _ _ (F0 m 340 ls [.int a, .int a])
  refine lv_icmp_eq (tgt := 1352) hx hb dL_law_340 (by decide) (fun _ => ?_) (fun q => absurd rfl q)
  exact W.widen (show cells + 0 + 0 ≤ cells + 9 by omega) (show slots + 0 + 0 ≤ slots + 52 by omega) (nx f2 z2 H locs hR2 hH)
set_option maxHeartbeats 4000000 in
set_option maxRecDepth 100000 in
theorem lw_drop_at {p : Program} {l : Launch} {e : Env} {s : State} {m : MethodId} {below : List Frame} {meth : Method} {c : Code} {H : Heap} {locs : List Loc} {cells slots : Nat} {Q : State → Prop} {G : GG} {a0 L k : Nat} {xs : Nat → Int32} {f : Hp} {sz : Nat} {ls : Array Slot} (C : fx_C G p s m c cL_law 4 RL) (hX : va_X a0 L xs s s.heap) (hbl : a0 < s.heap.size) (hL : L ≤ 384) (hk : 6 * k + 6 ≤ L) (hR : REL s.heap.size f sz) (hH : fx_H G s.heap.size s f sz H locs) (hl : lv_has ls 4 [(0, .ref a0), (1, .ref s.heap.size), (2, .ref (s.heap.size + 84)), (3, .int (nI (6 * k)))]) (hc : cells + 9 ≤ 600000 ∧ slots + 52 ≤ 7302250) (nx : ∀ (f' : Hp) (sz' : Nat) (H' : Heap) (locs' : List Loc), REL s.heap.size f' sz' → fx_H G s.heap.size s f' sz' H' locs' → W p l e room_1 s m #[Value.ref a0] below meth c H' locs' (cells + 9) (slots + 52) Q (F0 m 1352 ls [])) : W p l e room_1 s m #[Value.ref a0] below meth c H locs cells slots Q (F0 m 345 ls []) := by
  have hx := C.1
  have hb := C.2.1
  obtain ⟨oa, ak, tn, tt, fa, fi, hRp⟩ := id hR
  have hx0 := hRp.1
  refine lv_aload_n hx hb dL_law_345 rfl (lv_at hl 1 rfl) ?_
  refine lw_arg (jj := 1) hx hb hX hbl hL hH hl (by omega) (by decide) dL_law_346 dL_law_347 dL_law_348 dL_law_349 dL_law_350 ?_
  refine fx_afterP hH (fx_runVP (q := (RX11, TX11, 11)) C hH hl.1 (As := [.int (xs (6 * k + 1))]) (rest := []) (op_drop hR (xs (6 * k + 1))) mY_X11_drop ml_L_27 im_X11_drop se_X11_X11_drop hx0 rfl rfl ⟨(Nat.le_of_ble_eq_true rfl), (Nat.le_of_ble_eq_true rfl)⟩ rfl (Nat.le_of_ble_eq_true rfl) ⟨show cells + 0 ≤ 600000 by omega, show slots + 0 ≤ 7302250 by omega⟩ dL_law_351) (fun v1 f1 z1 H locs hPo hH => ?_)
  obtain ⟨a, rfl, ⟨fs, hfs⟩, hM⟩ := hPo
  show W _ _ _ _ _ _ _ _ _ _ _ _ _ _ _ (F0 m 354 ls [.int a])
  refine lv_aload_n hx hb dL_law_354 rfl (lv_at hl 2 rfl) ?_
  refine lw_arg (jj := 1) hx hb hX hbl hL hH hl (by omega) (by decide) dL_law_355 dL_law_356 dL_law_357 dL_law_358 dL_law_359 ?_
  refine fx_afterP hH (fx_runVP (q := (RX12, TX12, 26)) C hH hl.1 (As := [.int (xs (6 * k + 1))]) (rest := [.int a]) hM mY_X12_drop ml_L_31 im_X12_drop se_X12_X12_drop hfs rfl rfl ⟨(Nat.le_of_ble_eq_true rfl), (Nat.le_of_ble_eq_true rfl)⟩ rfl (Nat.le_of_ble_eq_true rfl) ⟨show cells + 0 + 0 ≤ 600000 by omega, show slots + 0 + 0 ≤ 7302250 by omega⟩ dL_law_360) (fun v2 f2 z2 H locs hPo hH => ?_)
  obtain ⟨rfl, hR2⟩ := hPo
  show W _ _ _ _ _ _ _ _ _ _ _ _ _ _ _ (F0 m 363 ls [.int a, .int a])
  refine lv_icmp_eq (tgt := 1352) hx hb dL_law_363 (by decide) (fun _ => ?_) (fun q => absurd rfl q)
  exact W.widen (show cells + 0 + 0 ≤ cells + 9 by omega) (show slots + 0 + 0 ≤ slots + 52 by omega) (nx f2 z2 H locs hR2 hH)
set_option maxHeartbeats 4000000 in
set_option maxRecDepth 100000 in
theorem lw_feed_at {p : Program} {l : Launch} {e : Env} {s : State} {m : MethodId} {below : List Frame} {meth : Method} {c : Code} {H : Heap} {locs : List Loc} {cells slots : Nat} {Q : State → Prop} {G : GG} {a0 L k : Nat} {xs : Nat → Int32} {f : Hp} {sz : Nat} {ls : Array Slot} (C : fx_C G p s m c cL_law 4 RL) (hX : va_X a0 L xs s s.heap) (hbl : a0 < s.heap.size) (hL : L ≤ 384) (hk : 6 * k + 6 ≤ L) (hR : REL s.heap.size f sz) (hH : fx_H G s.heap.size s f sz H locs) (hl : lv_has ls 4 [(0, .ref a0), (1, .ref s.heap.size), (2, .ref (s.heap.size + 84)), (3, .int (nI (6 * k)))]) (hc : cells + 9 ≤ 600000 ∧ slots + 52 ≤ 7302250) (nx : ∀ (f' : Hp) (sz' : Nat) (H' : Heap) (locs' : List Loc), REL s.heap.size f' sz' → fx_H G s.heap.size s f' sz' H' locs' → W p l e room_1 s m #[Value.ref a0] below meth c H' locs' (cells + 9) (slots + 52) Q (F0 m 1352 ls [])) : W p l e room_1 s m #[Value.ref a0] below meth c H locs cells slots Q (F0 m 368 ls []) := by
  have hx := C.1
  have hb := C.2.1
  obtain ⟨oa, ak, tn, tt, fa, fi, hRp⟩ := id hR
  have hx0 := hRp.1
  refine lv_aload_n hx hb dL_law_368 rfl (lv_at hl 1 rfl) ?_
  refine lw_arg (jj := 1) hx hb hX hbl hL hH hl (by omega) (by decide) dL_law_369 dL_law_370 dL_law_371 dL_law_372 dL_law_373 ?_
  refine fx_afterP hH (fx_runVP (q := (RX11, TX11, 11)) C hH hl.1 (As := [.int (xs (6 * k + 1))]) (rest := []) (op_feed hR (xs (6 * k + 1))) mY_X11_feed ml_L_32 im_X11_feed se_X11_X11_feed hx0 rfl rfl ⟨(Nat.le_of_ble_eq_true rfl), (Nat.le_of_ble_eq_true rfl)⟩ rfl (Nat.le_of_ble_eq_true rfl) ⟨show cells + 0 ≤ 600000 by omega, show slots + 0 ≤ 7302250 by omega⟩ dL_law_374) (fun v1 f1 z1 H locs hPo hH => ?_)
  obtain ⟨a, rfl, ⟨fs, hfs⟩, hM⟩ := hPo
  show W _ _ _ _ _ _ _ _ _ _ _ _ _ _ _ (F0 m 377 ls [.int a])
  refine lv_aload_n hx hb dL_law_377 rfl (lv_at hl 2 rfl) ?_
  refine lw_arg (jj := 1) hx hb hX hbl hL hH hl (by omega) (by decide) dL_law_378 dL_law_379 dL_law_380 dL_law_381 dL_law_382 ?_
  refine fx_afterP hH (fx_runVP (q := (RX12, TX12, 26)) C hH hl.1 (As := [.int (xs (6 * k + 1))]) (rest := [.int a]) hM mY_X12_feed ml_L_35 im_X12_feed se_X12_X12_feed hfs rfl rfl ⟨(Nat.le_of_ble_eq_true rfl), (Nat.le_of_ble_eq_true rfl)⟩ rfl (Nat.le_of_ble_eq_true rfl) ⟨show cells + 0 + 0 ≤ 600000 by omega, show slots + 0 + 0 ≤ 7302250 by omega⟩ dL_law_383) (fun v2 f2 z2 H locs hPo hH => ?_)
  obtain ⟨rfl, hR2⟩ := hPo
  show W _ _ _ _ _ _ _ _ _ _ _ _ _ _ _ (F0 m 386 ls [.int a, .int a])
  refine lv_icmp_eq (tgt := 1352) hx hb dL_law_386 (by decide) (fun _ => ?_) (fun q => absurd rfl q)
  exact W.widen (show cells + 0 + 0 ≤ cells + 9 by omega) (show slots + 0 + 0 ≤ slots + 52 by omega) (nx f2 z2 H locs hR2 hH)
set_option maxHeartbeats 4000000 in
set_option maxRecDepth 100000 in
theorem lw_roll_at {p : Program} {l : Launch} {e : Env} {s : State} {m : MethodId} {below : List Frame} {meth : Method} {c : Code} {H : Heap} {locs : List Loc} {cells slots : Nat} {Q : State → Prop} {G : GG} {a0 L k : Nat} {xs : Nat → Int32} {f : Hp} {sz : Nat} {ls : Array Slot} (C : fx_C G p s m c cL_law 4 RL) (hX : va_X a0 L xs s s.heap) (hbl : a0 < s.heap.size) (hL : L ≤ 384) (hk : 6 * k + 6 ≤ L) (hR : REL s.heap.size f sz) (hH : fx_H G s.heap.size s f sz H locs) (hl : lv_has ls 4 [(0, .ref a0), (1, .ref s.heap.size), (2, .ref (s.heap.size + 84)), (3, .int (nI (6 * k)))]) (hc : cells + 9 ≤ 600000 ∧ slots + 52 ≤ 7302250) (nx : ∀ (f' : Hp) (sz' : Nat) (H' : Heap) (locs' : List Loc), REL s.heap.size f' sz' → fx_H G s.heap.size s f' sz' H' locs' → W p l e room_1 s m #[Value.ref a0] below meth c H' locs' (cells + 9) (slots + 52) Q (F0 m 1352 ls [])) : W p l e room_1 s m #[Value.ref a0] below meth c H locs cells slots Q (F0 m 391 ls []) := by
  have hx := C.1
  have hb := C.2.1
  obtain ⟨oa, ak, tn, tt, fa, fi, hRp⟩ := id hR
  have hx0 := hRp.1
  refine lv_aload_n hx hb dL_law_391 rfl (lv_at hl 1 rfl) ?_
  refine fx_afterP hH (fx_runVP (q := (RX11, TX11, 11)) C hH hl.1 (As := []) (rest := []) (op_roll hR (fun a x h => fx_lsz hH h)) mY_X11_roll ml_L_36 im_X11_roll se_X11_X11_roll hx0 rfl rfl ⟨(Nat.le_of_ble_eq_true rfl), (Nat.le_of_ble_eq_true rfl)⟩ rfl (Nat.le_of_ble_eq_true rfl) ⟨show cells + 9 ≤ 600000 by omega, show slots + 52 ≤ 7302250 by omega⟩ dL_law_392) (fun v1 f1 z1 H locs hPo hH => ?_)
  obtain ⟨a, rfl, ⟨fs, hfs⟩, hM⟩ := hPo
  show W _ _ _ _ _ _ _ _ _ _ _ _ _ _ _ (F0 m 395 ls [.int a])
  refine lv_aload_n hx hb dL_law_395 rfl (lv_at hl 2 rfl) ?_
  refine fx_afterP hH (fx_runVP (q := (RX12, TX12, 26)) C hH hl.1 (As := []) (rest := [.int a]) hM mY_X12_roll ml_L_40 im_X12_roll se_X12_X12_roll hfs rfl rfl ⟨(Nat.le_of_ble_eq_true rfl), (Nat.le_of_ble_eq_true rfl)⟩ rfl (Nat.le_of_ble_eq_true rfl) ⟨show cells + 9 + 0 ≤ 600000 by omega, show slots + 52 + 0 ≤ 7302250 by omega⟩ dL_law_396) (fun v2 f2 z2 H locs hPo hH => ?_)
  obtain ⟨rfl, hR2⟩ := hPo
  show W _ _ _ _ _ _ _ _ _ _ _ _ _ _ _ (F0 m 399 ls [.int a, .int a])
  refine lv_icmp_eq (tgt := 1352) hx hb dL_law_399 (by decide) (fun _ => ?_) (fun q => absurd rfl q)
  exact W.widen (show cells + 9 + 0 ≤ cells + 9 by omega) (show slots + 52 + 0 ≤ slots + 52 by omega) (nx f2 z2 H locs hR2 hH)
set_option maxHeartbeats 4000000 in
set_option maxRecDepth 100000 in
theorem lw_fault_at {p : Program} {l : Launch} {e : Env} {s : State} {m : MethodId} {below : List Frame} {meth : Method} {c : Code} {H : Heap} {locs : List Loc} {cells slots : Nat} {Q : State → Prop} {G : GG} {a0 L k : Nat} {xs : Nat → Int32} {f : Hp} {sz : Nat} {ls : Array Slot} (C : fx_C G p s m c cL_law 4 RL) (hX : va_X a0 L xs s s.heap) (hbl : a0 < s.heap.size) (hL : L ≤ 384) (hk : 6 * k + 6 ≤ L) (hR : REL s.heap.size f sz) (hH : fx_H G s.heap.size s f sz H locs) (hl : lv_has ls 4 [(0, .ref a0), (1, .ref s.heap.size), (2, .ref (s.heap.size + 84)), (3, .int (nI (6 * k)))]) (hc : cells + 9 ≤ 600000 ∧ slots + 52 ≤ 7302250) (nx : ∀ (f' : Hp) (sz' : Nat) (H' : Heap) (locs' : List Loc), REL s.heap.size f' sz' → fx_H G s.heap.size s f' sz' H' locs' → W p l e room_1 s m #[Value.ref a0] below meth c H' locs' (cells + 9) (slots + 52) Q (F0 m 1352 ls [])) : W p l e room_1 s m #[Value.ref a0] below meth c H locs cells slots Q (F0 m 404 ls []) := by
  have hx := C.1
  have hb := C.2.1
  obtain ⟨oa, ak, tn, tt, fa, fi, hRp⟩ := id hR
  have hx0 := hRp.1
  refine lv_aload_n hx hb dL_law_404 rfl (lv_at hl 1 rfl) ?_
  refine fx_afterP hH (fx_runVP (q := (RX11, TX11, 11)) C hH hl.1 (As := []) (rest := []) (op_fault hR) mY_X11_fault ml_L_41 im_X11_fault se_X11_X11_fault hx0 rfl rfl ⟨(Nat.le_of_ble_eq_true rfl), (Nat.le_of_ble_eq_true rfl)⟩ rfl (Nat.le_of_ble_eq_true rfl) ⟨show cells + 0 ≤ 600000 by omega, show slots + 0 ≤ 7302250 by omega⟩ dL_law_405) (fun v1 f1 z1 H locs hPo hH => ?_)
  obtain ⟨a, rfl, ⟨fs, hfs⟩, hM⟩ := hPo
  show W _ _ _ _ _ _ _ _ _ _ _ _ _ _ _ (F0 m 408 ls [.int a])
  refine lv_aload_n hx hb dL_law_408 rfl (lv_at hl 2 rfl) ?_
  refine fx_afterP hH (fx_runVP (q := (RX12, TX12, 26)) C hH hl.1 (As := []) (rest := [.int a]) hM mY_X12_fault ml_L_44 im_X12_fault se_X12_X12_fault hfs rfl rfl ⟨(Nat.le_of_ble_eq_true rfl), (Nat.le_of_ble_eq_true rfl)⟩ rfl (Nat.le_of_ble_eq_true rfl) ⟨show cells + 0 + 0 ≤ 600000 by omega, show slots + 0 + 0 ≤ 7302250 by omega⟩ dL_law_409) (fun v2 f2 z2 H locs hPo hH => ?_)
  obtain ⟨rfl, hR2⟩ := hPo
  show W _ _ _ _ _ _ _ _ _ _ _ _ _ _ _ (F0 m 412 ls [.int a, .int a])
  refine lv_icmp_eq (tgt := 1352) hx hb dL_law_412 (by decide) (fun _ => ?_) (fun q => absurd rfl q)
  exact W.widen (show cells + 0 + 0 ≤ cells + 9 by omega) (show slots + 0 + 0 ≤ slots + 52 by omega) (nx f2 z2 H locs hR2 hH)
set_option maxHeartbeats 4000000 in
set_option maxRecDepth 100000 in
theorem lw_undo_at {p : Program} {l : Launch} {e : Env} {s : State} {m : MethodId} {below : List Frame} {meth : Method} {c : Code} {H : Heap} {locs : List Loc} {cells slots : Nat} {Q : State → Prop} {G : GG} {a0 L k : Nat} {xs : Nat → Int32} {f : Hp} {sz : Nat} {ls : Array Slot} (C : fx_C G p s m c cL_law 4 RL) (hX : va_X a0 L xs s s.heap) (hbl : a0 < s.heap.size) (hL : L ≤ 384) (hk : 6 * k + 6 ≤ L) (hR : REL s.heap.size f sz) (hH : fx_H G s.heap.size s f sz H locs) (hl : lv_has ls 4 [(0, .ref a0), (1, .ref s.heap.size), (2, .ref (s.heap.size + 84)), (3, .int (nI (6 * k)))]) (hc : cells + 9 ≤ 600000 ∧ slots + 52 ≤ 7302250) (nx : ∀ (f' : Hp) (sz' : Nat) (H' : Heap) (locs' : List Loc), REL s.heap.size f' sz' → fx_H G s.heap.size s f' sz' H' locs' → W p l e room_1 s m #[Value.ref a0] below meth c H' locs' (cells + 9) (slots + 52) Q (F0 m 1352 ls [])) : W p l e room_1 s m #[Value.ref a0] below meth c H locs cells slots Q (F0 m 417 ls []) := by
  have hx := C.1
  have hb := C.2.1
  obtain ⟨oa, ak, tn, tt, fa, fi, hRp⟩ := id hR
  have hx0 := hRp.1
  refine lv_aload_n hx hb dL_law_417 rfl (lv_at hl 1 rfl) ?_
  refine fx_afterP hH (fx_runVP (q := (RX11, TX11, 11)) C hH hl.1 (As := []) (rest := []) (op_undo hR) mY_X11_undo ml_L_45 im_X11_undo se_X11_X11_undo hx0 rfl rfl ⟨(Nat.le_of_ble_eq_true rfl), (Nat.le_of_ble_eq_true rfl)⟩ rfl (Nat.le_of_ble_eq_true rfl) ⟨show cells + 0 ≤ 600000 by omega, show slots + 0 ≤ 7302250 by omega⟩ dL_law_418) (fun v1 f1 z1 H locs hPo hH => ?_)
  obtain ⟨a, rfl, ⟨fs, hfs⟩, hM⟩ := hPo
  show W _ _ _ _ _ _ _ _ _ _ _ _ _ _ _ (F0 m 421 ls [.int a])
  refine lv_aload_n hx hb dL_law_421 rfl (lv_at hl 2 rfl) ?_
  refine fx_afterP hH (fx_runVP (q := (RX12, TX12, 26)) C hH hl.1 (As := []) (rest := [.int a]) hM mY_X12_undo ml_L_48 im_X12_undo se_X12_X12_undo hfs rfl rfl ⟨(Nat.le_of_ble_eq_true rfl), (Nat.le_of_ble_eq_true rfl)⟩ rfl (Nat.le_of_ble_eq_true rfl) ⟨show cells + 0 + 0 ≤ 600000 by omega, show slots + 0 + 0 ≤ 7302250 by omega⟩ dL_law_422) (fun v2 f2 z2 H locs hPo hH => ?_)
  obtain ⟨rfl, hR2⟩ := hPo
  show W _ _ _ _ _ _ _ _ _ _ _ _ _ _ _ (F0 m 425 ls [.int a, .int a])
  refine lv_icmp_eq (tgt := 1352) hx hb dL_law_425 (by decide) (fun _ => ?_) (fun q => absurd rfl q)
  exact W.widen (show cells + 0 + 0 ≤ cells + 9 by omega) (show slots + 0 + 0 ≤ slots + 52 by omega) (nx f2 z2 H locs hR2 hH)
set_option maxHeartbeats 4000000 in
set_option maxRecDepth 100000 in
theorem lw_touch_at {p : Program} {l : Launch} {e : Env} {s : State} {m : MethodId} {below : List Frame} {meth : Method} {c : Code} {H : Heap} {locs : List Loc} {cells slots : Nat} {Q : State → Prop} {G : GG} {a0 L k : Nat} {xs : Nat → Int32} {f : Hp} {sz : Nat} {ls : Array Slot} (C : fx_C G p s m c cL_law 4 RL) (hX : va_X a0 L xs s s.heap) (hbl : a0 < s.heap.size) (hL : L ≤ 384) (hk : 6 * k + 6 ≤ L) (hR : REL s.heap.size f sz) (hH : fx_H G s.heap.size s f sz H locs) (hl : lv_has ls 4 [(0, .ref a0), (1, .ref s.heap.size), (2, .ref (s.heap.size + 84)), (3, .int (nI (6 * k)))]) (hc : cells + 9 ≤ 600000 ∧ slots + 52 ≤ 7302250) (nx : ∀ (f' : Hp) (sz' : Nat) (H' : Heap) (locs' : List Loc), REL s.heap.size f' sz' → fx_H G s.heap.size s f' sz' H' locs' → W p l e room_1 s m #[Value.ref a0] below meth c H' locs' (cells + 9) (slots + 52) Q (F0 m 1352 ls [])) : W p l e room_1 s m #[Value.ref a0] below meth c H locs cells slots Q (F0 m 430 ls []) := by
  have hx := C.1
  have hb := C.2.1
  obtain ⟨oa, ak, tn, tt, fa, fi, hRp⟩ := id hR
  have hx0 := hRp.1
  refine lv_aload_n hx hb dL_law_430 rfl (lv_at hl 1 rfl) ?_
  refine lw_arg (jj := 1) hx hb hX hbl hL hH hl (by omega) (by decide) dL_law_431 dL_law_432 dL_law_433 dL_law_434 dL_law_435 ?_
  refine lw_arg (jj := 2) hx hb hX hbl hL hH hl (by omega) (by decide) dL_law_436 dL_law_437 dL_law_438 dL_law_439 dL_law_440 ?_
  refine fx_afterP hH (fx_runVP (q := (RX11, TX11, 11)) C hH hl.1 (As := [.int (xs (6 * k + 1)), .int (xs (6 * k + 2))]) (rest := []) (op_touch hR (xs (6 * k + 1)) (xs (6 * k + 2))) mY_X11_touch ml_L_49 im_X11_touch se_X11_X11_touch hx0 rfl rfl ⟨(Nat.le_of_ble_eq_true rfl), (Nat.le_of_ble_eq_true rfl)⟩ rfl (Nat.le_of_ble_eq_true rfl) ⟨show cells + 0 ≤ 600000 by omega, show slots + 0 ≤ 7302250 by omega⟩ dL_law_441) (fun v1 f1 z1 H locs hPo hH => ?_)
  obtain ⟨a, rfl, ⟨fs, hfs⟩, hM⟩ := hPo
  show W _ _ _ _ _ _ _ _ _ _ _ _ _ _ _ (F0 m 444 ls [.int a])
  refine lv_aload_n hx hb dL_law_444 rfl (lv_at hl 2 rfl) ?_
  refine lw_arg (jj := 1) hx hb hX hbl hL hH hl (by omega) (by decide) dL_law_445 dL_law_446 dL_law_447 dL_law_448 dL_law_449 ?_
  refine lw_arg (jj := 2) hx hb hX hbl hL hH hl (by omega) (by decide) dL_law_450 dL_law_451 dL_law_452 dL_law_453 dL_law_454 ?_
  refine fx_afterP hH (fx_runVP (q := (RX12, TX12, 26)) C hH hl.1 (As := [.int (xs (6 * k + 1)), .int (xs (6 * k + 2))]) (rest := [.int a]) hM mY_X12_touch ml_L_53 im_X12_touch se_X12_X12_touch hfs rfl rfl ⟨(Nat.le_of_ble_eq_true rfl), (Nat.le_of_ble_eq_true rfl)⟩ rfl (Nat.le_of_ble_eq_true rfl) ⟨show cells + 0 + 0 ≤ 600000 by omega, show slots + 0 + 0 ≤ 7302250 by omega⟩ dL_law_455) (fun v2 f2 z2 H locs hPo hH => ?_)
  obtain ⟨rfl, hR2⟩ := hPo
  show W _ _ _ _ _ _ _ _ _ _ _ _ _ _ _ (F0 m 458 ls [.int a, .int a])
  refine lv_icmp_eq (tgt := 1352) hx hb dL_law_458 (by decide) (fun _ => ?_) (fun q => absurd rfl q)
  exact W.widen (show cells + 0 + 0 ≤ cells + 9 by omega) (show slots + 0 + 0 ≤ slots + 52 by omega) (nx f2 z2 H locs hR2 hH)
set_option maxHeartbeats 4000000 in
set_option maxRecDepth 100000 in
theorem lw_go_at {p : Program} {l : Launch} {e : Env} {s : State} {m : MethodId} {below : List Frame} {meth : Method} {c : Code} {H : Heap} {locs : List Loc} {cells slots : Nat} {Q : State → Prop} {G : GG} {a0 L k : Nat} {xs : Nat → Int32} {f : Hp} {sz : Nat} {ls : Array Slot} (C : fx_C G p s m c cL_law 4 RL) (hX : va_X a0 L xs s s.heap) (hbl : a0 < s.heap.size) (hL : L ≤ 384) (hk : 6 * k + 6 ≤ L) (hR : REL s.heap.size f sz) (hH : fx_H G s.heap.size s f sz H locs) (hl : lv_has ls 4 [(0, .ref a0), (1, .ref s.heap.size), (2, .ref (s.heap.size + 84)), (3, .int (nI (6 * k)))]) (hc : cells + 9 ≤ 600000 ∧ slots + 52 ≤ 7302250) (nx : ∀ (f' : Hp) (sz' : Nat) (H' : Heap) (locs' : List Loc), REL s.heap.size f' sz' → fx_H G s.heap.size s f' sz' H' locs' → W p l e room_1 s m #[Value.ref a0] below meth c H' locs' (cells + 9) (slots + 52) Q (F0 m 1352 ls [])) : W p l e room_1 s m #[Value.ref a0] below meth c H locs cells slots Q (F0 m 463 ls []) := by
  have hx := C.1
  have hb := C.2.1
  obtain ⟨oa, ak, tn, tt, fa, fi, hRp⟩ := id hR
  have hx0 := hRp.1
  refine lv_aload_n hx hb dL_law_463 rfl (lv_at hl 1 rfl) ?_
  refine lw_arg (jj := 1) hx hb hX hbl hL hH hl (by omega) (by decide) dL_law_464 dL_law_465 dL_law_466 dL_law_467 dL_law_468 ?_
  refine fx_afterP hH (fx_runVP (q := (RX11, TX11, 11)) C hH hl.1 (As := [.int (xs (6 * k + 1))]) (rest := []) (op_go hR (xs (6 * k + 1))) mY_X11_go ml_L_54 im_X11_go se_X11_X11_go hx0 rfl rfl ⟨(Nat.le_of_ble_eq_true rfl), (Nat.le_of_ble_eq_true rfl)⟩ rfl (Nat.le_of_ble_eq_true rfl) ⟨show cells + 0 ≤ 600000 by omega, show slots + 0 ≤ 7302250 by omega⟩ dL_law_469) (fun v1 f1 z1 H locs hPo hH => ?_)
  obtain ⟨a, rfl, ⟨fs, hfs⟩, hM⟩ := hPo
  show W _ _ _ _ _ _ _ _ _ _ _ _ _ _ _ (F0 m 472 ls [.int a])
  refine lv_aload_n hx hb dL_law_472 rfl (lv_at hl 2 rfl) ?_
  refine lw_arg (jj := 1) hx hb hX hbl hL hH hl (by omega) (by decide) dL_law_473 dL_law_474 dL_law_475 dL_law_476 dL_law_477 ?_
  refine fx_afterP hH (fx_runVP (q := (RX12, TX12, 26)) C hH hl.1 (As := [.int (xs (6 * k + 1))]) (rest := [.int a]) hM mY_X12_go ml_L_57 im_X12_go se_X12_X12_go hfs rfl rfl ⟨(Nat.le_of_ble_eq_true rfl), (Nat.le_of_ble_eq_true rfl)⟩ rfl (Nat.le_of_ble_eq_true rfl) ⟨show cells + 0 + 0 ≤ 600000 by omega, show slots + 0 + 0 ≤ 7302250 by omega⟩ dL_law_478) (fun v2 f2 z2 H locs hPo hH => ?_)
  obtain ⟨rfl, hR2⟩ := hPo
  show W _ _ _ _ _ _ _ _ _ _ _ _ _ _ _ (F0 m 481 ls [.int a, .int a])
  refine lv_icmp_eq (tgt := 1352) hx hb dL_law_481 (by decide) (fun _ => ?_) (fun q => absurd rfl q)
  exact W.widen (show cells + 0 + 0 ≤ cells + 9 by omega) (show slots + 0 + 0 ≤ slots + 52 by omega) (nx f2 z2 H locs hR2 hH)
set_option maxHeartbeats 4000000 in
set_option maxRecDepth 100000 in
theorem lw_over_at {p : Program} {l : Launch} {e : Env} {s : State} {m : MethodId} {below : List Frame} {meth : Method} {c : Code} {H : Heap} {locs : List Loc} {cells slots : Nat} {Q : State → Prop} {G : GG} {a0 L k : Nat} {xs : Nat → Int32} {f : Hp} {sz : Nat} {ls : Array Slot} (C : fx_C G p s m c cL_law 4 RL) (hX : va_X a0 L xs s s.heap) (hbl : a0 < s.heap.size) (hL : L ≤ 384) (hk : 6 * k + 6 ≤ L) (hR : REL s.heap.size f sz) (hH : fx_H G s.heap.size s f sz H locs) (hl : lv_has ls 4 [(0, .ref a0), (1, .ref s.heap.size), (2, .ref (s.heap.size + 84)), (3, .int (nI (6 * k)))]) (hc : cells + 9 ≤ 600000 ∧ slots + 52 ≤ 7302250) (nx : ∀ (f' : Hp) (sz' : Nat) (H' : Heap) (locs' : List Loc), REL s.heap.size f' sz' → fx_H G s.heap.size s f' sz' H' locs' → W p l e room_1 s m #[Value.ref a0] below meth c H' locs' (cells + 9) (slots + 52) Q (F0 m 1352 ls [])) : W p l e room_1 s m #[Value.ref a0] below meth c H locs cells slots Q (F0 m 486 ls []) := by
  have hx := C.1
  have hb := C.2.1
  obtain ⟨oa, ak, tn, tt, fa, fi, hRp⟩ := id hR
  have hx0 := hRp.1
  refine lv_aload_n hx hb dL_law_486 rfl (lv_at hl 1 rfl) ?_
  refine fx_afterP hH (fx_runVP (q := (RX11, TX11, 11)) C hH hl.1 (As := []) (rest := []) (op_over hR) mY_X11_over ml_L_58 im_X11_over se_X11_X11_over hx0 rfl rfl ⟨(Nat.le_of_ble_eq_true rfl), (Nat.le_of_ble_eq_true rfl)⟩ rfl (Nat.le_of_ble_eq_true rfl) ⟨show cells + 0 ≤ 600000 by omega, show slots + 0 ≤ 7302250 by omega⟩ dL_law_487) (fun v1 f1 z1 H locs hPo hH => ?_)
  obtain ⟨a, rfl, ⟨fs, hfs⟩, hM⟩ := hPo
  show W _ _ _ _ _ _ _ _ _ _ _ _ _ _ _ (F0 m 490 ls [.int a])
  refine lv_aload_n hx hb dL_law_490 rfl (lv_at hl 2 rfl) ?_
  refine fx_afterP hH (fx_runVP (q := (RX12, TX12, 26)) C hH hl.1 (As := []) (rest := [.int a]) hM mY_X12_over ml_L_61 im_X12_over se_X12_X12_over hfs rfl rfl ⟨(Nat.le_of_ble_eq_true rfl), (Nat.le_of_ble_eq_true rfl)⟩ rfl (Nat.le_of_ble_eq_true rfl) ⟨show cells + 0 + 0 ≤ 600000 by omega, show slots + 0 + 0 ≤ 7302250 by omega⟩ dL_law_491) (fun v2 f2 z2 H locs hPo hH => ?_)
  obtain ⟨rfl, hR2⟩ := hPo
  show W _ _ _ _ _ _ _ _ _ _ _ _ _ _ _ (F0 m 494 ls [.int a, .int a])
  refine lv_icmp_eq (tgt := 1352) hx hb dL_law_494 (by decide) (fun _ => ?_) (fun q => absurd rfl q)
  exact W.widen (show cells + 0 + 0 ≤ cells + 9 by omega) (show slots + 0 + 0 ≤ slots + 52 by omega) (nx f2 z2 H locs hR2 hH)
set_option maxHeartbeats 4000000 in
set_option maxRecDepth 100000 in
theorem lw_seek_at {p : Program} {l : Launch} {e : Env} {s : State} {m : MethodId} {below : List Frame} {meth : Method} {c : Code} {H : Heap} {locs : List Loc} {cells slots : Nat} {Q : State → Prop} {G : GG} {a0 L k : Nat} {xs : Nat → Int32} {f : Hp} {sz : Nat} {ls : Array Slot} (C : fx_C G p s m c cL_law 4 RL) (hX : va_X a0 L xs s s.heap) (hbl : a0 < s.heap.size) (hL : L ≤ 384) (hk : 6 * k + 6 ≤ L) (hR : REL s.heap.size f sz) (hH : fx_H G s.heap.size s f sz H locs) (hl : lv_has ls 4 [(0, .ref a0), (1, .ref s.heap.size), (2, .ref (s.heap.size + 84)), (3, .int (nI (6 * k)))]) (hc : cells + 9 ≤ 600000 ∧ slots + 52 ≤ 7302250) (nx : ∀ (f' : Hp) (sz' : Nat) (H' : Heap) (locs' : List Loc), REL s.heap.size f' sz' → fx_H G s.heap.size s f' sz' H' locs' → W p l e room_1 s m #[Value.ref a0] below meth c H' locs' (cells + 9) (slots + 52) Q (F0 m 1352 ls [])) : W p l e room_1 s m #[Value.ref a0] below meth c H locs cells slots Q (F0 m 499 ls []) := by
  have hx := C.1
  have hb := C.2.1
  obtain ⟨oa, ak, tn, tt, fa, fi, hRp⟩ := id hR
  have hx0 := hRp.1
  refine lv_aload_n hx hb dL_law_499 rfl (lv_at hl 1 rfl) ?_
  refine lw_arg (jj := 1) hx hb hX hbl hL hH hl (by omega) (by decide) dL_law_500 dL_law_501 dL_law_502 dL_law_503 dL_law_504 ?_
  refine fx_afterP hH (fx_runVP (q := (RX11, TX11, 11)) C hH hl.1 (As := [.int (xs (6 * k + 1))]) (rest := []) (op_seek hR (xs (6 * k + 1))) mY_X11_seek ml_L_62 im_X11_seek se_X11_X11_seek hx0 rfl rfl ⟨(Nat.le_of_ble_eq_true rfl), (Nat.le_of_ble_eq_true rfl)⟩ rfl (Nat.le_of_ble_eq_true rfl) ⟨show cells + 0 ≤ 600000 by omega, show slots + 0 ≤ 7302250 by omega⟩ dL_law_505) (fun v1 f1 z1 H locs hPo hH => ?_)
  obtain ⟨a, rfl, ⟨fs, hfs⟩, hM⟩ := hPo
  show W _ _ _ _ _ _ _ _ _ _ _ _ _ _ _ (F0 m 508 ls [.int a])
  refine lv_aload_n hx hb dL_law_508 rfl (lv_at hl 2 rfl) ?_
  refine lw_arg (jj := 1) hx hb hX hbl hL hH hl (by omega) (by decide) dL_law_509 dL_law_510 dL_law_511 dL_law_512 dL_law_513 ?_
  refine fx_afterP hH (fx_runVP (q := (RX12, TX12, 26)) C hH hl.1 (As := [.int (xs (6 * k + 1))]) (rest := [.int a]) hM mY_X12_seek ml_L_65 im_X12_seek se_X12_X12_seek hfs rfl rfl ⟨(Nat.le_of_ble_eq_true rfl), (Nat.le_of_ble_eq_true rfl)⟩ rfl (Nat.le_of_ble_eq_true rfl) ⟨show cells + 0 + 0 ≤ 600000 by omega, show slots + 0 + 0 ≤ 7302250 by omega⟩ dL_law_514) (fun v2 f2 z2 H locs hPo hH => ?_)
  obtain ⟨rfl, hR2⟩ := hPo
  show W _ _ _ _ _ _ _ _ _ _ _ _ _ _ _ (F0 m 517 ls [.int a, .int a])
  refine lv_icmp_eq (tgt := 1352) hx hb dL_law_517 (by decide) (fun _ => ?_) (fun q => absurd rfl q)
  exact W.widen (show cells + 0 + 0 ≤ cells + 9 by omega) (show slots + 0 + 0 ≤ slots + 52 by omega) (nx f2 z2 H locs hR2 hH)
set_option maxHeartbeats 4000000 in
set_option maxRecDepth 100000 in
theorem lw_fold_at {p : Program} {l : Launch} {e : Env} {s : State} {m : MethodId} {below : List Frame} {meth : Method} {c : Code} {H : Heap} {locs : List Loc} {cells slots : Nat} {Q : State → Prop} {G : GG} {a0 L k : Nat} {xs : Nat → Int32} {f : Hp} {sz : Nat} {ls : Array Slot} (C : fx_C G p s m c cL_law 4 RL) (hX : va_X a0 L xs s s.heap) (hbl : a0 < s.heap.size) (hL : L ≤ 384) (hk : 6 * k + 6 ≤ L) (hR : REL s.heap.size f sz) (hH : fx_H G s.heap.size s f sz H locs) (hl : lv_has ls 4 [(0, .ref a0), (1, .ref s.heap.size), (2, .ref (s.heap.size + 84)), (3, .int (nI (6 * k)))]) (hc : cells + 9 ≤ 600000 ∧ slots + 52 ≤ 7302250) (nx : ∀ (f' : Hp) (sz' : Nat) (H' : Heap) (locs' : List Loc), REL s.heap.size f' sz' → fx_H G s.heap.size s f' sz' H' locs' → W p l e room_1 s m #[Value.ref a0] below meth c H' locs' (cells + 9) (slots + 52) Q (F0 m 1352 ls [])) : W p l e room_1 s m #[Value.ref a0] below meth c H locs cells slots Q (F0 m 522 ls []) := by
  have hx := C.1
  have hb := C.2.1
  obtain ⟨oa, ak, tn, tt, fa, fi, hRp⟩ := id hR
  have hx0 := hRp.1
  refine lv_aload_n hx hb dL_law_522 rfl (lv_at hl 1 rfl) ?_
  refine lw_arg (jj := 1) hx hb hX hbl hL hH hl (by omega) (by decide) dL_law_523 dL_law_524 dL_law_525 dL_law_526 dL_law_527 ?_
  refine fx_afterP hH (fx_runVP (q := (RX11, TX11, 11)) C hH hl.1 (As := [.int (xs (6 * k + 1))]) (rest := []) (op_fold hR (xs (6 * k + 1))) mY_X11_fold ml_L_66 im_X11_fold se_X11_X11_fold hx0 rfl rfl ⟨(Nat.le_of_ble_eq_true rfl), (Nat.le_of_ble_eq_true rfl)⟩ rfl (Nat.le_of_ble_eq_true rfl) ⟨show cells + 0 ≤ 600000 by omega, show slots + 0 ≤ 7302250 by omega⟩ dL_law_528) (fun v1 f1 z1 H locs hPo hH => ?_)
  obtain ⟨a, rfl, ⟨fs, hfs⟩, hM⟩ := hPo
  show W _ _ _ _ _ _ _ _ _ _ _ _ _ _ _ (F0 m 531 ls [.int a])
  refine lv_aload_n hx hb dL_law_531 rfl (lv_at hl 2 rfl) ?_
  refine lw_arg (jj := 1) hx hb hX hbl hL hH hl (by omega) (by decide) dL_law_532 dL_law_533 dL_law_534 dL_law_535 dL_law_536 ?_
  refine fx_afterP hH (fx_runVP (q := (RX12, TX12, 26)) C hH hl.1 (As := [.int (xs (6 * k + 1))]) (rest := [.int a]) hM mY_X12_fold ml_L_69 im_X12_fold se_X12_X12_fold hfs rfl rfl ⟨(Nat.le_of_ble_eq_true rfl), (Nat.le_of_ble_eq_true rfl)⟩ rfl (Nat.le_of_ble_eq_true rfl) ⟨show cells + 0 + 0 ≤ 600000 by omega, show slots + 0 + 0 ≤ 7302250 by omega⟩ dL_law_537) (fun v2 f2 z2 H locs hPo hH => ?_)
  obtain ⟨rfl, hR2⟩ := hPo
  show W _ _ _ _ _ _ _ _ _ _ _ _ _ _ _ (F0 m 540 ls [.int a, .int a])
  refine lv_icmp_eq (tgt := 1352) hx hb dL_law_540 (by decide) (fun _ => ?_) (fun q => absurd rfl q)
  exact W.widen (show cells + 0 + 0 ≤ cells + 9 by omega) (show slots + 0 + 0 ≤ slots + 52 by omega) (nx f2 z2 H locs hR2 hH)
set_option maxHeartbeats 4000000 in
set_option maxRecDepth 100000 in
theorem lw_nail_at {p : Program} {l : Launch} {e : Env} {s : State} {m : MethodId} {below : List Frame} {meth : Method} {c : Code} {H : Heap} {locs : List Loc} {cells slots : Nat} {Q : State → Prop} {G : GG} {a0 L k : Nat} {xs : Nat → Int32} {f : Hp} {sz : Nat} {ls : Array Slot} (C : fx_C G p s m c cL_law 4 RL) (hX : va_X a0 L xs s s.heap) (hbl : a0 < s.heap.size) (hL : L ≤ 384) (hk : 6 * k + 6 ≤ L) (hR : REL s.heap.size f sz) (hH : fx_H G s.heap.size s f sz H locs) (hl : lv_has ls 4 [(0, .ref a0), (1, .ref s.heap.size), (2, .ref (s.heap.size + 84)), (3, .int (nI (6 * k)))]) (hc : cells + 9 ≤ 600000 ∧ slots + 52 ≤ 7302250) (nx : ∀ (f' : Hp) (sz' : Nat) (H' : Heap) (locs' : List Loc), REL s.heap.size f' sz' → fx_H G s.heap.size s f' sz' H' locs' → W p l e room_1 s m #[Value.ref a0] below meth c H' locs' (cells + 9) (slots + 52) Q (F0 m 1352 ls [])) : W p l e room_1 s m #[Value.ref a0] below meth c H locs cells slots Q (F0 m 545 ls []) := by
  have hx := C.1
  have hb := C.2.1
  obtain ⟨oa, ak, tn, tt, fa, fi, hRp⟩ := id hR
  have hx0 := hRp.1
  refine lv_aload_n hx hb dL_law_545 rfl (lv_at hl 1 rfl) ?_
  refine lw_arg (jj := 1) hx hb hX hbl hL hH hl (by omega) (by decide) dL_law_546 dL_law_547 dL_law_548 dL_law_549 dL_law_550 ?_
  refine fx_afterP hH (fx_runVP (q := (RX11, TX11, 11)) C hH hl.1 (As := [.int (xs (6 * k + 1))]) (rest := []) (op_nail hR (xs (6 * k + 1))) mY_X11_nail ml_L_70 im_X11_nail se_X11_X11_nail hx0 rfl rfl ⟨(Nat.le_of_ble_eq_true rfl), (Nat.le_of_ble_eq_true rfl)⟩ rfl (Nat.le_of_ble_eq_true rfl) ⟨show cells + 0 ≤ 600000 by omega, show slots + 0 ≤ 7302250 by omega⟩ dL_law_551) (fun v1 f1 z1 H locs hPo hH => ?_)
  obtain ⟨a, rfl, ⟨fs, hfs⟩, hM⟩ := hPo
  show W _ _ _ _ _ _ _ _ _ _ _ _ _ _ _ (F0 m 554 ls [.int a])
  refine lv_aload_n hx hb dL_law_554 rfl (lv_at hl 2 rfl) ?_
  refine lw_arg (jj := 1) hx hb hX hbl hL hH hl (by omega) (by decide) dL_law_555 dL_law_556 dL_law_557 dL_law_558 dL_law_559 ?_
  refine fx_afterP hH (fx_runVP (q := (RX12, TX12, 26)) C hH hl.1 (As := [.int (xs (6 * k + 1))]) (rest := [.int a]) hM mY_X12_nail ml_L_73 im_X12_nail se_X12_X12_nail hfs rfl rfl ⟨(Nat.le_of_ble_eq_true rfl), (Nat.le_of_ble_eq_true rfl)⟩ rfl (Nat.le_of_ble_eq_true rfl) ⟨show cells + 0 + 0 ≤ 600000 by omega, show slots + 0 + 0 ≤ 7302250 by omega⟩ dL_law_560) (fun v2 f2 z2 H locs hPo hH => ?_)
  obtain ⟨rfl, hR2⟩ := hPo
  show W _ _ _ _ _ _ _ _ _ _ _ _ _ _ _ (F0 m 563 ls [.int a, .int a])
  refine lv_icmp_eq (tgt := 1352) hx hb dL_law_563 (by decide) (fun _ => ?_) (fun q => absurd rfl q)
  exact W.widen (show cells + 0 + 0 ≤ cells + 9 by omega) (show slots + 0 + 0 ≤ slots + 52 by omega) (nx f2 z2 H locs hR2 hH)
set_option maxHeartbeats 4000000 in
set_option maxRecDepth 100000 in
theorem lw_place_at {p : Program} {l : Launch} {e : Env} {s : State} {m : MethodId} {below : List Frame} {meth : Method} {c : Code} {H : Heap} {locs : List Loc} {cells slots : Nat} {Q : State → Prop} {G : GG} {a0 L k : Nat} {xs : Nat → Int32} {f : Hp} {sz : Nat} {ls : Array Slot} (C : fx_C G p s m c cL_law 4 RL) (hX : va_X a0 L xs s s.heap) (hbl : a0 < s.heap.size) (hL : L ≤ 384) (hk : 6 * k + 6 ≤ L) (hR : REL s.heap.size f sz) (hH : fx_H G s.heap.size s f sz H locs) (hl : lv_has ls 4 [(0, .ref a0), (1, .ref s.heap.size), (2, .ref (s.heap.size + 84)), (3, .int (nI (6 * k)))]) (hc : cells + 9 ≤ 600000 ∧ slots + 52 ≤ 7302250) (nx : ∀ (f' : Hp) (sz' : Nat) (H' : Heap) (locs' : List Loc), REL s.heap.size f' sz' → fx_H G s.heap.size s f' sz' H' locs' → W p l e room_1 s m #[Value.ref a0] below meth c H' locs' (cells + 9) (slots + 52) Q (F0 m 1352 ls [])) : W p l e room_1 s m #[Value.ref a0] below meth c H locs cells slots Q (F0 m 568 ls []) := by
  have hx := C.1
  have hb := C.2.1
  obtain ⟨oa, ak, tn, tt, fa, fi, hRp⟩ := id hR
  have hx0 := hRp.1
  refine lv_aload_n hx hb dL_law_568 rfl (lv_at hl 1 rfl) ?_
  refine lw_arg (jj := 1) hx hb hX hbl hL hH hl (by omega) (by decide) dL_law_569 dL_law_570 dL_law_571 dL_law_572 dL_law_573 ?_
  refine lw_arg (jj := 2) hx hb hX hbl hL hH hl (by omega) (by decide) dL_law_574 dL_law_575 dL_law_576 dL_law_577 dL_law_578 ?_
  refine fx_afterP hH (fx_runVP (q := (RX11, TX11, 11)) C hH hl.1 (As := [.int (xs (6 * k + 1)), .int (xs (6 * k + 2))]) (rest := []) (op_place hR (xs (6 * k + 1)) (xs (6 * k + 2))) mY_X11_place ml_L_74 im_X11_place se_X11_X11_place hx0 rfl rfl ⟨(Nat.le_of_ble_eq_true rfl), (Nat.le_of_ble_eq_true rfl)⟩ rfl (Nat.le_of_ble_eq_true rfl) ⟨show cells + 0 ≤ 600000 by omega, show slots + 0 ≤ 7302250 by omega⟩ dL_law_579) (fun v1 f1 z1 H locs hPo hH => ?_)
  obtain ⟨a, rfl, ⟨fs, hfs⟩, hM⟩ := hPo
  show W _ _ _ _ _ _ _ _ _ _ _ _ _ _ _ (F0 m 582 ls [.int a])
  refine lv_aload_n hx hb dL_law_582 rfl (lv_at hl 2 rfl) ?_
  refine lw_arg (jj := 1) hx hb hX hbl hL hH hl (by omega) (by decide) dL_law_583 dL_law_584 dL_law_585 dL_law_586 dL_law_587 ?_
  refine lw_arg (jj := 2) hx hb hX hbl hL hH hl (by omega) (by decide) dL_law_588 dL_law_589 dL_law_590 dL_law_591 dL_law_592 ?_
  refine fx_afterP hH (fx_runVP (q := (RX12, TX12, 26)) C hH hl.1 (As := [.int (xs (6 * k + 1)), .int (xs (6 * k + 2))]) (rest := [.int a]) hM mY_X12_place ml_L_77 im_X12_place se_X12_X12_place hfs rfl rfl ⟨(Nat.le_of_ble_eq_true rfl), (Nat.le_of_ble_eq_true rfl)⟩ rfl (Nat.le_of_ble_eq_true rfl) ⟨show cells + 0 + 0 ≤ 600000 by omega, show slots + 0 + 0 ≤ 7302250 by omega⟩ dL_law_593) (fun v2 f2 z2 H locs hPo hH => ?_)
  obtain ⟨rfl, hR2⟩ := hPo
  show W _ _ _ _ _ _ _ _ _ _ _ _ _ _ _ (F0 m 596 ls [.int a, .int a])
  refine lv_icmp_eq (tgt := 1352) hx hb dL_law_596 (by decide) (fun _ => ?_) (fun q => absurd rfl q)
  exact W.widen (show cells + 0 + 0 ≤ cells + 9 by omega) (show slots + 0 + 0 ≤ slots + 52 by omega) (nx f2 z2 H locs hR2 hH)
set_option maxHeartbeats 4000000 in
set_option maxRecDepth 100000 in
theorem lw_seeker_at {p : Program} {l : Launch} {e : Env} {s : State} {m : MethodId} {below : List Frame} {meth : Method} {c : Code} {H : Heap} {locs : List Loc} {cells slots : Nat} {Q : State → Prop} {G : GG} {a0 L k : Nat} {xs : Nat → Int32} {f : Hp} {sz : Nat} {ls : Array Slot} (C : fx_C G p s m c cL_law 4 RL) (hX : va_X a0 L xs s s.heap) (hbl : a0 < s.heap.size) (hL : L ≤ 384) (hk : 6 * k + 6 ≤ L) (hR : REL s.heap.size f sz) (hH : fx_H G s.heap.size s f sz H locs) (hl : lv_has ls 4 [(0, .ref a0), (1, .ref s.heap.size), (2, .ref (s.heap.size + 84)), (3, .int (nI (6 * k)))]) (hc : cells + 9 ≤ 600000 ∧ slots + 52 ≤ 7302250) (nx : ∀ (f' : Hp) (sz' : Nat) (H' : Heap) (locs' : List Loc), REL s.heap.size f' sz' → fx_H G s.heap.size s f' sz' H' locs' → W p l e room_1 s m #[Value.ref a0] below meth c H' locs' (cells + 9) (slots + 52) Q (F0 m 1352 ls [])) : W p l e room_1 s m #[Value.ref a0] below meth c H locs cells slots Q (F0 m 601 ls []) := by
  have hx := C.1
  have hb := C.2.1
  obtain ⟨oa, ak, tn, tt, fa, fi, hRp⟩ := id hR
  have hx0 := hRp.1
  refine lv_aload_n hx hb dL_law_601 rfl (lv_at hl 1 rfl) ?_
  refine lw_arg (jj := 1) hx hb hX hbl hL hH hl (by omega) (by decide) dL_law_602 dL_law_603 dL_law_604 dL_law_605 dL_law_606 ?_
  refine lw_arg (jj := 2) hx hb hX hbl hL hH hl (by omega) (by decide) dL_law_607 dL_law_608 dL_law_609 dL_law_610 dL_law_611 ?_
  refine fx_afterP hH (fx_runVP (q := (RX11, TX11, 11)) C hH hl.1 (As := [.int (xs (6 * k + 1)), .int (xs (6 * k + 2))]) (rest := []) (op_seeker hR (xs (6 * k + 1)) (xs (6 * k + 2))) mY_X11_seeker ml_L_78 im_X11_seeker se_X11_X11_seeker hx0 rfl rfl ⟨(Nat.le_of_ble_eq_true rfl), (Nat.le_of_ble_eq_true rfl)⟩ rfl (Nat.le_of_ble_eq_true rfl) ⟨show cells + 0 ≤ 600000 by omega, show slots + 0 ≤ 7302250 by omega⟩ dL_law_612) (fun v1 f1 z1 H locs hPo hH => ?_)
  obtain ⟨a, rfl, ⟨fs, hfs⟩, hM⟩ := hPo
  show W _ _ _ _ _ _ _ _ _ _ _ _ _ _ _ (F0 m 615 ls [.int a])
  refine lv_aload_n hx hb dL_law_615 rfl (lv_at hl 2 rfl) ?_
  refine lw_arg (jj := 1) hx hb hX hbl hL hH hl (by omega) (by decide) dL_law_616 dL_law_617 dL_law_618 dL_law_619 dL_law_620 ?_
  refine lw_arg (jj := 2) hx hb hX hbl hL hH hl (by omega) (by decide) dL_law_621 dL_law_622 dL_law_623 dL_law_624 dL_law_625 ?_
  refine fx_afterP hH (fx_runVP (q := (RX12, TX12, 26)) C hH hl.1 (As := [.int (xs (6 * k + 1)), .int (xs (6 * k + 2))]) (rest := [.int a]) hM mY_X12_seeker ml_L_81 im_X12_seeker se_X12_X12_seeker hfs rfl rfl ⟨(Nat.le_of_ble_eq_true rfl), (Nat.le_of_ble_eq_true rfl)⟩ rfl (Nat.le_of_ble_eq_true rfl) ⟨show cells + 0 + 0 ≤ 600000 by omega, show slots + 0 + 0 ≤ 7302250 by omega⟩ dL_law_626) (fun v2 f2 z2 H locs hPo hH => ?_)
  obtain ⟨rfl, hR2⟩ := hPo
  show W _ _ _ _ _ _ _ _ _ _ _ _ _ _ _ (F0 m 629 ls [.int a, .int a])
  refine lv_icmp_eq (tgt := 1352) hx hb dL_law_629 (by decide) (fun _ => ?_) (fun q => absurd rfl q)
  exact W.widen (show cells + 0 + 0 ≤ cells + 9 by omega) (show slots + 0 + 0 ≤ slots + 52 by omega) (nx f2 z2 H locs hR2 hH)
set_option maxHeartbeats 4000000 in
set_option maxRecDepth 100000 in
theorem lw_likelihood_at {p : Program} {l : Launch} {e : Env} {s : State} {m : MethodId} {below : List Frame} {meth : Method} {c : Code} {H : Heap} {locs : List Loc} {cells slots : Nat} {Q : State → Prop} {G : GG} {a0 L k : Nat} {xs : Nat → Int32} {f : Hp} {sz : Nat} {ls : Array Slot} (C : fx_C G p s m c cL_law 4 RL) (hX : va_X a0 L xs s s.heap) (hbl : a0 < s.heap.size) (hL : L ≤ 384) (hk : 6 * k + 6 ≤ L) (hR : REL s.heap.size f sz) (hH : fx_H G s.heap.size s f sz H locs) (hl : lv_has ls 4 [(0, .ref a0), (1, .ref s.heap.size), (2, .ref (s.heap.size + 84)), (3, .int (nI (6 * k)))]) (hc : cells + 9 ≤ 600000 ∧ slots + 52 ≤ 7302250) (nx : ∀ (f' : Hp) (sz' : Nat) (H' : Heap) (locs' : List Loc), REL s.heap.size f' sz' → fx_H G s.heap.size s f' sz' H' locs' → W p l e room_1 s m #[Value.ref a0] below meth c H' locs' (cells + 9) (slots + 52) Q (F0 m 1352 ls [])) : W p l e room_1 s m #[Value.ref a0] below meth c H locs cells slots Q (F0 m 634 ls []) := by
  have hx := C.1
  have hb := C.2.1
  obtain ⟨oa, ak, tn, tt, fa, fi, hRp⟩ := id hR
  have hx0 := hRp.1
  refine lv_aload_n hx hb dL_law_634 rfl (lv_at hl 1 rfl) ?_
  refine lw_arg (jj := 1) hx hb hX hbl hL hH hl (by omega) (by decide) dL_law_635 dL_law_636 dL_law_637 dL_law_638 dL_law_639 ?_
  refine fx_afterP hH (fx_runVP (q := (RX11, TX11, 11)) C hH hl.1 (As := [.int (xs (6 * k + 1))]) (rest := []) (op_likelihood hR (xs (6 * k + 1))) mY_X11_likelihood ml_L_82 im_X11_likelihood se_X11_X11_likelihood hx0 rfl rfl ⟨(Nat.le_of_ble_eq_true rfl), (Nat.le_of_ble_eq_true rfl)⟩ rfl (Nat.le_of_ble_eq_true rfl) ⟨show cells + 0 ≤ 600000 by omega, show slots + 0 ≤ 7302250 by omega⟩ dL_law_640) (fun v1 f1 z1 H locs hPo hH => ?_)
  obtain ⟨a, rfl, ⟨fs, hfs⟩, hM⟩ := hPo
  show W _ _ _ _ _ _ _ _ _ _ _ _ _ _ _ (F0 m 643 ls [.long a])
  refine lv_aload_n hx hb dL_law_643 rfl (lv_at hl 2 rfl) ?_
  refine lw_arg (jj := 1) hx hb hX hbl hL hH hl (by omega) (by decide) dL_law_644 dL_law_645 dL_law_646 dL_law_647 dL_law_648 ?_
  refine fx_afterP hH (fx_runVP (q := (RX12, TX12, 26)) C hH hl.1 (As := [.int (xs (6 * k + 1))]) (rest := [.long a]) hM mY_X12_likelihood ml_L_86 im_X12_likelihood se_X12_X12_likelihood hfs rfl rfl ⟨(Nat.le_of_ble_eq_true rfl), (Nat.le_of_ble_eq_true rfl)⟩ rfl (Nat.le_of_ble_eq_true rfl) ⟨show cells + 0 + 0 ≤ 600000 by omega, show slots + 0 + 0 ≤ 7302250 by omega⟩ dL_law_649) (fun v2 f2 z2 H locs hPo hH => ?_)
  obtain ⟨rfl, hR2⟩ := hPo
  show W _ _ _ _ _ _ _ _ _ _ _ _ _ _ _ (F0 m 652 ls [.long a, .long a])
  refine W.lcmp hx hb dL_law_652 ?_
  refine fx_J_eq (tgt := 1352) hx hb dL_law_653 (by decide) (fun _ => ?_) (fun q => absurd rfl q)
  exact W.widen (show cells + 0 + 0 ≤ cells + 9 by omega) (show slots + 0 + 0 ≤ slots + 52 by omega) (nx f2 z2 H locs hR2 hH)
set_option maxHeartbeats 4000000 in
set_option maxRecDepth 100000 in
theorem lw_likely_at {p : Program} {l : Launch} {e : Env} {s : State} {m : MethodId} {below : List Frame} {meth : Method} {c : Code} {H : Heap} {locs : List Loc} {cells slots : Nat} {Q : State → Prop} {G : GG} {a0 L k : Nat} {xs : Nat → Int32} {f : Hp} {sz : Nat} {ls : Array Slot} (C : fx_C G p s m c cL_law 4 RL) (hX : va_X a0 L xs s s.heap) (hbl : a0 < s.heap.size) (hL : L ≤ 384) (hk : 6 * k + 6 ≤ L) (hR : REL s.heap.size f sz) (hH : fx_H G s.heap.size s f sz H locs) (hl : lv_has ls 4 [(0, .ref a0), (1, .ref s.heap.size), (2, .ref (s.heap.size + 84)), (3, .int (nI (6 * k)))]) (hc : cells + 9 ≤ 600000 ∧ slots + 52 ≤ 7302250) (nx : ∀ (f' : Hp) (sz' : Nat) (H' : Heap) (locs' : List Loc), REL s.heap.size f' sz' → fx_H G s.heap.size s f' sz' H' locs' → W p l e room_1 s m #[Value.ref a0] below meth c H' locs' (cells + 9) (slots + 52) Q (F0 m 1352 ls [])) : W p l e room_1 s m #[Value.ref a0] below meth c H locs cells slots Q (F0 m 658 ls []) := by
  have hx := C.1
  have hb := C.2.1
  obtain ⟨oa, ak, tn, tt, fa, fi, hRp⟩ := id hR
  have hx0 := hRp.1
  refine lv_aload_n hx hb dL_law_658 rfl (lv_at hl 1 rfl) ?_
  refine lw_arg (jj := 1) hx hb hX hbl hL hH hl (by omega) (by decide) dL_law_659 dL_law_660 dL_law_661 dL_law_662 dL_law_663 ?_
  refine lw_arg (jj := 2) hx hb hX hbl hL hH hl (by omega) (by decide) dL_law_664 dL_law_665 dL_law_666 dL_law_667 dL_law_668 ?_
  refine fx_afterP hH (fx_runVP (q := (RX11, TX11, 11)) C hH hl.1 (As := [.int (xs (6 * k + 1)), .int (xs (6 * k + 2))]) (rest := []) (op_likely hR (xs (6 * k + 1)) (xs (6 * k + 2))) mY_X11_likely ml_L_87 im_X11_likely se_X11_X11_likely hx0 rfl rfl ⟨(Nat.le_of_ble_eq_true rfl), (Nat.le_of_ble_eq_true rfl)⟩ rfl (Nat.le_of_ble_eq_true rfl) ⟨show cells + 0 ≤ 600000 by omega, show slots + 0 ≤ 7302250 by omega⟩ dL_law_669) (fun v1 f1 z1 H locs hPo hH => ?_)
  obtain ⟨a, rfl, ⟨fs, hfs⟩, hM⟩ := hPo
  show W _ _ _ _ _ _ _ _ _ _ _ _ _ _ _ (F0 m 672 ls [.long a])
  refine lv_aload_n hx hb dL_law_672 rfl (lv_at hl 2 rfl) ?_
  refine lw_arg (jj := 1) hx hb hX hbl hL hH hl (by omega) (by decide) dL_law_673 dL_law_674 dL_law_675 dL_law_676 dL_law_677 ?_
  refine lw_arg (jj := 2) hx hb hX hbl hL hH hl (by omega) (by decide) dL_law_678 dL_law_679 dL_law_680 dL_law_681 dL_law_682 ?_
  refine fx_afterP hH (fx_runVP (q := (RX12, TX12, 26)) C hH hl.1 (As := [.int (xs (6 * k + 1)), .int (xs (6 * k + 2))]) (rest := [.long a]) hM mY_X12_likely ml_L_91 im_X12_likely se_X12_X12_likely hfs rfl rfl ⟨(Nat.le_of_ble_eq_true rfl), (Nat.le_of_ble_eq_true rfl)⟩ rfl (Nat.le_of_ble_eq_true rfl) ⟨show cells + 0 + 0 ≤ 600000 by omega, show slots + 0 + 0 ≤ 7302250 by omega⟩ dL_law_683) (fun v2 f2 z2 H locs hPo hH => ?_)
  obtain ⟨rfl, hR2⟩ := hPo
  show W _ _ _ _ _ _ _ _ _ _ _ _ _ _ _ (F0 m 686 ls [.long a, .long a])
  refine W.lcmp hx hb dL_law_686 ?_
  refine fx_J_eq (tgt := 1352) hx hb dL_law_687 (by decide) (fun _ => ?_) (fun q => absurd rfl q)
  exact W.widen (show cells + 0 + 0 ≤ cells + 9 by omega) (show slots + 0 + 0 ≤ slots + 52 by omega) (nx f2 z2 H locs hR2 hH)
set_option maxHeartbeats 4000000 in
set_option maxRecDepth 100000 in
theorem lw_felt_at {p : Program} {l : Launch} {e : Env} {s : State} {m : MethodId} {below : List Frame} {meth : Method} {c : Code} {H : Heap} {locs : List Loc} {cells slots : Nat} {Q : State → Prop} {G : GG} {a0 L k : Nat} {xs : Nat → Int32} {f : Hp} {sz : Nat} {ls : Array Slot} (C : fx_C G p s m c cL_law 4 RL) (hX : va_X a0 L xs s s.heap) (hbl : a0 < s.heap.size) (hL : L ≤ 384) (hk : 6 * k + 6 ≤ L) (hR : REL s.heap.size f sz) (hH : fx_H G s.heap.size s f sz H locs) (hl : lv_has ls 4 [(0, .ref a0), (1, .ref s.heap.size), (2, .ref (s.heap.size + 84)), (3, .int (nI (6 * k)))]) (hc : cells + 9 ≤ 600000 ∧ slots + 52 ≤ 7302250) (nx : ∀ (f' : Hp) (sz' : Nat) (H' : Heap) (locs' : List Loc), REL s.heap.size f' sz' → fx_H G s.heap.size s f' sz' H' locs' → W p l e room_1 s m #[Value.ref a0] below meth c H' locs' (cells + 9) (slots + 52) Q (F0 m 1352 ls [])) : W p l e room_1 s m #[Value.ref a0] below meth c H locs cells slots Q (F0 m 692 ls []) := by
  have hx := C.1
  have hb := C.2.1
  obtain ⟨oa, ak, tn, tt, fa, fi, hRp⟩ := id hR
  have hx0 := hRp.1
  refine lv_aload_n hx hb dL_law_692 rfl (lv_at hl 1 rfl) ?_
  refine lw_arg (jj := 1) hx hb hX hbl hL hH hl (by omega) (by decide) dL_law_693 dL_law_694 dL_law_695 dL_law_696 dL_law_697 ?_
  refine lw_arg (jj := 2) hx hb hX hbl hL hH hl (by omega) (by decide) dL_law_698 dL_law_699 dL_law_700 dL_law_701 dL_law_702 ?_
  refine fx_afterP hH (fx_runVP (q := (RX11, TX11, 11)) C hH hl.1 (As := [.int (xs (6 * k + 1)), .int (xs (6 * k + 2))]) (rest := []) (op_felt hR (xs (6 * k + 1)) (xs (6 * k + 2))) mY_X11_felt ml_L_92 im_X11_felt se_X11_X11_felt hx0 rfl rfl ⟨(Nat.le_of_ble_eq_true rfl), (Nat.le_of_ble_eq_true rfl)⟩ rfl (Nat.le_of_ble_eq_true rfl) ⟨show cells + 0 ≤ 600000 by omega, show slots + 0 ≤ 7302250 by omega⟩ dL_law_703) (fun v1 f1 z1 H locs hPo hH => ?_)
  obtain ⟨a, rfl, ⟨fs, hfs⟩, hM⟩ := hPo
  show W _ _ _ _ _ _ _ _ _ _ _ _ _ _ _ (F0 m 706 ls [.long a])
  refine lv_aload_n hx hb dL_law_706 rfl (lv_at hl 2 rfl) ?_
  refine lw_arg (jj := 1) hx hb hX hbl hL hH hl (by omega) (by decide) dL_law_707 dL_law_708 dL_law_709 dL_law_710 dL_law_711 ?_
  refine lw_arg (jj := 2) hx hb hX hbl hL hH hl (by omega) (by decide) dL_law_712 dL_law_713 dL_law_714 dL_law_715 dL_law_716 ?_
  refine fx_afterP hH (fx_runVP (q := (RX12, TX12, 26)) C hH hl.1 (As := [.int (xs (6 * k + 1)), .int (xs (6 * k + 2))]) (rest := [.long a]) hM mY_X12_felt ml_L_95 im_X12_felt se_X12_X12_felt hfs rfl rfl ⟨(Nat.le_of_ble_eq_true rfl), (Nat.le_of_ble_eq_true rfl)⟩ rfl (Nat.le_of_ble_eq_true rfl) ⟨show cells + 0 + 0 ≤ 600000 by omega, show slots + 0 + 0 ≤ 7302250 by omega⟩ dL_law_717) (fun v2 f2 z2 H locs hPo hH => ?_)
  obtain ⟨rfl, hR2⟩ := hPo
  show W _ _ _ _ _ _ _ _ _ _ _ _ _ _ _ (F0 m 720 ls [.long a, .long a])
  refine W.lcmp hx hb dL_law_720 ?_
  refine fx_J_eq (tgt := 1352) hx hb dL_law_721 (by decide) (fun _ => ?_) (fun q => absurd rfl q)
  exact W.widen (show cells + 0 + 0 ≤ cells + 9 by omega) (show slots + 0 + 0 ≤ slots + 52 by omega) (nx f2 z2 H locs hR2 hH)
set_option maxHeartbeats 4000000 in
set_option maxRecDepth 100000 in
theorem lw_surest_at {p : Program} {l : Launch} {e : Env} {s : State} {m : MethodId} {below : List Frame} {meth : Method} {c : Code} {H : Heap} {locs : List Loc} {cells slots : Nat} {Q : State → Prop} {G : GG} {a0 L k : Nat} {xs : Nat → Int32} {f : Hp} {sz : Nat} {ls : Array Slot} (C : fx_C G p s m c cL_law 4 RL) (hX : va_X a0 L xs s s.heap) (hbl : a0 < s.heap.size) (hL : L ≤ 384) (hk : 6 * k + 6 ≤ L) (hR : REL s.heap.size f sz) (hH : fx_H G s.heap.size s f sz H locs) (hl : lv_has ls 4 [(0, .ref a0), (1, .ref s.heap.size), (2, .ref (s.heap.size + 84)), (3, .int (nI (6 * k)))]) (hc : cells + 9 ≤ 600000 ∧ slots + 52 ≤ 7302250) (nx : ∀ (f' : Hp) (sz' : Nat) (H' : Heap) (locs' : List Loc), REL s.heap.size f' sz' → fx_H G s.heap.size s f' sz' H' locs' → W p l e room_1 s m #[Value.ref a0] below meth c H' locs' (cells + 9) (slots + 52) Q (F0 m 1352 ls [])) : W p l e room_1 s m #[Value.ref a0] below meth c H locs cells slots Q (F0 m 726 ls []) := by
  have hx := C.1
  have hb := C.2.1
  obtain ⟨oa, ak, tn, tt, fa, fi, hRp⟩ := id hR
  have hx0 := hRp.1
  refine lv_aload_n hx hb dL_law_726 rfl (lv_at hl 1 rfl) ?_
  refine fx_afterP hH (fx_runVP (q := (RX11, TX11, 11)) C hH hl.1 (As := []) (rest := []) (op_surest hR) mY_X11_surest ml_L_96 im_X11_surest se_X11_X11_surest hx0 rfl rfl ⟨(Nat.le_of_ble_eq_true rfl), (Nat.le_of_ble_eq_true rfl)⟩ rfl (Nat.le_of_ble_eq_true rfl) ⟨show cells + 0 ≤ 600000 by omega, show slots + 0 ≤ 7302250 by omega⟩ dL_law_727) (fun v1 f1 z1 H locs hPo hH => ?_)
  obtain ⟨a, rfl, ⟨fs, hfs⟩, hM⟩ := hPo
  show W _ _ _ _ _ _ _ _ _ _ _ _ _ _ _ (F0 m 730 ls [.int a])
  refine lv_aload_n hx hb dL_law_730 rfl (lv_at hl 2 rfl) ?_
  refine fx_afterP hH (fx_runVP (q := (RX12, TX12, 26)) C hH hl.1 (As := []) (rest := [.int a]) hM mY_X12_surest ml_L_99 im_X12_surest se_X12_X12_surest hfs rfl rfl ⟨(Nat.le_of_ble_eq_true rfl), (Nat.le_of_ble_eq_true rfl)⟩ rfl (Nat.le_of_ble_eq_true rfl) ⟨show cells + 0 + 0 ≤ 600000 by omega, show slots + 0 + 0 ≤ 7302250 by omega⟩ dL_law_731) (fun v2 f2 z2 H locs hPo hH => ?_)
  obtain ⟨rfl, hR2⟩ := hPo
  show W _ _ _ _ _ _ _ _ _ _ _ _ _ _ _ (F0 m 734 ls [.int a, .int a])
  refine lv_icmp_eq (tgt := 1352) hx hb dL_law_734 (by decide) (fun _ => ?_) (fun q => absurd rfl q)
  exact W.widen (show cells + 0 + 0 ≤ cells + 9 by omega) (show slots + 0 + 0 ≤ slots + 52 by omega) (nx f2 z2 H locs hR2 hH)
set_option maxHeartbeats 4000000 in
set_option maxRecDepth 100000 in
theorem lw_mean_at {p : Program} {l : Launch} {e : Env} {s : State} {m : MethodId} {below : List Frame} {meth : Method} {c : Code} {H : Heap} {locs : List Loc} {cells slots : Nat} {Q : State → Prop} {G : GG} {a0 L k : Nat} {xs : Nat → Int32} {f : Hp} {sz : Nat} {ls : Array Slot} (C : fx_C G p s m c cL_law 4 RL) (hX : va_X a0 L xs s s.heap) (hbl : a0 < s.heap.size) (hL : L ≤ 384) (hk : 6 * k + 6 ≤ L) (hR : REL s.heap.size f sz) (hH : fx_H G s.heap.size s f sz H locs) (hl : lv_has ls 4 [(0, .ref a0), (1, .ref s.heap.size), (2, .ref (s.heap.size + 84)), (3, .int (nI (6 * k)))]) (hc : cells + 9 ≤ 600000 ∧ slots + 52 ≤ 7302250) (nx : ∀ (f' : Hp) (sz' : Nat) (H' : Heap) (locs' : List Loc), REL s.heap.size f' sz' → fx_H G s.heap.size s f' sz' H' locs' → W p l e room_1 s m #[Value.ref a0] below meth c H' locs' (cells + 9) (slots + 52) Q (F0 m 1352 ls [])) : W p l e room_1 s m #[Value.ref a0] below meth c H locs cells slots Q (F0 m 739 ls []) := by
  have hx := C.1
  have hb := C.2.1
  obtain ⟨oa, ak, tn, tt, fa, fi, hRp⟩ := id hR
  have hx0 := hRp.1
  refine lv_aload_n hx hb dL_law_739 rfl (lv_at hl 1 rfl) ?_
  refine lw_arg (jj := 1) hx hb hX hbl hL hH hl (by omega) (by decide) dL_law_740 dL_law_741 dL_law_742 dL_law_743 dL_law_744 ?_
  refine lw_arg (jj := 2) hx hb hX hbl hL hH hl (by omega) (by decide) dL_law_745 dL_law_746 dL_law_747 dL_law_748 dL_law_749 ?_
  refine lw_arg (jj := 3) hx hb hX hbl hL hH hl (by omega) (by decide) dL_law_750 dL_law_751 dL_law_752 dL_law_753 dL_law_754 ?_
  refine lw_arg (jj := 4) hx hb hX hbl hL hH hl (by omega) (by decide) dL_law_755 dL_law_756 dL_law_757 dL_law_758 dL_law_759 ?_
  refine lw_arg (jj := 5) hx hb hX hbl hL hH hl (by omega) (by decide) dL_law_760 dL_law_761 dL_law_762 dL_law_763 dL_law_764 ?_
  refine fx_afterP hH (fx_runVP (q := (RX11, TX11, 11)) C hH hl.1 (As := [.int (xs (6 * k + 1)), .int (xs (6 * k + 2)), .int (xs (6 * k + 3)), .int (xs (6 * k + 4)), .int (xs (6 * k + 5))]) (rest := []) (op_mean hR (xs (6 * k + 1)) (xs (6 * k + 2)) (xs (6 * k + 3)) (xs (6 * k + 4)) (xs (6 * k + 5))) mY_X11_mean ml_L_100 im_X11_mean se_X11_X11_mean hx0 rfl rfl ⟨(Nat.le_of_ble_eq_true rfl), (Nat.le_of_ble_eq_true rfl)⟩ rfl (Nat.le_of_ble_eq_true rfl) ⟨show cells + 0 ≤ 600000 by omega, show slots + 0 ≤ 7302250 by omega⟩ dL_law_765) (fun v1 f1 z1 H locs hPo hH => ?_)
  obtain ⟨a, rfl, ⟨fs, hfs⟩, hM⟩ := hPo
  show W _ _ _ _ _ _ _ _ _ _ _ _ _ _ _ (F0 m 768 ls [.long a])
  refine lv_aload_n hx hb dL_law_768 rfl (lv_at hl 2 rfl) ?_
  refine lw_arg (jj := 1) hx hb hX hbl hL hH hl (by omega) (by decide) dL_law_769 dL_law_770 dL_law_771 dL_law_772 dL_law_773 ?_
  refine lw_arg (jj := 2) hx hb hX hbl hL hH hl (by omega) (by decide) dL_law_774 dL_law_775 dL_law_776 dL_law_777 dL_law_778 ?_
  refine lw_arg (jj := 3) hx hb hX hbl hL hH hl (by omega) (by decide) dL_law_779 dL_law_780 dL_law_781 dL_law_782 dL_law_783 ?_
  refine lw_arg (jj := 4) hx hb hX hbl hL hH hl (by omega) (by decide) dL_law_784 dL_law_785 dL_law_786 dL_law_787 dL_law_788 ?_
  refine lw_arg (jj := 5) hx hb hX hbl hL hH hl (by omega) (by decide) dL_law_789 dL_law_790 dL_law_791 dL_law_792 dL_law_793 ?_
  refine fx_afterP hH (fx_runVP (q := (RX12, TX12, 26)) C hH hl.1 (As := [.int (xs (6 * k + 1)), .int (xs (6 * k + 2)), .int (xs (6 * k + 3)), .int (xs (6 * k + 4)), .int (xs (6 * k + 5))]) (rest := [.long a]) hM mY_X12_mean ml_L_104 im_X12_mean se_X12_X12_mean hfs rfl rfl ⟨(Nat.le_of_ble_eq_true rfl), (Nat.le_of_ble_eq_true rfl)⟩ rfl (Nat.le_of_ble_eq_true rfl) ⟨show cells + 0 + 0 ≤ 600000 by omega, show slots + 0 + 0 ≤ 7302250 by omega⟩ dL_law_794) (fun v2 f2 z2 H locs hPo hH => ?_)
  obtain ⟨rfl, hR2⟩ := hPo
  show W _ _ _ _ _ _ _ _ _ _ _ _ _ _ _ (F0 m 797 ls [.long a, .long a])
  refine W.lcmp hx hb dL_law_797 ?_
  refine fx_J_eq (tgt := 1352) hx hb dL_law_798 (by decide) (fun _ => ?_) (fun q => absurd rfl q)
  exact W.widen (show cells + 0 + 0 ≤ cells + 9 by omega) (show slots + 0 + 0 ≤ slots + 52 by omega) (nx f2 z2 H locs hR2 hH)
set_option maxHeartbeats 4000000 in
set_option maxRecDepth 100000 in
theorem lw_begin_at {p : Program} {l : Launch} {e : Env} {s : State} {m : MethodId} {below : List Frame} {meth : Method} {c : Code} {H : Heap} {locs : List Loc} {cells slots : Nat} {Q : State → Prop} {G : GG} {a0 L k : Nat} {xs : Nat → Int32} {f : Hp} {sz : Nat} {ls : Array Slot} (C : fx_C G p s m c cL_law 4 RL) (hX : va_X a0 L xs s s.heap) (hbl : a0 < s.heap.size) (hL : L ≤ 384) (hk : 6 * k + 6 ≤ L) (hR : REL s.heap.size f sz) (hH : fx_H G s.heap.size s f sz H locs) (hl : lv_has ls 4 [(0, .ref a0), (1, .ref s.heap.size), (2, .ref (s.heap.size + 84)), (3, .int (nI (6 * k)))]) (hc : cells + 9 ≤ 600000 ∧ slots + 52 ≤ 7302250) (nx : ∀ (f' : Hp) (sz' : Nat) (H' : Heap) (locs' : List Loc), REL s.heap.size f' sz' → fx_H G s.heap.size s f' sz' H' locs' → W p l e room_1 s m #[Value.ref a0] below meth c H' locs' (cells + 9) (slots + 52) Q (F0 m 1352 ls [])) : W p l e room_1 s m #[Value.ref a0] below meth c H locs cells slots Q (F0 m 803 ls []) := by
  have hx := C.1
  have hb := C.2.1
  obtain ⟨oa, ak, tn, tt, fa, fi, hRp⟩ := id hR
  have hx0 := hRp.1
  refine lv_aload_n hx hb dL_law_803 rfl (lv_at hl 1 rfl) ?_
  refine lw_arg (jj := 1) hx hb hX hbl hL hH hl (by omega) (by decide) dL_law_804 dL_law_805 dL_law_806 dL_law_807 dL_law_808 ?_
  refine lw_arg (jj := 2) hx hb hX hbl hL hH hl (by omega) (by decide) dL_law_809 dL_law_810 dL_law_811 dL_law_812 dL_law_813 ?_
  refine fx_afterP hH (fx_runVP (q := (RX11, TX11, 11)) C hH hl.1 (As := [.int (xs (6 * k + 1)), .int (xs (6 * k + 2))]) (rest := []) (op_begin hR (xs (6 * k + 1)) (xs (6 * k + 2))) mY_X11_begin ml_L_105 im_X11_begin se_X11_X11_begin hx0 rfl rfl ⟨(Nat.le_of_ble_eq_true rfl), (Nat.le_of_ble_eq_true rfl)⟩ rfl (Nat.le_of_ble_eq_true rfl) ⟨show cells + 0 ≤ 600000 by omega, show slots + 0 ≤ 7302250 by omega⟩ dL_law_814) (fun v1 f1 z1 H locs hPo hH => ?_)
  obtain ⟨a, rfl, ⟨fs, hfs⟩, hM⟩ := hPo
  show W _ _ _ _ _ _ _ _ _ _ _ _ _ _ _ (F0 m 817 ls [.int a])
  refine lv_aload_n hx hb dL_law_817 rfl (lv_at hl 2 rfl) ?_
  refine lw_arg (jj := 1) hx hb hX hbl hL hH hl (by omega) (by decide) dL_law_818 dL_law_819 dL_law_820 dL_law_821 dL_law_822 ?_
  refine lw_arg (jj := 2) hx hb hX hbl hL hH hl (by omega) (by decide) dL_law_823 dL_law_824 dL_law_825 dL_law_826 dL_law_827 ?_
  refine fx_afterP hH (fx_runVP (q := (RX12, TX12, 26)) C hH hl.1 (As := [.int (xs (6 * k + 1)), .int (xs (6 * k + 2))]) (rest := [.int a]) hM mY_X12_begin ml_L_108 im_X12_begin se_X12_X12_begin hfs rfl rfl ⟨(Nat.le_of_ble_eq_true rfl), (Nat.le_of_ble_eq_true rfl)⟩ rfl (Nat.le_of_ble_eq_true rfl) ⟨show cells + 0 + 0 ≤ 600000 by omega, show slots + 0 + 0 ≤ 7302250 by omega⟩ dL_law_828) (fun v2 f2 z2 H locs hPo hH => ?_)
  obtain ⟨rfl, hR2⟩ := hPo
  show W _ _ _ _ _ _ _ _ _ _ _ _ _ _ _ (F0 m 831 ls [.int a, .int a])
  refine lv_icmp_eq (tgt := 1352) hx hb dL_law_831 (by decide) (fun _ => ?_) (fun q => absurd rfl q)
  exact W.widen (show cells + 0 + 0 ≤ cells + 9 by omega) (show slots + 0 + 0 ≤ slots + 52 by omega) (nx f2 z2 H locs hR2 hH)
set_option maxHeartbeats 4000000 in
set_option maxRecDepth 100000 in
theorem lw_noEnd_at {p : Program} {l : Launch} {e : Env} {s : State} {m : MethodId} {below : List Frame} {meth : Method} {c : Code} {H : Heap} {locs : List Loc} {cells slots : Nat} {Q : State → Prop} {G : GG} {a0 L k : Nat} {xs : Nat → Int32} {f : Hp} {sz : Nat} {ls : Array Slot} (C : fx_C G p s m c cL_law 4 RL) (hX : va_X a0 L xs s s.heap) (hbl : a0 < s.heap.size) (hL : L ≤ 384) (hk : 6 * k + 6 ≤ L) (hR : REL s.heap.size f sz) (hH : fx_H G s.heap.size s f sz H locs) (hl : lv_has ls 4 [(0, .ref a0), (1, .ref s.heap.size), (2, .ref (s.heap.size + 84)), (3, .int (nI (6 * k)))]) (hc : cells + 9 ≤ 600000 ∧ slots + 52 ≤ 7302250) (nx : ∀ (f' : Hp) (sz' : Nat) (H' : Heap) (locs' : List Loc), REL s.heap.size f' sz' → fx_H G s.heap.size s f' sz' H' locs' → W p l e room_1 s m #[Value.ref a0] below meth c H' locs' (cells + 9) (slots + 52) Q (F0 m 1352 ls [])) : W p l e room_1 s m #[Value.ref a0] below meth c H locs cells slots Q (F0 m 836 ls []) := by
  have hx := C.1
  have hb := C.2.1
  obtain ⟨oa, ak, tn, tt, fa, fi, hRp⟩ := id hR
  have hx0 := hRp.1
  refine lv_aload_n hx hb dL_law_836 rfl (lv_at hl 1 rfl) ?_
  refine lw_arg (jj := 1) hx hb hX hbl hL hH hl (by omega) (by decide) dL_law_837 dL_law_838 dL_law_839 dL_law_840 dL_law_841 ?_
  refine lw_arg (jj := 2) hx hb hX hbl hL hH hl (by omega) (by decide) dL_law_842 dL_law_843 dL_law_844 dL_law_845 dL_law_846 ?_
  refine lw_arg (jj := 3) hx hb hX hbl hL hH hl (by omega) (by decide) dL_law_847 dL_law_848 dL_law_849 dL_law_850 dL_law_851 ?_
  refine fx_afterP hH (fx_runVP (q := (RX11, TX11, 11)) C hH hl.1 (As := [.int (xs (6 * k + 1)), .int (xs (6 * k + 2)), .int (xs (6 * k + 3))]) (rest := []) (op_noEnd hR (xs (6 * k + 1)) (xs (6 * k + 2)) (xs (6 * k + 3))) mY_X11_noEnd ml_L_109 im_X11_noEnd se_X11_X11_noEnd hx0 rfl rfl ⟨(Nat.le_of_ble_eq_true rfl), (Nat.le_of_ble_eq_true rfl)⟩ rfl (Nat.le_of_ble_eq_true rfl) ⟨show cells + 0 ≤ 600000 by omega, show slots + 0 ≤ 7302250 by omega⟩ dL_law_852) (fun v1 f1 z1 H locs hPo hH => ?_)
  obtain ⟨a, rfl, ⟨fs, hfs⟩, hM⟩ := hPo
  show W _ _ _ _ _ _ _ _ _ _ _ _ _ _ _ (F0 m 855 ls [.int a])
  refine lv_aload_n hx hb dL_law_855 rfl (lv_at hl 2 rfl) ?_
  refine lw_arg (jj := 1) hx hb hX hbl hL hH hl (by omega) (by decide) dL_law_856 dL_law_857 dL_law_858 dL_law_859 dL_law_860 ?_
  refine lw_arg (jj := 2) hx hb hX hbl hL hH hl (by omega) (by decide) dL_law_861 dL_law_862 dL_law_863 dL_law_864 dL_law_865 ?_
  refine lw_arg (jj := 3) hx hb hX hbl hL hH hl (by omega) (by decide) dL_law_866 dL_law_867 dL_law_868 dL_law_869 dL_law_870 ?_
  refine fx_afterP hH (fx_runVP (q := (RX12, TX12, 26)) C hH hl.1 (As := [.int (xs (6 * k + 1)), .int (xs (6 * k + 2)), .int (xs (6 * k + 3))]) (rest := [.int a]) hM mY_X12_noEnd ml_L_112 im_X12_noEnd se_X12_X12_noEnd hfs rfl rfl ⟨(Nat.le_of_ble_eq_true rfl), (Nat.le_of_ble_eq_true rfl)⟩ rfl (Nat.le_of_ble_eq_true rfl) ⟨show cells + 0 + 0 ≤ 600000 by omega, show slots + 0 + 0 ≤ 7302250 by omega⟩ dL_law_871) (fun v2 f2 z2 H locs hPo hH => ?_)
  obtain ⟨rfl, hR2⟩ := hPo
  show W _ _ _ _ _ _ _ _ _ _ _ _ _ _ _ (F0 m 874 ls [.int a, .int a])
  refine lv_icmp_eq (tgt := 1352) hx hb dL_law_874 (by decide) (fun _ => ?_) (fun q => absurd rfl q)
  exact W.widen (show cells + 0 + 0 ≤ cells + 9 by omega) (show slots + 0 + 0 ≤ slots + 52 by omega) (nx f2 z2 H locs hR2 hH)
set_option maxHeartbeats 4000000 in
set_option maxRecDepth 100000 in
theorem lw_width_at {p : Program} {l : Launch} {e : Env} {s : State} {m : MethodId} {below : List Frame} {meth : Method} {c : Code} {H : Heap} {locs : List Loc} {cells slots : Nat} {Q : State → Prop} {G : GG} {a0 L k : Nat} {xs : Nat → Int32} {f : Hp} {sz : Nat} {ls : Array Slot} (C : fx_C G p s m c cL_law 4 RL) (hX : va_X a0 L xs s s.heap) (hbl : a0 < s.heap.size) (hL : L ≤ 384) (hk : 6 * k + 6 ≤ L) (hR : REL s.heap.size f sz) (hH : fx_H G s.heap.size s f sz H locs) (hl : lv_has ls 4 [(0, .ref a0), (1, .ref s.heap.size), (2, .ref (s.heap.size + 84)), (3, .int (nI (6 * k)))]) (hc : cells + 9 ≤ 600000 ∧ slots + 52 ≤ 7302250) (nx : ∀ (f' : Hp) (sz' : Nat) (H' : Heap) (locs' : List Loc), REL s.heap.size f' sz' → fx_H G s.heap.size s f' sz' H' locs' → W p l e room_1 s m #[Value.ref a0] below meth c H' locs' (cells + 9) (slots + 52) Q (F0 m 1352 ls [])) : W p l e room_1 s m #[Value.ref a0] below meth c H locs cells slots Q (F0 m 879 ls []) := by
  have hx := C.1
  have hb := C.2.1
  obtain ⟨oa, ak, tn, tt, fa, fi, hRp⟩ := id hR
  have hx0 := hRp.1
  refine lv_aload_n hx hb dL_law_879 rfl (lv_at hl 1 rfl) ?_
  refine lw_arg (jj := 1) hx hb hX hbl hL hH hl (by omega) (by decide) dL_law_880 dL_law_881 dL_law_882 dL_law_883 dL_law_884 ?_
  refine lw_arg (jj := 2) hx hb hX hbl hL hH hl (by omega) (by decide) dL_law_885 dL_law_886 dL_law_887 dL_law_888 dL_law_889 ?_
  refine lw_arg (jj := 3) hx hb hX hbl hL hH hl (by omega) (by decide) dL_law_890 dL_law_891 dL_law_892 dL_law_893 dL_law_894 ?_
  refine lw_arg (jj := 4) hx hb hX hbl hL hH hl (by omega) (by decide) dL_law_895 dL_law_896 dL_law_897 dL_law_898 dL_law_899 ?_
  refine fx_afterP hH (fx_runVP (q := (RX11, TX11, 11)) C hH hl.1 (As := [.int (xs (6 * k + 1)), .int (xs (6 * k + 2)), .int (xs (6 * k + 3)), .int (xs (6 * k + 4))]) (rest := []) (op_width hR (xs (6 * k + 1)) (xs (6 * k + 2)) (xs (6 * k + 3)) (xs (6 * k + 4))) mY_X11_width ml_L_113 im_X11_width se_X11_X11_width hx0 rfl rfl ⟨(Nat.le_of_ble_eq_true rfl), (Nat.le_of_ble_eq_true rfl)⟩ rfl (Nat.le_of_ble_eq_true rfl) ⟨show cells + 0 ≤ 600000 by omega, show slots + 0 ≤ 7302250 by omega⟩ dL_law_900) (fun v1 f1 z1 H locs hPo hH => ?_)
  obtain ⟨a, rfl, ⟨fs, hfs⟩, hM⟩ := hPo
  show W _ _ _ _ _ _ _ _ _ _ _ _ _ _ _ (F0 m 903 ls [.int a])
  refine lv_aload_n hx hb dL_law_903 rfl (lv_at hl 2 rfl) ?_
  refine lw_arg (jj := 1) hx hb hX hbl hL hH hl (by omega) (by decide) dL_law_904 dL_law_905 dL_law_906 dL_law_907 dL_law_908 ?_
  refine lw_arg (jj := 2) hx hb hX hbl hL hH hl (by omega) (by decide) dL_law_909 dL_law_910 dL_law_911 dL_law_912 dL_law_913 ?_
  refine lw_arg (jj := 3) hx hb hX hbl hL hH hl (by omega) (by decide) dL_law_914 dL_law_915 dL_law_916 dL_law_917 dL_law_918 ?_
  refine lw_arg (jj := 4) hx hb hX hbl hL hH hl (by omega) (by decide) dL_law_919 dL_law_920 dL_law_921 dL_law_922 dL_law_923 ?_
  refine fx_afterP hH (fx_runVP (q := (RX12, TX12, 26)) C hH hl.1 (As := [.int (xs (6 * k + 1)), .int (xs (6 * k + 2)), .int (xs (6 * k + 3)), .int (xs (6 * k + 4))]) (rest := [.int a]) hM mY_X12_width ml_L_117 im_X12_width se_X12_X12_width hfs rfl rfl ⟨(Nat.le_of_ble_eq_true rfl), (Nat.le_of_ble_eq_true rfl)⟩ rfl (Nat.le_of_ble_eq_true rfl) ⟨show cells + 0 + 0 ≤ 600000 by omega, show slots + 0 + 0 ≤ 7302250 by omega⟩ dL_law_924) (fun v2 f2 z2 H locs hPo hH => ?_)
  obtain ⟨rfl, hR2⟩ := hPo
  show W _ _ _ _ _ _ _ _ _ _ _ _ _ _ _ (F0 m 927 ls [.int a, .int a])
  refine lv_icmp_eq (tgt := 1352) hx hb dL_law_927 (by decide) (fun _ => ?_) (fun q => absurd rfl q)
  exact W.widen (show cells + 0 + 0 ≤ cells + 9 by omega) (show slots + 0 + 0 ≤ slots + 52 by omega) (nx f2 z2 H locs hR2 hH)
set_option maxHeartbeats 4000000 in
set_option maxRecDepth 100000 in
theorem lw_lost_at {p : Program} {l : Launch} {e : Env} {s : State} {m : MethodId} {below : List Frame} {meth : Method} {c : Code} {H : Heap} {locs : List Loc} {cells slots : Nat} {Q : State → Prop} {G : GG} {a0 L k : Nat} {xs : Nat → Int32} {f : Hp} {sz : Nat} {ls : Array Slot} (C : fx_C G p s m c cL_law 4 RL) (hX : va_X a0 L xs s s.heap) (hbl : a0 < s.heap.size) (hL : L ≤ 384) (hk : 6 * k + 6 ≤ L) (hR : REL s.heap.size f sz) (hH : fx_H G s.heap.size s f sz H locs) (hl : lv_has ls 4 [(0, .ref a0), (1, .ref s.heap.size), (2, .ref (s.heap.size + 84)), (3, .int (nI (6 * k)))]) (hc : cells + 9 ≤ 600000 ∧ slots + 52 ≤ 7302250) (nx : ∀ (f' : Hp) (sz' : Nat) (H' : Heap) (locs' : List Loc), REL s.heap.size f' sz' → fx_H G s.heap.size s f' sz' H' locs' → W p l e room_1 s m #[Value.ref a0] below meth c H' locs' (cells + 9) (slots + 52) Q (F0 m 1352 ls [])) : W p l e room_1 s m #[Value.ref a0] below meth c H locs cells slots Q (F0 m 932 ls []) := by
  have hx := C.1
  have hb := C.2.1
  obtain ⟨oa, ak, tn, tt, fa, fi, hRp⟩ := id hR
  have hx0 := hRp.1
  refine lv_aload_n hx hb dL_law_932 rfl (lv_at hl 1 rfl) ?_
  refine lw_arg (jj := 1) hx hb hX hbl hL hH hl (by omega) (by decide) dL_law_933 dL_law_934 dL_law_935 dL_law_936 dL_law_937 ?_
  refine lw_arg (jj := 2) hx hb hX hbl hL hH hl (by omega) (by decide) dL_law_938 dL_law_939 dL_law_940 dL_law_941 dL_law_942 ?_
  refine lw_arg (jj := 3) hx hb hX hbl hL hH hl (by omega) (by decide) dL_law_943 dL_law_944 dL_law_945 dL_law_946 dL_law_947 ?_
  refine fx_afterP hH (fx_runVP (q := (RX11, TX11, 11)) C hH hl.1 (As := [.int (xs (6 * k + 1)), .int (xs (6 * k + 2)), .int (xs (6 * k + 3))]) (rest := []) (op_lost hR (xs (6 * k + 1)) (xs (6 * k + 2)) (xs (6 * k + 3))) mY_X11_lost ml_L_118 im_X11_lost se_X11_X11_lost hx0 rfl rfl ⟨(Nat.le_of_ble_eq_true rfl), (Nat.le_of_ble_eq_true rfl)⟩ rfl (Nat.le_of_ble_eq_true rfl) ⟨show cells + 0 ≤ 600000 by omega, show slots + 0 ≤ 7302250 by omega⟩ dL_law_948) (fun v1 f1 z1 H locs hPo hH => ?_)
  obtain ⟨a, rfl, ⟨fs, hfs⟩, hM⟩ := hPo
  show W _ _ _ _ _ _ _ _ _ _ _ _ _ _ _ (F0 m 951 ls [.int a])
  refine lv_aload_n hx hb dL_law_951 rfl (lv_at hl 2 rfl) ?_
  refine lw_arg (jj := 1) hx hb hX hbl hL hH hl (by omega) (by decide) dL_law_952 dL_law_953 dL_law_954 dL_law_955 dL_law_956 ?_
  refine lw_arg (jj := 2) hx hb hX hbl hL hH hl (by omega) (by decide) dL_law_957 dL_law_958 dL_law_959 dL_law_960 dL_law_961 ?_
  refine lw_arg (jj := 3) hx hb hX hbl hL hH hl (by omega) (by decide) dL_law_962 dL_law_963 dL_law_964 dL_law_965 dL_law_966 ?_
  refine fx_afterP hH (fx_runVP (q := (RX12, TX12, 26)) C hH hl.1 (As := [.int (xs (6 * k + 1)), .int (xs (6 * k + 2)), .int (xs (6 * k + 3))]) (rest := [.int a]) hM mY_X12_lost ml_L_121 im_X12_lost se_X12_X12_lost hfs rfl rfl ⟨(Nat.le_of_ble_eq_true rfl), (Nat.le_of_ble_eq_true rfl)⟩ rfl (Nat.le_of_ble_eq_true rfl) ⟨show cells + 0 + 0 ≤ 600000 by omega, show slots + 0 + 0 ≤ 7302250 by omega⟩ dL_law_967) (fun v2 f2 z2 H locs hPo hH => ?_)
  obtain ⟨rfl, hR2⟩ := hPo
  show W _ _ _ _ _ _ _ _ _ _ _ _ _ _ _ (F0 m 970 ls [.int a, .int a])
  refine lv_icmp_eq (tgt := 1352) hx hb dL_law_970 (by decide) (fun _ => ?_) (fun q => absurd rfl q)
  exact W.widen (show cells + 0 + 0 ≤ cells + 9 by omega) (show slots + 0 + 0 ≤ slots + 52 by omega) (nx f2 z2 H locs hR2 hH)
set_option maxHeartbeats 4000000 in
set_option maxRecDepth 100000 in
theorem lw_pays_at {p : Program} {l : Launch} {e : Env} {s : State} {m : MethodId} {below : List Frame} {meth : Method} {c : Code} {H : Heap} {locs : List Loc} {cells slots : Nat} {Q : State → Prop} {G : GG} {a0 L k : Nat} {xs : Nat → Int32} {f : Hp} {sz : Nat} {ls : Array Slot} (C : fx_C G p s m c cL_law 4 RL) (hX : va_X a0 L xs s s.heap) (hbl : a0 < s.heap.size) (hL : L ≤ 384) (hk : 6 * k + 6 ≤ L) (hR : REL s.heap.size f sz) (hH : fx_H G s.heap.size s f sz H locs) (hl : lv_has ls 4 [(0, .ref a0), (1, .ref s.heap.size), (2, .ref (s.heap.size + 84)), (3, .int (nI (6 * k)))]) (hc : cells + 9 ≤ 600000 ∧ slots + 52 ≤ 7302250) (nx : ∀ (f' : Hp) (sz' : Nat) (H' : Heap) (locs' : List Loc), REL s.heap.size f' sz' → fx_H G s.heap.size s f' sz' H' locs' → W p l e room_1 s m #[Value.ref a0] below meth c H' locs' (cells + 9) (slots + 52) Q (F0 m 1352 ls [])) : W p l e room_1 s m #[Value.ref a0] below meth c H locs cells slots Q (F0 m 975 ls []) := by
  have hx := C.1
  have hb := C.2.1
  obtain ⟨oa, ak, tn, tt, fa, fi, hRp⟩ := id hR
  have hx0 := hRp.1
  refine lv_aload_n hx hb dL_law_975 rfl (lv_at hl 1 rfl) ?_
  refine lw_arg (jj := 1) hx hb hX hbl hL hH hl (by omega) (by decide) dL_law_976 dL_law_977 dL_law_978 dL_law_979 dL_law_980 ?_
  refine lw_arg (jj := 2) hx hb hX hbl hL hH hl (by omega) (by decide) dL_law_981 dL_law_982 dL_law_983 dL_law_984 dL_law_985 ?_
  refine fx_afterP hH (fx_runVP (q := (RX11, TX11, 11)) C hH hl.1 (As := [.int (xs (6 * k + 1)), .int (xs (6 * k + 2))]) (rest := []) (op_pays hR (xs (6 * k + 1)) (xs (6 * k + 2))) mY_X11_pays ml_L_122 im_X11_pays se_X11_X11_pays hx0 rfl rfl ⟨(Nat.le_of_ble_eq_true rfl), (Nat.le_of_ble_eq_true rfl)⟩ rfl (Nat.le_of_ble_eq_true rfl) ⟨show cells + 0 ≤ 600000 by omega, show slots + 0 ≤ 7302250 by omega⟩ dL_law_986) (fun v1 f1 z1 H locs hPo hH => ?_)
  obtain ⟨a, rfl, ⟨fs, hfs⟩, hM⟩ := hPo
  show W _ _ _ _ _ _ _ _ _ _ _ _ _ _ _ (F0 m 989 ls [.int a])
  refine lv_aload_n hx hb dL_law_989 rfl (lv_at hl 2 rfl) ?_
  refine lw_arg (jj := 1) hx hb hX hbl hL hH hl (by omega) (by decide) dL_law_990 dL_law_991 dL_law_992 dL_law_993 dL_law_994 ?_
  refine lw_arg (jj := 2) hx hb hX hbl hL hH hl (by omega) (by decide) dL_law_995 dL_law_996 dL_law_997 dL_law_998 dL_law_999 ?_
  refine fx_afterP hH (fx_runVP (q := (RX12, TX12, 26)) C hH hl.1 (As := [.int (xs (6 * k + 1)), .int (xs (6 * k + 2))]) (rest := [.int a]) hM mY_X12_pays ml_L_125 im_X12_pays se_X12_X12_pays hfs rfl rfl ⟨(Nat.le_of_ble_eq_true rfl), (Nat.le_of_ble_eq_true rfl)⟩ rfl (Nat.le_of_ble_eq_true rfl) ⟨show cells + 0 + 0 ≤ 600000 by omega, show slots + 0 + 0 ≤ 7302250 by omega⟩ dL_law_1000) (fun v2 f2 z2 H locs hPo hH => ?_)
  obtain ⟨rfl, hR2⟩ := hPo
  show W _ _ _ _ _ _ _ _ _ _ _ _ _ _ _ (F0 m 1003 ls [.int a, .int a])
  refine lv_icmp_eq (tgt := 1352) hx hb dL_law_1003 (by decide) (fun _ => ?_) (fun q => absurd rfl q)
  exact W.widen (show cells + 0 + 0 ≤ cells + 9 by omega) (show slots + 0 + 0 ≤ slots + 52 by omega) (nx f2 z2 H locs hR2 hH)
set_option maxHeartbeats 4000000 in
set_option maxRecDepth 100000 in
theorem lw_whose_at {p : Program} {l : Launch} {e : Env} {s : State} {m : MethodId} {below : List Frame} {meth : Method} {c : Code} {H : Heap} {locs : List Loc} {cells slots : Nat} {Q : State → Prop} {G : GG} {a0 L k : Nat} {xs : Nat → Int32} {f : Hp} {sz : Nat} {ls : Array Slot} (C : fx_C G p s m c cL_law 4 RL) (hX : va_X a0 L xs s s.heap) (hbl : a0 < s.heap.size) (hL : L ≤ 384) (hk : 6 * k + 6 ≤ L) (hR : REL s.heap.size f sz) (hH : fx_H G s.heap.size s f sz H locs) (hl : lv_has ls 4 [(0, .ref a0), (1, .ref s.heap.size), (2, .ref (s.heap.size + 84)), (3, .int (nI (6 * k)))]) (hc : cells + 9 ≤ 600000 ∧ slots + 52 ≤ 7302250) (nx : ∀ (f' : Hp) (sz' : Nat) (H' : Heap) (locs' : List Loc), REL s.heap.size f' sz' → fx_H G s.heap.size s f' sz' H' locs' → W p l e room_1 s m #[Value.ref a0] below meth c H' locs' (cells + 9) (slots + 52) Q (F0 m 1352 ls [])) : W p l e room_1 s m #[Value.ref a0] below meth c H locs cells slots Q (F0 m 1008 ls []) := by
  have hx := C.1
  have hb := C.2.1
  obtain ⟨oa, ak, tn, tt, fa, fi, hRp⟩ := id hR
  have hx0 := hRp.1
  refine lv_aload_n hx hb dL_law_1008 rfl (lv_at hl 1 rfl) ?_
  refine lw_arg (jj := 1) hx hb hX hbl hL hH hl (by omega) (by decide) dL_law_1009 dL_law_1010 dL_law_1011 dL_law_1012 dL_law_1013 ?_
  refine lw_arg (jj := 2) hx hb hX hbl hL hH hl (by omega) (by decide) dL_law_1014 dL_law_1015 dL_law_1016 dL_law_1017 dL_law_1018 ?_
  refine lw_arg (jj := 3) hx hb hX hbl hL hH hl (by omega) (by decide) dL_law_1019 dL_law_1020 dL_law_1021 dL_law_1022 dL_law_1023 ?_
  refine fx_afterP hH (fx_runVP (q := (RX11, TX11, 11)) C hH hl.1 (As := [.int (xs (6 * k + 1)), .int (xs (6 * k + 2)), .int (xs (6 * k + 3))]) (rest := []) (op_whose hR (xs (6 * k + 1)) (xs (6 * k + 2)) (xs (6 * k + 3))) mY_X11_whose ml_L_126 im_X11_whose se_X11_X11_whose hx0 rfl rfl ⟨(Nat.le_of_ble_eq_true rfl), (Nat.le_of_ble_eq_true rfl)⟩ rfl (Nat.le_of_ble_eq_true rfl) ⟨show cells + 0 ≤ 600000 by omega, show slots + 0 ≤ 7302250 by omega⟩ dL_law_1024) (fun v1 f1 z1 H locs hPo hH => ?_)
  obtain ⟨a, rfl, ⟨fs, hfs⟩, hM⟩ := hPo
  show W _ _ _ _ _ _ _ _ _ _ _ _ _ _ _ (F0 m 1027 ls [.int a])
  refine lv_aload_n hx hb dL_law_1027 rfl (lv_at hl 2 rfl) ?_
  refine lw_arg (jj := 1) hx hb hX hbl hL hH hl (by omega) (by decide) dL_law_1028 dL_law_1029 dL_law_1030 dL_law_1031 dL_law_1032 ?_
  refine lw_arg (jj := 2) hx hb hX hbl hL hH hl (by omega) (by decide) dL_law_1033 dL_law_1034 dL_law_1035 dL_law_1036 dL_law_1037 ?_
  refine lw_arg (jj := 3) hx hb hX hbl hL hH hl (by omega) (by decide) dL_law_1038 dL_law_1039 dL_law_1040 dL_law_1041 dL_law_1042 ?_
  refine fx_afterP hH (fx_runVP (q := (RX12, TX12, 26)) C hH hl.1 (As := [.int (xs (6 * k + 1)), .int (xs (6 * k + 2)), .int (xs (6 * k + 3))]) (rest := [.int a]) hM mY_X12_whose ml_L_129 im_X12_whose se_X12_X12_whose hfs rfl rfl ⟨(Nat.le_of_ble_eq_true rfl), (Nat.le_of_ble_eq_true rfl)⟩ rfl (Nat.le_of_ble_eq_true rfl) ⟨show cells + 0 + 0 ≤ 600000 by omega, show slots + 0 + 0 ≤ 7302250 by omega⟩ dL_law_1043) (fun v2 f2 z2 H locs hPo hH => ?_)
  obtain ⟨rfl, hR2⟩ := hPo
  show W _ _ _ _ _ _ _ _ _ _ _ _ _ _ _ (F0 m 1046 ls [.int a, .int a])
  refine lv_icmp_eq (tgt := 1352) hx hb dL_law_1046 (by decide) (fun _ => ?_) (fun q => absurd rfl q)
  exact W.widen (show cells + 0 + 0 ≤ cells + 9 by omega) (show slots + 0 + 0 ≤ slots + 52 by omega) (nx f2 z2 H locs hR2 hH)
set_option maxHeartbeats 4000000 in
set_option maxRecDepth 100000 in
theorem lw_rule_at {p : Program} {l : Launch} {e : Env} {s : State} {m : MethodId} {below : List Frame} {meth : Method} {c : Code} {H : Heap} {locs : List Loc} {cells slots : Nat} {Q : State → Prop} {G : GG} {a0 L k : Nat} {xs : Nat → Int32} {f : Hp} {sz : Nat} {ls : Array Slot} (C : fx_C G p s m c cL_law 4 RL) (hX : va_X a0 L xs s s.heap) (hbl : a0 < s.heap.size) (hL : L ≤ 384) (hk : 6 * k + 6 ≤ L) (hR : REL s.heap.size f sz) (hH : fx_H G s.heap.size s f sz H locs) (hl : lv_has ls 4 [(0, .ref a0), (1, .ref s.heap.size), (2, .ref (s.heap.size + 84)), (3, .int (nI (6 * k)))]) (hc : cells + 9 ≤ 600000 ∧ slots + 52 ≤ 7302250) (nx : ∀ (f' : Hp) (sz' : Nat) (H' : Heap) (locs' : List Loc), REL s.heap.size f' sz' → fx_H G s.heap.size s f' sz' H' locs' → W p l e room_1 s m #[Value.ref a0] below meth c H' locs' (cells + 9) (slots + 52) Q (F0 m 1352 ls [])) : W p l e room_1 s m #[Value.ref a0] below meth c H locs cells slots Q (F0 m 1051 ls []) := by
  have hx := C.1
  have hb := C.2.1
  obtain ⟨oa, ak, tn, tt, fa, fi, hRp⟩ := id hR
  have hx0 := hRp.1
  refine lv_aload_n hx hb dL_law_1051 rfl (lv_at hl 1 rfl) ?_
  refine lw_arg (jj := 1) hx hb hX hbl hL hH hl (by omega) (by decide) dL_law_1052 dL_law_1053 dL_law_1054 dL_law_1055 dL_law_1056 ?_
  refine lw_arg (jj := 2) hx hb hX hbl hL hH hl (by omega) (by decide) dL_law_1057 dL_law_1058 dL_law_1059 dL_law_1060 dL_law_1061 ?_
  refine lw_arg (jj := 3) hx hb hX hbl hL hH hl (by omega) (by decide) dL_law_1062 dL_law_1063 dL_law_1064 dL_law_1065 dL_law_1066 ?_
  refine lw_arg (jj := 4) hx hb hX hbl hL hH hl (by omega) (by decide) dL_law_1067 dL_law_1068 dL_law_1069 dL_law_1070 dL_law_1071 ?_
  refine lw_arg (jj := 5) hx hb hX hbl hL hH hl (by omega) (by decide) dL_law_1072 dL_law_1073 dL_law_1074 dL_law_1075 dL_law_1076 ?_
  refine fx_afterP hH (fx_runVP (q := (RX11, TX11, 11)) C hH hl.1 (As := [.int (xs (6 * k + 1)), .int (xs (6 * k + 2)), .int (xs (6 * k + 3)), .int (xs (6 * k + 4)), .int (xs (6 * k + 5))]) (rest := []) (op_rule hR (xs (6 * k + 1)) (xs (6 * k + 2)) (xs (6 * k + 3)) (xs (6 * k + 4)) (xs (6 * k + 5))) mY_X11_rule ml_L_130 im_X11_rule se_X11_X11_rule hx0 rfl rfl ⟨(Nat.le_of_ble_eq_true rfl), (Nat.le_of_ble_eq_true rfl)⟩ rfl (Nat.le_of_ble_eq_true rfl) ⟨show cells + 0 ≤ 600000 by omega, show slots + 0 ≤ 7302250 by omega⟩ dL_law_1077) (fun v1 f1 z1 H locs hPo hH => ?_)
  obtain ⟨a, rfl, ⟨fs, hfs⟩, hM⟩ := hPo
  show W _ _ _ _ _ _ _ _ _ _ _ _ _ _ _ (F0 m 1080 ls [.long a])
  refine lv_aload_n hx hb dL_law_1080 rfl (lv_at hl 2 rfl) ?_
  refine lw_arg (jj := 1) hx hb hX hbl hL hH hl (by omega) (by decide) dL_law_1081 dL_law_1082 dL_law_1083 dL_law_1084 dL_law_1085 ?_
  refine lw_arg (jj := 2) hx hb hX hbl hL hH hl (by omega) (by decide) dL_law_1086 dL_law_1087 dL_law_1088 dL_law_1089 dL_law_1090 ?_
  refine lw_arg (jj := 3) hx hb hX hbl hL hH hl (by omega) (by decide) dL_law_1091 dL_law_1092 dL_law_1093 dL_law_1094 dL_law_1095 ?_
  refine lw_arg (jj := 4) hx hb hX hbl hL hH hl (by omega) (by decide) dL_law_1096 dL_law_1097 dL_law_1098 dL_law_1099 dL_law_1100 ?_
  refine lw_arg (jj := 5) hx hb hX hbl hL hH hl (by omega) (by decide) dL_law_1101 dL_law_1102 dL_law_1103 dL_law_1104 dL_law_1105 ?_
  refine fx_afterP hH (fx_runVP (q := (RX12, TX12, 26)) C hH hl.1 (As := [.int (xs (6 * k + 1)), .int (xs (6 * k + 2)), .int (xs (6 * k + 3)), .int (xs (6 * k + 4)), .int (xs (6 * k + 5))]) (rest := [.long a]) hM mY_X12_rule ml_L_133 im_X12_rule se_X12_X12_rule hfs rfl rfl ⟨(Nat.le_of_ble_eq_true rfl), (Nat.le_of_ble_eq_true rfl)⟩ rfl (Nat.le_of_ble_eq_true rfl) ⟨show cells + 0 + 0 ≤ 600000 by omega, show slots + 0 + 0 ≤ 7302250 by omega⟩ dL_law_1106) (fun v2 f2 z2 H locs hPo hH => ?_)
  obtain ⟨rfl, hR2⟩ := hPo
  show W _ _ _ _ _ _ _ _ _ _ _ _ _ _ _ (F0 m 1109 ls [.long a, .long a])
  refine W.lcmp hx hb dL_law_1109 ?_
  refine fx_J_eq (tgt := 1352) hx hb dL_law_1110 (by decide) (fun _ => ?_) (fun q => absurd rfl q)
  exact W.widen (show cells + 0 + 0 ≤ cells + 9 by omega) (show slots + 0 + 0 ≤ slots + 52 by omega) (nx f2 z2 H locs hR2 hH)
set_option maxHeartbeats 4000000 in
set_option maxRecDepth 100000 in
theorem lw_search_at {p : Program} {l : Launch} {e : Env} {s : State} {m : MethodId} {below : List Frame} {meth : Method} {c : Code} {H : Heap} {locs : List Loc} {cells slots : Nat} {Q : State → Prop} {G : GG} {a0 L k : Nat} {xs : Nat → Int32} {f : Hp} {sz : Nat} {ls : Array Slot} (C : fx_C G p s m c cL_law 4 RL) (hX : va_X a0 L xs s s.heap) (hbl : a0 < s.heap.size) (hL : L ≤ 384) (hk : 6 * k + 6 ≤ L) (hR : REL s.heap.size f sz) (hH : fx_H G s.heap.size s f sz H locs) (hl : lv_has ls 4 [(0, .ref a0), (1, .ref s.heap.size), (2, .ref (s.heap.size + 84)), (3, .int (nI (6 * k)))]) (hc : cells + 9 ≤ 600000 ∧ slots + 52 ≤ 7302250) (nx : ∀ (f' : Hp) (sz' : Nat) (H' : Heap) (locs' : List Loc), REL s.heap.size f' sz' → fx_H G s.heap.size s f' sz' H' locs' → W p l e room_1 s m #[Value.ref a0] below meth c H' locs' (cells + 9) (slots + 52) Q (F0 m 1352 ls [])) : W p l e room_1 s m #[Value.ref a0] below meth c H locs cells slots Q (F0 m 1115 ls []) := by
  have hx := C.1
  have hb := C.2.1
  obtain ⟨oa, ak, tn, tt, fa, fi, hRp⟩ := id hR
  have hx0 := hRp.1
  refine lv_aload_n hx hb dL_law_1115 rfl (lv_at hl 1 rfl) ?_
  refine lw_arg (jj := 1) hx hb hX hbl hL hH hl (by omega) (by decide) dL_law_1116 dL_law_1117 dL_law_1118 dL_law_1119 dL_law_1120 ?_
  refine lw_arg (jj := 2) hx hb hX hbl hL hH hl (by omega) (by decide) dL_law_1121 dL_law_1122 dL_law_1123 dL_law_1124 dL_law_1125 ?_
  refine lw_arg (jj := 3) hx hb hX hbl hL hH hl (by omega) (by decide) dL_law_1126 dL_law_1127 dL_law_1128 dL_law_1129 dL_law_1130 ?_
  refine fx_afterP hH (fx_runVP (q := (RX11, TX11, 11)) C hH hl.1 (As := [.int (xs (6 * k + 1)), .int (xs (6 * k + 2)), .int (xs (6 * k + 3))]) (rest := []) (op_search hR (xs (6 * k + 1)) (xs (6 * k + 2)) (xs (6 * k + 3))) mY_X11_search ml_L_134 im_X11_search se_X11_X11_search hx0 rfl rfl ⟨(Nat.le_of_ble_eq_true rfl), (Nat.le_of_ble_eq_true rfl)⟩ rfl (Nat.le_of_ble_eq_true rfl) ⟨show cells + 0 ≤ 600000 by omega, show slots + 0 ≤ 7302250 by omega⟩ dL_law_1131) (fun v1 f1 z1 H locs hPo hH => ?_)
  obtain ⟨a, rfl, ⟨fs, hfs⟩, hM⟩ := hPo
  show W _ _ _ _ _ _ _ _ _ _ _ _ _ _ _ (F0 m 1134 ls [.int a])
  refine lv_aload_n hx hb dL_law_1134 rfl (lv_at hl 2 rfl) ?_
  refine lw_arg (jj := 1) hx hb hX hbl hL hH hl (by omega) (by decide) dL_law_1135 dL_law_1136 dL_law_1137 dL_law_1138 dL_law_1139 ?_
  refine lw_arg (jj := 2) hx hb hX hbl hL hH hl (by omega) (by decide) dL_law_1140 dL_law_1141 dL_law_1142 dL_law_1143 dL_law_1144 ?_
  refine lw_arg (jj := 3) hx hb hX hbl hL hH hl (by omega) (by decide) dL_law_1145 dL_law_1146 dL_law_1147 dL_law_1148 dL_law_1149 ?_
  refine fx_afterP hH (fx_runVP (q := (RX12, TX12, 26)) C hH hl.1 (As := [.int (xs (6 * k + 1)), .int (xs (6 * k + 2)), .int (xs (6 * k + 3))]) (rest := [.int a]) hM mY_X12_search ml_L_137 im_X12_search se_X12_X12_search hfs rfl rfl ⟨(Nat.le_of_ble_eq_true rfl), (Nat.le_of_ble_eq_true rfl)⟩ rfl (Nat.le_of_ble_eq_true rfl) ⟨show cells + 0 + 0 ≤ 600000 by omega, show slots + 0 + 0 ≤ 7302250 by omega⟩ dL_law_1150) (fun v2 f2 z2 H locs hPo hH => ?_)
  obtain ⟨rfl, hR2⟩ := hPo
  show W _ _ _ _ _ _ _ _ _ _ _ _ _ _ _ (F0 m 1153 ls [.int a, .int a])
  refine lv_icmp_eq (tgt := 1352) hx hb dL_law_1153 (by decide) (fun _ => ?_) (fun q => absurd rfl q)
  exact W.widen (show cells + 0 + 0 ≤ cells + 9 by omega) (show slots + 0 + 0 ≤ slots + 52 by omega) (nx f2 z2 H locs hR2 hH)
set_option maxHeartbeats 4000000 in
set_option maxRecDepth 100000 in
theorem lw_image_at {p : Program} {l : Launch} {e : Env} {s : State} {m : MethodId} {below : List Frame} {meth : Method} {c : Code} {H : Heap} {locs : List Loc} {cells slots : Nat} {Q : State → Prop} {G : GG} {a0 L k : Nat} {xs : Nat → Int32} {f : Hp} {sz : Nat} {ls : Array Slot} (C : fx_C G p s m c cL_law 4 RL) (hX : va_X a0 L xs s s.heap) (hbl : a0 < s.heap.size) (hL : L ≤ 384) (hk : 6 * k + 6 ≤ L) (hR : REL s.heap.size f sz) (hH : fx_H G s.heap.size s f sz H locs) (hl : lv_has ls 4 [(0, .ref a0), (1, .ref s.heap.size), (2, .ref (s.heap.size + 84)), (3, .int (nI (6 * k)))]) (hc : cells + 9 ≤ 600000 ∧ slots + 52 ≤ 7302250) (nx : ∀ (f' : Hp) (sz' : Nat) (H' : Heap) (locs' : List Loc), REL s.heap.size f' sz' → fx_H G s.heap.size s f' sz' H' locs' → W p l e room_1 s m #[Value.ref a0] below meth c H' locs' (cells + 9) (slots + 52) Q (F0 m 1352 ls [])) : W p l e room_1 s m #[Value.ref a0] below meth c H locs cells slots Q (F0 m 1158 ls []) := by
  have hx := C.1
  have hb := C.2.1
  obtain ⟨oa, ak, tn, tt, fa, fi, hRp⟩ := id hR
  have hx0 := hRp.1
  refine lv_aload_n hx hb dL_law_1158 rfl (lv_at hl 1 rfl) ?_
  refine lw_arg (jj := 1) hx hb hX hbl hL hH hl (by omega) (by decide) dL_law_1159 dL_law_1160 dL_law_1161 dL_law_1162 dL_law_1163 ?_
  refine fx_afterP hH (fx_runVP (q := (RX11, TX11, 11)) C hH hl.1 (As := [.int (xs (6 * k + 1))]) (rest := []) (op_image hR (xs (6 * k + 1))) mY_X11_image ml_L_138 im_X11_image se_X11_X11_image hx0 rfl rfl ⟨(Nat.le_of_ble_eq_true rfl), (Nat.le_of_ble_eq_true rfl)⟩ rfl (Nat.le_of_ble_eq_true rfl) ⟨show cells + 0 ≤ 600000 by omega, show slots + 0 ≤ 7302250 by omega⟩ dL_law_1164) (fun v1 f1 z1 H locs hPo hH => ?_)
  obtain ⟨a, rfl, ⟨fs, hfs⟩, hM⟩ := hPo
  show W _ _ _ _ _ _ _ _ _ _ _ _ _ _ _ (F0 m 1167 ls [.int a])
  refine lv_aload_n hx hb dL_law_1167 rfl (lv_at hl 2 rfl) ?_
  refine lw_arg (jj := 1) hx hb hX hbl hL hH hl (by omega) (by decide) dL_law_1168 dL_law_1169 dL_law_1170 dL_law_1171 dL_law_1172 ?_
  refine fx_afterP hH (fx_runVP (q := (RX12, TX12, 26)) C hH hl.1 (As := [.int (xs (6 * k + 1))]) (rest := [.int a]) hM mY_X12_image ml_L_141 im_X12_image se_X12_X12_image hfs rfl rfl ⟨(Nat.le_of_ble_eq_true rfl), (Nat.le_of_ble_eq_true rfl)⟩ rfl (Nat.le_of_ble_eq_true rfl) ⟨show cells + 0 + 0 ≤ 600000 by omega, show slots + 0 + 0 ≤ 7302250 by omega⟩ dL_law_1173) (fun v2 f2 z2 H locs hPo hH => ?_)
  obtain ⟨rfl, hR2⟩ := hPo
  show W _ _ _ _ _ _ _ _ _ _ _ _ _ _ _ (F0 m 1176 ls [.int a, .int a])
  refine lv_icmp_eq (tgt := 1352) hx hb dL_law_1176 (by decide) (fun _ => ?_) (fun q => absurd rfl q)
  exact W.widen (show cells + 0 + 0 ≤ cells + 9 by omega) (show slots + 0 + 0 ≤ slots + 52 by omega) (nx f2 z2 H locs hR2 hH)
set_option maxHeartbeats 4000000 in
set_option maxRecDepth 100000 in
theorem lw_restore_at {p : Program} {l : Launch} {e : Env} {s : State} {m : MethodId} {below : List Frame} {meth : Method} {c : Code} {H : Heap} {locs : List Loc} {cells slots : Nat} {Q : State → Prop} {G : GG} {a0 L k : Nat} {xs : Nat → Int32} {f : Hp} {sz : Nat} {ls : Array Slot} (C : fx_C G p s m c cL_law 4 RL) (hX : va_X a0 L xs s s.heap) (hbl : a0 < s.heap.size) (hL : L ≤ 384) (hk : 6 * k + 6 ≤ L) (hR : REL s.heap.size f sz) (hH : fx_H G s.heap.size s f sz H locs) (hl : lv_has ls 4 [(0, .ref a0), (1, .ref s.heap.size), (2, .ref (s.heap.size + 84)), (3, .int (nI (6 * k)))]) (hc : cells + 9 ≤ 600000 ∧ slots + 52 ≤ 7302250) (nx : ∀ (f' : Hp) (sz' : Nat) (H' : Heap) (locs' : List Loc), REL s.heap.size f' sz' → fx_H G s.heap.size s f' sz' H' locs' → W p l e room_1 s m #[Value.ref a0] below meth c H' locs' (cells + 9) (slots + 52) Q (F0 m 1352 ls [])) : W p l e room_1 s m #[Value.ref a0] below meth c H locs cells slots Q (F0 m 1181 ls []) := by
  have hx := C.1
  have hb := C.2.1
  obtain ⟨oa, ak, tn, tt, fa, fi, hRp⟩ := id hR
  have hx0 := hRp.1
  refine lv_aload_n hx hb dL_law_1181 rfl (lv_at hl 1 rfl) ?_
  refine lw_arg (jj := 1) hx hb hX hbl hL hH hl (by omega) (by decide) dL_law_1182 dL_law_1183 dL_law_1184 dL_law_1185 dL_law_1186 ?_
  refine fx_afterP hH (fx_runVP (q := (RX11, TX11, 11)) C hH hl.1 (As := [.int (xs (6 * k + 1))]) (rest := []) (op_restore hR (xs (6 * k + 1))) mY_X11_restore ml_L_142 im_X11_restore se_X11_X11_restore hx0 rfl rfl ⟨(Nat.le_of_ble_eq_true rfl), (Nat.le_of_ble_eq_true rfl)⟩ rfl (Nat.le_of_ble_eq_true rfl) ⟨show cells + 0 ≤ 600000 by omega, show slots + 0 ≤ 7302250 by omega⟩ dL_law_1187) (fun v1 f1 z1 H locs hPo hH => ?_)
  obtain ⟨a, rfl, ⟨fs, hfs⟩, hM⟩ := hPo
  show W _ _ _ _ _ _ _ _ _ _ _ _ _ _ _ (F0 m 1190 ls [.int a])
  refine lv_aload_n hx hb dL_law_1190 rfl (lv_at hl 2 rfl) ?_
  refine lw_arg (jj := 1) hx hb hX hbl hL hH hl (by omega) (by decide) dL_law_1191 dL_law_1192 dL_law_1193 dL_law_1194 dL_law_1195 ?_
  refine fx_afterP hH (fx_runVP (q := (RX12, TX12, 26)) C hH hl.1 (As := [.int (xs (6 * k + 1))]) (rest := [.int a]) hM mY_X12_restore ml_L_145 im_X12_restore se_X12_X12_restore hfs rfl rfl ⟨(Nat.le_of_ble_eq_true rfl), (Nat.le_of_ble_eq_true rfl)⟩ rfl (Nat.le_of_ble_eq_true rfl) ⟨show cells + 0 + 0 ≤ 600000 by omega, show slots + 0 + 0 ≤ 7302250 by omega⟩ dL_law_1196) (fun v2 f2 z2 H locs hPo hH => ?_)
  obtain ⟨rfl, hR2⟩ := hPo
  show W _ _ _ _ _ _ _ _ _ _ _ _ _ _ _ (F0 m 1199 ls [.int a, .int a])
  refine lv_icmp_eq (tgt := 1352) hx hb dL_law_1199 (by decide) (fun _ => ?_) (fun q => absurd rfl q)
  exact W.widen (show cells + 0 + 0 ≤ cells + 9 by omega) (show slots + 0 + 0 ≤ slots + 52 by omega) (nx f2 z2 H locs hR2 hH)
set_option maxHeartbeats 4000000 in
set_option maxRecDepth 100000 in
theorem lw_kind_at {p : Program} {l : Launch} {e : Env} {s : State} {m : MethodId} {below : List Frame} {meth : Method} {c : Code} {H : Heap} {locs : List Loc} {cells slots : Nat} {Q : State → Prop} {G : GG} {a0 L k : Nat} {xs : Nat → Int32} {f : Hp} {sz : Nat} {ls : Array Slot} (C : fx_C G p s m c cL_law 4 RL) (hX : va_X a0 L xs s s.heap) (hbl : a0 < s.heap.size) (hL : L ≤ 384) (hk : 6 * k + 6 ≤ L) (hR : REL s.heap.size f sz) (hH : fx_H G s.heap.size s f sz H locs) (hl : lv_has ls 4 [(0, .ref a0), (1, .ref s.heap.size), (2, .ref (s.heap.size + 84)), (3, .int (nI (6 * k)))]) (hc : cells + 9 ≤ 600000 ∧ slots + 52 ≤ 7302250) (nx : ∀ (f' : Hp) (sz' : Nat) (H' : Heap) (locs' : List Loc), REL s.heap.size f' sz' → fx_H G s.heap.size s f' sz' H' locs' → W p l e room_1 s m #[Value.ref a0] below meth c H' locs' (cells + 9) (slots + 52) Q (F0 m 1352 ls [])) : W p l e room_1 s m #[Value.ref a0] below meth c H locs cells slots Q (F0 m 1204 ls []) := by
  have hx := C.1
  have hb := C.2.1
  obtain ⟨oa, ak, tn, tt, fa, fi, hRp⟩ := id hR
  have hx0 := hRp.1
  refine lv_aload_n hx hb dL_law_1204 rfl (lv_at hl 1 rfl) ?_
  refine lw_arg (jj := 1) hx hb hX hbl hL hH hl (by omega) (by decide) dL_law_1205 dL_law_1206 dL_law_1207 dL_law_1208 dL_law_1209 ?_
  refine fx_afterP hH (fx_runVP (q := (RX11, TX11, 11)) C hH hl.1 (As := [.int (xs (6 * k + 1))]) (rest := []) (op_kind hR (xs (6 * k + 1))) mY_X11_kind ml_L_146 im_X11_kind se_X11_X11_kind hx0 rfl rfl ⟨(Nat.le_of_ble_eq_true rfl), (Nat.le_of_ble_eq_true rfl)⟩ rfl (Nat.le_of_ble_eq_true rfl) ⟨show cells + 0 ≤ 600000 by omega, show slots + 0 ≤ 7302250 by omega⟩ dL_law_1210) (fun v1 f1 z1 H locs hPo hH => ?_)
  obtain ⟨a, rfl, ⟨fs, hfs⟩, hM⟩ := hPo
  show W _ _ _ _ _ _ _ _ _ _ _ _ _ _ _ (F0 m 1213 ls [.int a])
  refine lv_aload_n hx hb dL_law_1213 rfl (lv_at hl 2 rfl) ?_
  refine lw_arg (jj := 1) hx hb hX hbl hL hH hl (by omega) (by decide) dL_law_1214 dL_law_1215 dL_law_1216 dL_law_1217 dL_law_1218 ?_
  refine fx_afterP hH (fx_runVP (q := (RX12, TX12, 26)) C hH hl.1 (As := [.int (xs (6 * k + 1))]) (rest := [.int a]) hM mY_X12_kind ml_L_149 im_X12_kind se_X12_X12_kind hfs rfl rfl ⟨(Nat.le_of_ble_eq_true rfl), (Nat.le_of_ble_eq_true rfl)⟩ rfl (Nat.le_of_ble_eq_true rfl) ⟨show cells + 0 + 0 ≤ 600000 by omega, show slots + 0 + 0 ≤ 7302250 by omega⟩ dL_law_1219) (fun v2 f2 z2 H locs hPo hH => ?_)
  obtain ⟨rfl, hR2⟩ := hPo
  show W _ _ _ _ _ _ _ _ _ _ _ _ _ _ _ (F0 m 1222 ls [.int a, .int a])
  refine lv_icmp_eq (tgt := 1352) hx hb dL_law_1222 (by decide) (fun _ => ?_) (fun q => absurd rfl q)
  exact W.widen (show cells + 0 + 0 ≤ cells + 9 by omega) (show slots + 0 + 0 ≤ slots + 52 by omega) (nx f2 z2 H locs hR2 hH)
set_option maxHeartbeats 4000000 in
set_option maxRecDepth 100000 in
theorem lw_as_at {p : Program} {l : Launch} {e : Env} {s : State} {m : MethodId} {below : List Frame} {meth : Method} {c : Code} {H : Heap} {locs : List Loc} {cells slots : Nat} {Q : State → Prop} {G : GG} {a0 L k : Nat} {xs : Nat → Int32} {f : Hp} {sz : Nat} {ls : Array Slot} (C : fx_C G p s m c cL_law 4 RL) (hX : va_X a0 L xs s s.heap) (hbl : a0 < s.heap.size) (hL : L ≤ 384) (hk : 6 * k + 6 ≤ L) (hR : REL s.heap.size f sz) (hH : fx_H G s.heap.size s f sz H locs) (hl : lv_has ls 4 [(0, .ref a0), (1, .ref s.heap.size), (2, .ref (s.heap.size + 84)), (3, .int (nI (6 * k)))]) (hc : cells + 9 ≤ 600000 ∧ slots + 52 ≤ 7302250) (nx : ∀ (f' : Hp) (sz' : Nat) (H' : Heap) (locs' : List Loc), REL s.heap.size f' sz' → fx_H G s.heap.size s f' sz' H' locs' → W p l e room_1 s m #[Value.ref a0] below meth c H' locs' (cells + 9) (slots + 52) Q (F0 m 1352 ls [])) : W p l e room_1 s m #[Value.ref a0] below meth c H locs cells slots Q (F0 m 1227 ls []) := by
  have hx := C.1
  have hb := C.2.1
  obtain ⟨oa, ak, tn, tt, fa, fi, hRp⟩ := id hR
  have hx0 := hRp.1
  refine lv_aload_n hx hb dL_law_1227 rfl (lv_at hl 1 rfl) ?_
  refine lw_arg (jj := 1) hx hb hX hbl hL hH hl (by omega) (by decide) dL_law_1228 dL_law_1229 dL_law_1230 dL_law_1231 dL_law_1232 ?_
  refine lw_arg (jj := 2) hx hb hX hbl hL hH hl (by omega) (by decide) dL_law_1233 dL_law_1234 dL_law_1235 dL_law_1236 dL_law_1237 ?_
  refine fx_afterP hH (fx_runVP (q := (RX11, TX11, 11)) C hH hl.1 (As := [.int (xs (6 * k + 1)), .int (xs (6 * k + 2))]) (rest := []) (op_as hR (xs (6 * k + 1)) (xs (6 * k + 2))) mY_X11_as ml_L_150 im_X11_as se_X11_X11_as hx0 rfl rfl ⟨(Nat.le_of_ble_eq_true rfl), (Nat.le_of_ble_eq_true rfl)⟩ rfl (Nat.le_of_ble_eq_true rfl) ⟨show cells + 0 ≤ 600000 by omega, show slots + 0 ≤ 7302250 by omega⟩ dL_law_1238) (fun v1 f1 z1 H locs hPo hH => ?_)
  obtain ⟨a, rfl, ⟨fs, hfs⟩, hM⟩ := hPo
  show W _ _ _ _ _ _ _ _ _ _ _ _ _ _ _ (F0 m 1241 ls [.int a])
  refine lv_aload_n hx hb dL_law_1241 rfl (lv_at hl 2 rfl) ?_
  refine lw_arg (jj := 1) hx hb hX hbl hL hH hl (by omega) (by decide) dL_law_1242 dL_law_1243 dL_law_1244 dL_law_1245 dL_law_1246 ?_
  refine lw_arg (jj := 2) hx hb hX hbl hL hH hl (by omega) (by decide) dL_law_1247 dL_law_1248 dL_law_1249 dL_law_1250 dL_law_1251 ?_
  refine fx_afterP hH (fx_runVP (q := (RX12, TX12, 26)) C hH hl.1 (As := [.int (xs (6 * k + 1)), .int (xs (6 * k + 2))]) (rest := [.int a]) hM mY_X12_as ml_L_153 im_X12_as se_X12_X12_as hfs rfl rfl ⟨(Nat.le_of_ble_eq_true rfl), (Nat.le_of_ble_eq_true rfl)⟩ rfl (Nat.le_of_ble_eq_true rfl) ⟨show cells + 0 + 0 ≤ 600000 by omega, show slots + 0 + 0 ≤ 7302250 by omega⟩ dL_law_1252) (fun v2 f2 z2 H locs hPo hH => ?_)
  obtain ⟨rfl, hR2⟩ := hPo
  show W _ _ _ _ _ _ _ _ _ _ _ _ _ _ _ (F0 m 1255 ls [.int a, .int a])
  refine lv_icmp_eq (tgt := 1352) hx hb dL_law_1255 (by decide) (fun _ => ?_) (fun q => absurd rfl q)
  exact W.widen (show cells + 0 + 0 ≤ cells + 9 by omega) (show slots + 0 + 0 ≤ slots + 52 by omega) (nx f2 z2 H locs hR2 hH)
set_option maxHeartbeats 4000000 in
set_option maxRecDepth 100000 in
theorem lw_ask_at {p : Program} {l : Launch} {e : Env} {s : State} {m : MethodId} {below : List Frame} {meth : Method} {c : Code} {H : Heap} {locs : List Loc} {cells slots : Nat} {Q : State → Prop} {G : GG} {a0 L k : Nat} {xs : Nat → Int32} {f : Hp} {sz : Nat} {ls : Array Slot} (C : fx_C G p s m c cL_law 4 RL) (hX : va_X a0 L xs s s.heap) (hbl : a0 < s.heap.size) (hL : L ≤ 384) (hk : 6 * k + 6 ≤ L) (hR : REL s.heap.size f sz) (hH : fx_H G s.heap.size s f sz H locs) (hl : lv_has ls 4 [(0, .ref a0), (1, .ref s.heap.size), (2, .ref (s.heap.size + 84)), (3, .int (nI (6 * k)))]) (hc : cells + 9 ≤ 600000 ∧ slots + 52 ≤ 7302250) (nx : ∀ (f' : Hp) (sz' : Nat) (H' : Heap) (locs' : List Loc), REL s.heap.size f' sz' → fx_H G s.heap.size s f' sz' H' locs' → W p l e room_1 s m #[Value.ref a0] below meth c H' locs' (cells + 9) (slots + 52) Q (F0 m 1352 ls [])) : W p l e room_1 s m #[Value.ref a0] below meth c H locs cells slots Q (F0 m 1260 ls []) := by
  have hx := C.1
  have hb := C.2.1
  obtain ⟨oa, ak, tn, tt, fa, fi, hRp⟩ := id hR
  have hx0 := hRp.1
  refine lv_aload_n hx hb dL_law_1260 rfl (lv_at hl 1 rfl) ?_
  refine lw_arg (jj := 1) hx hb hX hbl hL hH hl (by omega) (by decide) dL_law_1261 dL_law_1262 dL_law_1263 dL_law_1264 dL_law_1265 ?_
  refine lw_arg (jj := 2) hx hb hX hbl hL hH hl (by omega) (by decide) dL_law_1266 dL_law_1267 dL_law_1268 dL_law_1269 dL_law_1270 ?_
  refine fx_afterP hH (fx_runVP (q := (RX11, TX11, 11)) C hH hl.1 (As := [.int (xs (6 * k + 1)), .int (xs (6 * k + 2))]) (rest := []) (op_ask hR (xs (6 * k + 1)) (xs (6 * k + 2))) mY_X11_ask ml_L_154 im_X11_ask se_X11_X11_ask hx0 rfl rfl ⟨(Nat.le_of_ble_eq_true rfl), (Nat.le_of_ble_eq_true rfl)⟩ rfl (Nat.le_of_ble_eq_true rfl) ⟨show cells + 0 ≤ 600000 by omega, show slots + 0 ≤ 7302250 by omega⟩ dL_law_1271) (fun v1 f1 z1 H locs hPo hH => ?_)
  obtain ⟨a, rfl, ⟨fs, hfs⟩, hM⟩ := hPo
  show W _ _ _ _ _ _ _ _ _ _ _ _ _ _ _ (F0 m 1274 ls [.int a])
  refine lv_aload_n hx hb dL_law_1274 rfl (lv_at hl 2 rfl) ?_
  refine lw_arg (jj := 1) hx hb hX hbl hL hH hl (by omega) (by decide) dL_law_1275 dL_law_1276 dL_law_1277 dL_law_1278 dL_law_1279 ?_
  refine lw_arg (jj := 2) hx hb hX hbl hL hH hl (by omega) (by decide) dL_law_1280 dL_law_1281 dL_law_1282 dL_law_1283 dL_law_1284 ?_
  refine fx_afterP hH (fx_runVP (q := (RX12, TX12, 26)) C hH hl.1 (As := [.int (xs (6 * k + 1)), .int (xs (6 * k + 2))]) (rest := [.int a]) hM mY_X12_ask ml_L_157 im_X12_ask se_X12_X12_ask hfs rfl rfl ⟨(Nat.le_of_ble_eq_true rfl), (Nat.le_of_ble_eq_true rfl)⟩ rfl (Nat.le_of_ble_eq_true rfl) ⟨show cells + 0 + 0 ≤ 600000 by omega, show slots + 0 + 0 ≤ 7302250 by omega⟩ dL_law_1285) (fun v2 f2 z2 H locs hPo hH => ?_)
  obtain ⟨rfl, hR2⟩ := hPo
  show W _ _ _ _ _ _ _ _ _ _ _ _ _ _ _ (F0 m 1288 ls [.int a, .int a])
  refine lv_icmp_eq (tgt := 1352) hx hb dL_law_1288 (by decide) (fun _ => ?_) (fun q => absurd rfl q)
  exact W.widen (show cells + 0 + 0 ≤ cells + 9 by omega) (show slots + 0 + 0 ≤ slots + 52 by omega) (nx f2 z2 H locs hR2 hH)
set_option maxHeartbeats 4000000 in
set_option maxRecDepth 100000 in
theorem lw_trace_at {p : Program} {l : Launch} {e : Env} {s : State} {m : MethodId} {below : List Frame} {meth : Method} {c : Code} {H : Heap} {locs : List Loc} {cells slots : Nat} {Q : State → Prop} {G : GG} {a0 L k : Nat} {xs : Nat → Int32} {f : Hp} {sz : Nat} {ls : Array Slot} (C : fx_C G p s m c cL_law 4 RL) (hX : va_X a0 L xs s s.heap) (hbl : a0 < s.heap.size) (hL : L ≤ 384) (hk : 6 * k + 6 ≤ L) (hR : REL s.heap.size f sz) (hH : fx_H G s.heap.size s f sz H locs) (hl : lv_has ls 4 [(0, .ref a0), (1, .ref s.heap.size), (2, .ref (s.heap.size + 84)), (3, .int (nI (6 * k)))]) (hc : cells + 9 ≤ 600000 ∧ slots + 52 ≤ 7302250) (nx : ∀ (f' : Hp) (sz' : Nat) (H' : Heap) (locs' : List Loc), REL s.heap.size f' sz' → fx_H G s.heap.size s f' sz' H' locs' → W p l e room_1 s m #[Value.ref a0] below meth c H' locs' (cells + 9) (slots + 52) Q (F0 m 1352 ls [])) : W p l e room_1 s m #[Value.ref a0] below meth c H locs cells slots Q (F0 m 1293 ls []) := by
  have hx := C.1
  have hb := C.2.1
  obtain ⟨oa, ak, tn, tt, fa, fi, hRp⟩ := id hR
  have hx0 := hRp.1
  refine lv_aload_n hx hb dL_law_1293 rfl (lv_at hl 1 rfl) ?_
  refine lw_arg (jj := 1) hx hb hX hbl hL hH hl (by omega) (by decide) dL_law_1294 dL_law_1295 dL_law_1296 dL_law_1297 dL_law_1298 ?_
  refine fx_afterP hH (fx_runVP (q := (RX11, TX11, 11)) C hH hl.1 (As := [.int (xs (6 * k + 1))]) (rest := []) (op_trace hR (xs (6 * k + 1))) mY_X11_trace ml_L_158 im_X11_trace se_X11_X11_trace hx0 rfl rfl ⟨(Nat.le_of_ble_eq_true rfl), (Nat.le_of_ble_eq_true rfl)⟩ rfl (Nat.le_of_ble_eq_true rfl) ⟨show cells + 0 ≤ 600000 by omega, show slots + 0 ≤ 7302250 by omega⟩ dL_law_1299) (fun v1 f1 z1 H locs hPo hH => ?_)
  obtain ⟨a, rfl, ⟨fs, hfs⟩, hM⟩ := hPo
  show W _ _ _ _ _ _ _ _ _ _ _ _ _ _ _ (F0 m 1302 ls [.int a])
  refine lv_aload_n hx hb dL_law_1302 rfl (lv_at hl 2 rfl) ?_
  refine lw_arg (jj := 1) hx hb hX hbl hL hH hl (by omega) (by decide) dL_law_1303 dL_law_1304 dL_law_1305 dL_law_1306 dL_law_1307 ?_
  refine fx_afterP hH (fx_runVP (q := (RX12, TX12, 26)) C hH hl.1 (As := [.int (xs (6 * k + 1))]) (rest := [.int a]) hM mY_X12_trace ml_L_161 im_X12_trace se_X12_X12_trace hfs rfl rfl ⟨(Nat.le_of_ble_eq_true rfl), (Nat.le_of_ble_eq_true rfl)⟩ rfl (Nat.le_of_ble_eq_true rfl) ⟨show cells + 0 + 0 ≤ 600000 by omega, show slots + 0 + 0 ≤ 7302250 by omega⟩ dL_law_1308) (fun v2 f2 z2 H locs hPo hH => ?_)
  obtain ⟨rfl, hR2⟩ := hPo
  show W _ _ _ _ _ _ _ _ _ _ _ _ _ _ _ (F0 m 1311 ls [.int a, .int a])
  refine lv_icmp_eq (tgt := 1352) hx hb dL_law_1311 (by decide) (fun _ => ?_) (fun q => absurd rfl q)
  exact W.widen (show cells + 0 + 0 ≤ cells + 9 by omega) (show slots + 0 + 0 ≤ slots + 52 by omega) (nx f2 z2 H locs hR2 hH)
set_option maxHeartbeats 4000000 in
set_option maxRecDepth 100000 in
theorem lw_count_at {p : Program} {l : Launch} {e : Env} {s : State} {m : MethodId} {below : List Frame} {meth : Method} {c : Code} {H : Heap} {locs : List Loc} {cells slots : Nat} {Q : State → Prop} {G : GG} {a0 L k : Nat} {xs : Nat → Int32} {f : Hp} {sz : Nat} {ls : Array Slot} (C : fx_C G p s m c cL_law 4 RL) (hX : va_X a0 L xs s s.heap) (hbl : a0 < s.heap.size) (hL : L ≤ 384) (hk : 6 * k + 6 ≤ L) (hR : REL s.heap.size f sz) (hH : fx_H G s.heap.size s f sz H locs) (hl : lv_has ls 4 [(0, .ref a0), (1, .ref s.heap.size), (2, .ref (s.heap.size + 84)), (3, .int (nI (6 * k)))]) (hc : cells + 9 ≤ 600000 ∧ slots + 52 ≤ 7302250) (nx : ∀ (f' : Hp) (sz' : Nat) (H' : Heap) (locs' : List Loc), REL s.heap.size f' sz' → fx_H G s.heap.size s f' sz' H' locs' → W p l e room_1 s m #[Value.ref a0] below meth c H' locs' (cells + 9) (slots + 52) Q (F0 m 1352 ls [])) : W p l e room_1 s m #[Value.ref a0] below meth c H locs cells slots Q (F0 m 1316 ls []) := by
  have hx := C.1
  have hb := C.2.1
  obtain ⟨oa, ak, tn, tt, fa, fi, hRp⟩ := id hR
  have hx0 := hRp.1
  refine lv_aload_n hx hb dL_law_1316 rfl (lv_at hl 1 rfl) ?_
  refine lw_arg (jj := 1) hx hb hX hbl hL hH hl (by omega) (by decide) dL_law_1317 dL_law_1318 dL_law_1319 dL_law_1320 dL_law_1321 ?_
  refine fx_afterP hH (fx_runVP (q := (RX11, TX11, 11)) C hH hl.1 (As := [.int (xs (6 * k + 1))]) (rest := []) (op_count hR (xs (6 * k + 1))) mY_X11_count ml_L_162 im_X11_count se_X11_X11_count hx0 rfl rfl ⟨(Nat.le_of_ble_eq_true rfl), (Nat.le_of_ble_eq_true rfl)⟩ rfl (Nat.le_of_ble_eq_true rfl) ⟨show cells + 0 ≤ 600000 by omega, show slots + 0 ≤ 7302250 by omega⟩ dL_law_1322) (fun v1 f1 z1 H locs hPo hH => ?_)
  obtain ⟨a, rfl, ⟨fs, hfs⟩, hM⟩ := hPo
  show W _ _ _ _ _ _ _ _ _ _ _ _ _ _ _ (F0 m 1325 ls [.int a])
  refine lv_aload_n hx hb dL_law_1325 rfl (lv_at hl 2 rfl) ?_
  refine lw_arg (jj := 1) hx hb hX hbl hL hH hl (by omega) (by decide) dL_law_1326 dL_law_1327 dL_law_1328 dL_law_1329 dL_law_1330 ?_
  refine fx_afterP hH (fx_runVP (q := (RX12, TX12, 26)) C hH hl.1 (As := [.int (xs (6 * k + 1))]) (rest := [.int a]) hM mY_X12_count ml_L_165 im_X12_count se_X12_X12_count hfs rfl rfl ⟨(Nat.le_of_ble_eq_true rfl), (Nat.le_of_ble_eq_true rfl)⟩ rfl (Nat.le_of_ble_eq_true rfl) ⟨show cells + 0 + 0 ≤ 600000 by omega, show slots + 0 + 0 ≤ 7302250 by omega⟩ dL_law_1331) (fun v2 f2 z2 H locs hPo hH => ?_)
  obtain ⟨rfl, hR2⟩ := hPo
  show W _ _ _ _ _ _ _ _ _ _ _ _ _ _ _ (F0 m 1334 ls [.int a, .int a])
  refine lv_icmp_eq (tgt := 1352) hx hb dL_law_1334 (by decide) (fun _ => ?_) (fun q => absurd rfl q)
  exact W.widen (show cells + 0 + 0 ≤ cells + 9 by omega) (show slots + 0 + 0 ≤ slots + 52 by omega) (nx f2 z2 H locs hR2 hH)
set_option maxHeartbeats 4000000 in
set_option maxRecDepth 100000 in
theorem lw_status_at {p : Program} {l : Launch} {e : Env} {s : State} {m : MethodId} {below : List Frame} {meth : Method} {c : Code} {H : Heap} {locs : List Loc} {cells slots : Nat} {Q : State → Prop} {G : GG} {a0 L k : Nat} {xs : Nat → Int32} {f : Hp} {sz : Nat} {ls : Array Slot} (C : fx_C G p s m c cL_law 4 RL) (hX : va_X a0 L xs s s.heap) (hbl : a0 < s.heap.size) (hL : L ≤ 384) (hk : 6 * k + 6 ≤ L) (hR : REL s.heap.size f sz) (hH : fx_H G s.heap.size s f sz H locs) (hl : lv_has ls 4 [(0, .ref a0), (1, .ref s.heap.size), (2, .ref (s.heap.size + 84)), (3, .int (nI (6 * k)))]) (hc : cells + 9 ≤ 600000 ∧ slots + 52 ≤ 7302250) (nx : ∀ (f' : Hp) (sz' : Nat) (H' : Heap) (locs' : List Loc), REL s.heap.size f' sz' → fx_H G s.heap.size s f' sz' H' locs' → W p l e room_1 s m #[Value.ref a0] below meth c H' locs' (cells + 9) (slots + 52) Q (F0 m 1352 ls [])) : W p l e room_1 s m #[Value.ref a0] below meth c H locs cells slots Q (F0 m 1339 ls []) := by
  have hx := C.1
  have hb := C.2.1
  obtain ⟨oa, ak, tn, tt, fa, fi, hRp⟩ := id hR
  have hx0 := hRp.1
  refine lv_aload_n hx hb dL_law_1339 rfl (lv_at hl 1 rfl) ?_
  refine fx_afterP hH (fx_runVP (q := (RX11, TX11, 11)) C hH hl.1 (As := []) (rest := []) (op_status hR) mY_X11_status ml_L_166 im_X11_status se_X11_X11_status hx0 rfl rfl ⟨(Nat.le_of_ble_eq_true rfl), (Nat.le_of_ble_eq_true rfl)⟩ rfl (Nat.le_of_ble_eq_true rfl) ⟨show cells + 0 ≤ 600000 by omega, show slots + 0 ≤ 7302250 by omega⟩ dL_law_1340) (fun v1 f1 z1 H locs hPo hH => ?_)
  obtain ⟨a, rfl, ⟨fs, hfs⟩, hM⟩ := hPo
  show W _ _ _ _ _ _ _ _ _ _ _ _ _ _ _ (F0 m 1343 ls [.int a])
  refine lv_aload_n hx hb dL_law_1343 rfl (lv_at hl 2 rfl) ?_
  refine fx_afterP hH (fx_runVP (q := (RX12, TX12, 26)) C hH hl.1 (As := []) (rest := [.int a]) hM mY_X12_status ml_L_169 im_X12_status se_X12_X12_status hfs rfl rfl ⟨(Nat.le_of_ble_eq_true rfl), (Nat.le_of_ble_eq_true rfl)⟩ rfl (Nat.le_of_ble_eq_true rfl) ⟨show cells + 0 + 0 ≤ 600000 by omega, show slots + 0 + 0 ≤ 7302250 by omega⟩ dL_law_1344) (fun v2 f2 z2 H locs hPo hH => ?_)
  obtain ⟨rfl, hR2⟩ := hPo
  show W _ _ _ _ _ _ _ _ _ _ _ _ _ _ _ (F0 m 1347 ls [.int a, .int a])
  refine lv_icmp_eq (tgt := 1352) hx hb dL_law_1347 (by decide) (fun _ => ?_) (fun q => absurd rfl q)
  exact W.widen (show cells + 0 + 0 ≤ cells + 9 by omega) (show slots + 0 + 0 ≤ slots + 52 by omega) (nx f2 z2 H locs hR2 hH)
