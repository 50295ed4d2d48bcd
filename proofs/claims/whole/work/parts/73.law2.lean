/-! The law's calls. -/
theorem wl_X11_type : CWc yX11_type cX11_type 2 (some .int) 1 := ⟨List.mem_of_getElem? (i := 146) (by decide +kernel), List.mem_of_getElem? (i := 2) (by decide +kernel), by decide +kernel, by decide⟩
theorem wvL_13 : CWv RL 13 yX11_type cX11_type 2 (some .int) 1 := ⟨wl_X11_type, List.mem_of_getElem? (i := 143) (by decide +kernel), List.mem_of_getElem? (i := 144) (by decide +kernel), List.mem_of_getElem? (i := 145) (by decide +kernel)⟩
theorem wl_X12_type : CWc yX12_type cX12_type 2 (some .int) 1 := ⟨List.mem_of_getElem? (i := 156) (by decide +kernel), List.mem_of_getElem? (i := 5) (by decide +kernel), by decide +kernel, by decide⟩
theorem wvL_17 : CWv RL 17 yX12_type cX12_type 2 (some .int) 1 := ⟨wl_X12_type, List.mem_of_getElem? (i := 153) (by decide +kernel), List.mem_of_getElem? (i := 154) (by decide +kernel), List.mem_of_getElem? (i := 155) (by decide +kernel)⟩
set_option maxRecDepth 100000 in
set_option maxHeartbeats 4000000 in
theorem l_type {p : Program} {l : Launch} {e : Env} {s : State} {m : MethodId} {below : List Frame} {meth : Method} {c : Code} {b L : Nat} {xs : Nat → Int32} {D : va_G} {cX cM : Nat → ClassId} {ls : Array Slot} {i : Nat} {aM aX : Nat → Nat} {σ τ : St} (HC : LC p s m meth c b L xs D cX cM) (hl : lv_has ls 4 [(3, .int (nI i)), (2, .ref (aM 0)), (1, .ref (aX 0)), (0, .ref b)]) (hi : i + 4 ≤ L) (hR : Rl σ τ) (kk : ∀ σ' τ', Rl σ' τ' → LE p l e s m below meth c b D ls 949 [] (wd SM.1 aM cM τ' ++ wd SX.1 aX cX σ')) : LE p l e s m below meth c b D ls 168 [] (wd SM.1 aM cM τ ++ wd SX.1 aX cX σ) := by
  refine eg_aload HC.1 rfl (lv_at hl 2 rfl) dL_law_168 ?_
  refine l_arg HC hl (k := 1) (by omega) rfl dL_law_169 dL_law_170 dL_law_171 dL_law_172 dL_law_173 ?_
  refine eg_Vi (sd := SX) (wr := wd SM.1 aM cM τ) (c0 := 0) (As := [.int (xs (i + 1))]) HC.1 HC.1.2.2.2.2.2.2.2.2 hl.1 (c_X11_type _ _ _ (sim_type _ σ τ hR)) wvL_13 rfl (by decide) rfl ⟨by decide, by decide⟩ rfl (Nat.le_of_ble_eq_true rfl) rfl dL_law_174 ⟨by decide, by decide⟩ (fun r σ' hq => ?_)
  refine eg_swap ?_
  refine eg_aload HC.1 rfl (lv_at hl 1 rfl) dL_law_177 ?_
  refine l_arg HC hl (k := 1) (by omega) rfl dL_law_178 dL_law_179 dL_law_180 dL_law_181 dL_law_182 ?_
  refine eg_Vi (sd := SM) (wr := wd SX.1 aX cX σ') (c0 := 0) (As := [.int (xs (i + 1))]) HC.1 HC.2.1 hl.1 (c_X12_type _ _ _ hq) wvL_17 rfl (by decide) rfl ⟨by decide, by decide⟩ rfl (Nat.le_of_ble_eq_true rfl) rfl dL_law_183 ⟨by decide, by decide⟩ (fun r' τ' hq2 => ?_)
  refine eg_swap ?_
  exact l_cmp HC hq2.1 dL_law_186 (by decide) (kk σ' τ' hq2.2)
theorem wl_X11_clear : CWc yX11_clear cX11_clear 2 (some .int) 0 := ⟨List.mem_of_getElem? (i := 164) (by decide +kernel), List.mem_of_getElem? (i := 2) (by decide +kernel), by decide +kernel, by decide⟩
theorem wvL_18 : CWv RL 18 yX11_clear cX11_clear 2 (some .int) 0 := ⟨wl_X11_clear, List.mem_of_getElem? (i := 161) (by decide +kernel), List.mem_of_getElem? (i := 162) (by decide +kernel), List.mem_of_getElem? (i := 163) (by decide +kernel)⟩
theorem wl_X12_clear : CWc yX12_clear cX12_clear 2 (some .int) 0 := ⟨List.mem_of_getElem? (i := 168) (by decide +kernel), List.mem_of_getElem? (i := 5) (by decide +kernel), by decide +kernel, by decide⟩
theorem wvL_22 : CWv RL 22 yX12_clear cX12_clear 2 (some .int) 0 := ⟨wl_X12_clear, List.mem_of_getElem? (i := 165) (by decide +kernel), List.mem_of_getElem? (i := 166) (by decide +kernel), List.mem_of_getElem? (i := 167) (by decide +kernel)⟩
set_option maxRecDepth 100000 in
set_option maxHeartbeats 4000000 in
theorem l_clear {p : Program} {l : Launch} {e : Env} {s : State} {m : MethodId} {below : List Frame} {meth : Method} {c : Code} {b L : Nat} {xs : Nat → Int32} {D : va_G} {cX cM : Nat → ClassId} {ls : Array Slot} {i : Nat} {aM aX : Nat → Nat} {σ τ : St} (HC : LC p s m meth c b L xs D cX cM) (hl : lv_has ls 4 [(3, .int (nI i)), (2, .ref (aM 0)), (1, .ref (aX 0)), (0, .ref b)]) (hi : i + 4 ≤ L) (hR : Rl σ τ) (kk : ∀ σ' τ', Rl σ' τ' → LE p l e s m below meth c b D ls 949 [] (wd SM.1 aM cM τ' ++ wd SX.1 aX cX σ')) : LE p l e s m below meth c b D ls 191 [] (wd SM.1 aM cM τ ++ wd SX.1 aX cX σ) := by
  refine eg_aload HC.1 rfl (lv_at hl 2 rfl) dL_law_191 ?_
  refine eg_Vi (sd := SX) (wr := wd SM.1 aM cM τ) (c0 := 0) (As := []) HC.1 HC.1.2.2.2.2.2.2.2.2 hl.1 (c_X11_clear  _ _ (sim_clear  σ τ hR)) wvL_18 rfl (by decide) rfl ⟨by decide, by decide⟩ rfl (Nat.le_of_ble_eq_true rfl) rfl dL_law_192 ⟨by decide, by decide⟩ (fun r σ' hq => ?_)
  refine eg_swap ?_
  refine eg_aload HC.1 rfl (lv_at hl 1 rfl) dL_law_195 ?_
  refine eg_Vi (sd := SM) (wr := wd SX.1 aX cX σ') (c0 := 0) (As := []) HC.1 HC.2.1 hl.1 (c_X12_clear  _ _ hq) wvL_22 rfl (by decide) rfl ⟨by decide, by decide⟩ rfl (Nat.le_of_ble_eq_true rfl) rfl dL_law_196 ⟨by decide, by decide⟩ (fun r' τ' hq2 => ?_)
  refine eg_swap ?_
  exact l_cmp HC hq2.1 dL_law_199 (by decide) (kk σ' τ' hq2.2)
theorem wl_X11_pit : CWc yX11_pit cX11_pit 3 (some .int) 0 := ⟨List.mem_of_getElem? (i := 172) (by decide +kernel), List.mem_of_getElem? (i := 2) (by decide +kernel), by decide +kernel, by decide⟩
theorem wvL_23 : CWv RL 23 yX11_pit cX11_pit 3 (some .int) 0 := ⟨wl_X11_pit, List.mem_of_getElem? (i := 169) (by decide +kernel), List.mem_of_getElem? (i := 170) (by decide +kernel), List.mem_of_getElem? (i := 171) (by decide +kernel)⟩
theorem wl_X12_pit : CWc yX12_pit cX12_pit 3 (some .int) 0 := ⟨List.mem_of_getElem? (i := 274) (by decide +kernel), List.mem_of_getElem? (i := 5) (by decide +kernel), by decide +kernel, by decide⟩
theorem wvL_26 : CWv RL 26 yX12_pit cX12_pit 3 (some .int) 0 := ⟨wl_X12_pit, List.mem_of_getElem? (i := 271) (by decide +kernel), List.mem_of_getElem? (i := 272) (by decide +kernel), List.mem_of_getElem? (i := 273) (by decide +kernel)⟩
set_option maxRecDepth 100000 in
set_option maxHeartbeats 4000000 in
theorem l_pit {p : Program} {l : Launch} {e : Env} {s : State} {m : MethodId} {below : List Frame} {meth : Method} {c : Code} {b L : Nat} {xs : Nat → Int32} {D : va_G} {cX cM : Nat → ClassId} {ls : Array Slot} {i : Nat} {aM aX : Nat → Nat} {σ τ : St} (HC : LC p s m meth c b L xs D cX cM) (hl : lv_has ls 4 [(3, .int (nI i)), (2, .ref (aM 0)), (1, .ref (aX 0)), (0, .ref b)]) (hi : i + 4 ≤ L) (hR : Rl σ τ) (kk : ∀ σ' τ', Rl σ' τ' → LE p l e s m below meth c b D ls 949 [] (wd SM.1 aM cM τ' ++ wd SX.1 aX cX σ')) : LE p l e s m below meth c b D ls 204 [] (wd SM.1 aM cM τ ++ wd SX.1 aX cX σ) := by
  refine eg_aload HC.1 rfl (lv_at hl 2 rfl) dL_law_204 ?_
  refine eg_Vi (sd := SX) (wr := wd SM.1 aM cM τ) (c0 := 0) (As := []) HC.1 HC.1.2.2.2.2.2.2.2.2 hl.1 (c_X11_pit  _ _ (sim_pit  σ τ hR)) wvL_23 rfl (by decide) rfl ⟨by decide, by decide⟩ rfl (Nat.le_of_ble_eq_true rfl) rfl dL_law_205 ⟨by decide, by decide⟩ (fun r σ' hq => ?_)
  refine eg_swap ?_
  refine eg_aload HC.1 rfl (lv_at hl 1 rfl) dL_law_208 ?_
  refine eg_Vi (sd := SM) (wr := wd SX.1 aX cX σ') (c0 := 0) (As := []) HC.1 HC.2.1 hl.1 (c_X12_pit  _ _ hq) wvL_26 rfl (by decide) rfl ⟨by decide, by decide⟩ rfl (Nat.le_of_ble_eq_true rfl) rfl dL_law_209 ⟨by decide, by decide⟩ (fun r' τ' hq2 => ?_)
  refine eg_swap ?_
  exact l_cmp HC hq2.1 dL_law_212 (by decide) (kk σ' τ' hq2.2)
theorem wl_X11_man : CWc yX11_man cX11_man 3 (some .int) 2 := ⟨List.mem_of_getElem? (i := 311) (by decide +kernel), List.mem_of_getElem? (i := 2) (by decide +kernel), by decide +kernel, by decide⟩
theorem wvL_27 : CWv RL 27 yX11_man cX11_man 3 (some .int) 2 := ⟨wl_X11_man, List.mem_of_getElem? (i := 308) (by decide +kernel), List.mem_of_getElem? (i := 309) (by decide +kernel), List.mem_of_getElem? (i := 310) (by decide +kernel)⟩
theorem wl_X12_man : CWc yX12_man cX12_man 3 (some .int) 2 := ⟨List.mem_of_getElem? (i := 322) (by decide +kernel), List.mem_of_getElem? (i := 5) (by decide +kernel), by decide +kernel, by decide⟩
theorem wvL_31 : CWv RL 31 yX12_man cX12_man 3 (some .int) 2 := ⟨wl_X12_man, List.mem_of_getElem? (i := 319) (by decide +kernel), List.mem_of_getElem? (i := 320) (by decide +kernel), List.mem_of_getElem? (i := 321) (by decide +kernel)⟩
set_option maxRecDepth 100000 in
set_option maxHeartbeats 4000000 in
theorem l_man {p : Program} {l : Launch} {e : Env} {s : State} {m : MethodId} {below : List Frame} {meth : Method} {c : Code} {b L : Nat} {xs : Nat → Int32} {D : va_G} {cX cM : Nat → ClassId} {ls : Array Slot} {i : Nat} {aM aX : Nat → Nat} {σ τ : St} (HC : LC p s m meth c b L xs D cX cM) (hl : lv_has ls 4 [(3, .int (nI i)), (2, .ref (aM 0)), (1, .ref (aX 0)), (0, .ref b)]) (hi : i + 4 ≤ L) (hR : Rl σ τ) (kk : ∀ σ' τ', Rl σ' τ' → LE p l e s m below meth c b D ls 949 [] (wd SM.1 aM cM τ' ++ wd SX.1 aX cX σ')) : LE p l e s m below meth c b D ls 217 [] (wd SM.1 aM cM τ ++ wd SX.1 aX cX σ) := by
  refine eg_aload HC.1 rfl (lv_at hl 2 rfl) dL_law_217 ?_
  refine l_arg HC hl (k := 1) (by omega) rfl dL_law_218 dL_law_219 dL_law_220 dL_law_221 dL_law_222 ?_
  refine l_arg HC hl (k := 2) (by omega) rfl dL_law_223 dL_law_224 dL_law_225 dL_law_226 dL_law_227 ?_
  refine eg_Vi (sd := SX) (wr := wd SM.1 aM cM τ) (c0 := 0) (As := [.int (xs (i + 1)), .int (xs (i + 2))]) HC.1 HC.1.2.2.2.2.2.2.2.2 hl.1 (c_X11_man _ _ _ _ (sim_man _ _ σ τ hR)) wvL_27 rfl (by decide) rfl ⟨by decide, by decide⟩ rfl (Nat.le_of_ble_eq_true rfl) rfl dL_law_228 ⟨by decide, by decide⟩ (fun r σ' hq => ?_)
  refine eg_swap ?_
  refine eg_aload HC.1 rfl (lv_at hl 1 rfl) dL_law_231 ?_
  refine l_arg HC hl (k := 1) (by omega) rfl dL_law_232 dL_law_233 dL_law_234 dL_law_235 dL_law_236 ?_
  refine l_arg HC hl (k := 2) (by omega) rfl dL_law_237 dL_law_238 dL_law_239 dL_law_240 dL_law_241 ?_
  refine eg_Vi (sd := SM) (wr := wd SX.1 aX cX σ') (c0 := 0) (As := [.int (xs (i + 1)), .int (xs (i + 2))]) HC.1 HC.2.1 hl.1 (c_X12_man _ _ _ _ hq) wvL_31 rfl (by decide) rfl ⟨by decide, by decide⟩ rfl (Nat.le_of_ble_eq_true rfl) rfl dL_law_242 ⟨by decide, by decide⟩ (fun r' τ' hq2 => ?_)
  refine eg_swap ?_
  exact l_cmp HC hq2.1 dL_law_245 (by decide) (kk σ' τ' hq2.2)
theorem wl_X11_beside : CWc yX11_beside cX11_beside 3 (some .int) 2 := ⟨List.mem_of_getElem? (i := 330) (by decide +kernel), List.mem_of_getElem? (i := 2) (by decide +kernel), by decide +kernel, by decide⟩
theorem wvL_32 : CWv RL 32 yX11_beside cX11_beside 3 (some .int) 2 := ⟨wl_X11_beside, List.mem_of_getElem? (i := 327) (by decide +kernel), List.mem_of_getElem? (i := 328) (by decide +kernel), List.mem_of_getElem? (i := 329) (by decide +kernel)⟩
theorem wl_X12_beside : CWc yX12_beside cX12_beside 3 (some .int) 2 := ⟨List.mem_of_getElem? (i := 341) (by decide +kernel), List.mem_of_getElem? (i := 5) (by decide +kernel), by decide +kernel, by decide⟩
theorem wvL_35 : CWv RL 35 yX12_beside cX12_beside 3 (some .int) 2 := ⟨wl_X12_beside, List.mem_of_getElem? (i := 338) (by decide +kernel), List.mem_of_getElem? (i := 339) (by decide +kernel), List.mem_of_getElem? (i := 340) (by decide +kernel)⟩
set_option maxRecDepth 100000 in
set_option maxHeartbeats 4000000 in
theorem l_beside {p : Program} {l : Launch} {e : Env} {s : State} {m : MethodId} {below : List Frame} {meth : Method} {c : Code} {b L : Nat} {xs : Nat → Int32} {D : va_G} {cX cM : Nat → ClassId} {ls : Array Slot} {i : Nat} {aM aX : Nat → Nat} {σ τ : St} (HC : LC p s m meth c b L xs D cX cM) (hl : lv_has ls 4 [(3, .int (nI i)), (2, .ref (aM 0)), (1, .ref (aX 0)), (0, .ref b)]) (hi : i + 4 ≤ L) (hR : Rl σ τ) (kk : ∀ σ' τ', Rl σ' τ' → LE p l e s m below meth c b D ls 949 [] (wd SM.1 aM cM τ' ++ wd SX.1 aX cX σ')) : LE p l e s m below meth c b D ls 250 [] (wd SM.1 aM cM τ ++ wd SX.1 aX cX σ) := by
  refine eg_aload HC.1 rfl (lv_at hl 2 rfl) dL_law_250 ?_
  refine l_arg HC hl (k := 1) (by omega) rfl dL_law_251 dL_law_252 dL_law_253 dL_law_254 dL_law_255 ?_
  refine l_arg HC hl (k := 2) (by omega) rfl dL_law_256 dL_law_257 dL_law_258 dL_law_259 dL_law_260 ?_
  refine eg_Vi (sd := SX) (wr := wd SM.1 aM cM τ) (c0 := 0) (As := [.int (xs (i + 1)), .int (xs (i + 2))]) HC.1 HC.1.2.2.2.2.2.2.2.2 hl.1 (c_X11_beside _ _ _ _ (sim_beside _ _ σ τ hR)) wvL_32 rfl (by decide) rfl ⟨by decide, by decide⟩ rfl (Nat.le_of_ble_eq_true rfl) rfl dL_law_261 ⟨by decide, by decide⟩ (fun r σ' hq => ?_)
  refine eg_swap ?_
  refine eg_aload HC.1 rfl (lv_at hl 1 rfl) dL_law_264 ?_
  refine l_arg HC hl (k := 1) (by omega) rfl dL_law_265 dL_law_266 dL_law_267 dL_law_268 dL_law_269 ?_
  refine l_arg HC hl (k := 2) (by omega) rfl dL_law_270 dL_law_271 dL_law_272 dL_law_273 dL_law_274 ?_
  refine eg_Vi (sd := SM) (wr := wd SX.1 aX cX σ') (c0 := 0) (As := [.int (xs (i + 1)), .int (xs (i + 2))]) HC.1 HC.2.1 hl.1 (c_X12_beside _ _ _ _ hq) wvL_35 rfl (by decide) rfl ⟨by decide, by decide⟩ rfl (Nat.le_of_ble_eq_true rfl) rfl dL_law_275 ⟨by decide, by decide⟩ (fun r' τ' hq2 => ?_)
  refine eg_swap ?_
  exact l_cmp HC hq2.1 dL_law_278 (by decide) (kk σ' τ' hq2.2)
theorem wl_X11_week : CWc yX11_week cX11_week 5 (some .int) 1 := ⟨List.mem_of_getElem? (i := 346) (by decide +kernel), List.mem_of_getElem? (i := 2) (by decide +kernel), by decide +kernel, by decide⟩
theorem wvL_36 : CWv RL 36 yX11_week cX11_week 5 (some .int) 1 := ⟨wl_X11_week, List.mem_of_getElem? (i := 343) (by decide +kernel), List.mem_of_getElem? (i := 344) (by decide +kernel), List.mem_of_getElem? (i := 345) (by decide +kernel)⟩
theorem wl_X12_week : CWc yX12_week cX12_week 4 (some .int) 1 := ⟨List.mem_of_getElem? (i := 375) (by decide +kernel), List.mem_of_getElem? (i := 5) (by decide +kernel), by decide +kernel, by decide⟩
theorem wvL_39 : CWv RL 39 yX12_week cX12_week 4 (some .int) 1 := ⟨wl_X12_week, List.mem_of_getElem? (i := 372) (by decide +kernel), List.mem_of_getElem? (i := 373) (by decide +kernel), List.mem_of_getElem? (i := 374) (by decide +kernel)⟩
set_option maxRecDepth 100000 in
set_option maxHeartbeats 4000000 in
theorem l_week {p : Program} {l : Launch} {e : Env} {s : State} {m : MethodId} {below : List Frame} {meth : Method} {c : Code} {b L : Nat} {xs : Nat → Int32} {D : va_G} {cX cM : Nat → ClassId} {ls : Array Slot} {i : Nat} {aM aX : Nat → Nat} {σ τ : St} (HC : LC p s m meth c b L xs D cX cM) (hl : lv_has ls 4 [(3, .int (nI i)), (2, .ref (aM 0)), (1, .ref (aX 0)), (0, .ref b)]) (hi : i + 4 ≤ L) (hR : Rl σ τ) (kk : ∀ σ' τ', Rl σ' τ' → LE p l e s m below meth c b D ls 949 [] (wd SM.1 aM cM τ' ++ wd SX.1 aX cX σ')) : LE p l e s m below meth c b D ls 283 [] (wd SM.1 aM cM τ ++ wd SX.1 aX cX σ) := by
  refine eg_aload HC.1 rfl (lv_at hl 2 rfl) dL_law_283 ?_
  refine l_arg HC hl (k := 1) (by omega) rfl dL_law_284 dL_law_285 dL_law_286 dL_law_287 dL_law_288 ?_
  refine eg_Vi (sd := SX) (wr := wd SM.1 aM cM τ) (c0 := 0) (As := [.int (xs (i + 1))]) HC.1 HC.1.2.2.2.2.2.2.2.2 hl.1 (c_X11_week _ _ _ (sim_week _ σ τ hR)) wvL_36 rfl (by decide) rfl ⟨by decide, by decide⟩ rfl (Nat.le_of_ble_eq_true rfl) rfl dL_law_289 ⟨by decide, by decide⟩ (fun r σ' hq => ?_)
  refine eg_swap ?_
  refine eg_aload HC.1 rfl (lv_at hl 1 rfl) dL_law_292 ?_
  refine l_arg HC hl (k := 1) (by omega) rfl dL_law_293 dL_law_294 dL_law_295 dL_law_296 dL_law_297 ?_
  refine eg_Vi (sd := SM) (wr := wd SX.1 aX cX σ') (c0 := 0) (As := [.int (xs (i + 1))]) HC.1 HC.2.1 hl.1 (c_X12_week _ _ _ hq) wvL_39 rfl (by decide) rfl ⟨by decide, by decide⟩ rfl (Nat.le_of_ble_eq_true rfl) rfl dL_law_298 ⟨by decide, by decide⟩ (fun r' τ' hq2 => ?_)
  refine eg_swap ?_
  exact l_cmp HC hq2.1 dL_law_301 (by decide) (kk σ' τ' hq2.2)
theorem wl_X11_quarrel : CWc yX11_quarrel cX11_quarrel 4 (some .int) 3 := ⟨List.mem_of_getElem? (i := 410) (by decide +kernel), List.mem_of_getElem? (i := 2) (by decide +kernel), by decide +kernel, by decide⟩
theorem wvL_40 : CWv RL 40 yX11_quarrel cX11_quarrel 4 (some .int) 3 := ⟨wl_X11_quarrel, List.mem_of_getElem? (i := 407) (by decide +kernel), List.mem_of_getElem? (i := 408) (by decide +kernel), List.mem_of_getElem? (i := 409) (by decide +kernel)⟩
theorem wl_X12_quarrel : CWc yX12_quarrel cX12_quarrel 4 (some .int) 3 := ⟨List.mem_of_getElem? (i := 414) (by decide +kernel), List.mem_of_getElem? (i := 5) (by decide +kernel), by decide +kernel, by decide⟩
theorem wvL_44 : CWv RL 44 yX12_quarrel cX12_quarrel 4 (some .int) 3 := ⟨wl_X12_quarrel, List.mem_of_getElem? (i := 411) (by decide +kernel), List.mem_of_getElem? (i := 412) (by decide +kernel), List.mem_of_getElem? (i := 413) (by decide +kernel)⟩
set_option maxRecDepth 100000 in
set_option maxHeartbeats 4000000 in
theorem l_quarrel {p : Program} {l : Launch} {e : Env} {s : State} {m : MethodId} {below : List Frame} {meth : Method} {c : Code} {b L : Nat} {xs : Nat → Int32} {D : va_G} {cX cM : Nat → ClassId} {ls : Array Slot} {i : Nat} {aM aX : Nat → Nat} {σ τ : St} (HC : LC p s m meth c b L xs D cX cM) (hl : lv_has ls 4 [(3, .int (nI i)), (2, .ref (aM 0)), (1, .ref (aX 0)), (0, .ref b)]) (hi : i + 4 ≤ L) (hR : Rl σ τ) (kk : ∀ σ' τ', Rl σ' τ' → LE p l e s m below meth c b D ls 949 [] (wd SM.1 aM cM τ' ++ wd SX.1 aX cX σ')) : LE p l e s m below meth c b D ls 306 [] (wd SM.1 aM cM τ ++ wd SX.1 aX cX σ) := by
  refine eg_aload HC.1 rfl (lv_at hl 2 rfl) dL_law_306 ?_
  refine l_arg HC hl (k := 1) (by omega) rfl dL_law_307 dL_law_308 dL_law_309 dL_law_310 dL_law_311 ?_
  refine l_arg HC hl (k := 2) (by omega) rfl dL_law_312 dL_law_313 dL_law_314 dL_law_315 dL_law_316 ?_
  refine l_arg HC hl (k := 3) (by omega) rfl dL_law_317 dL_law_318 dL_law_319 dL_law_320 dL_law_321 ?_
  refine eg_Vi (sd := SX) (wr := wd SM.1 aM cM τ) (c0 := 0) (As := [.int (xs (i + 1)), .int (xs (i + 2)), .int (xs (i + 3))]) HC.1 HC.1.2.2.2.2.2.2.2.2 hl.1 (c_X11_quarrel _ _ _ _ _ (sim_quarrel _ _ _ σ τ hR)) wvL_40 rfl (by decide) rfl ⟨by decide, by decide⟩ rfl (Nat.le_of_ble_eq_true rfl) rfl dL_law_322 ⟨by decide, by decide⟩ (fun r σ' hq => ?_)
  refine eg_swap ?_
  refine eg_aload HC.1 rfl (lv_at hl 1 rfl) dL_law_325 ?_
  refine l_arg HC hl (k := 1) (by omega) rfl dL_law_326 dL_law_327 dL_law_328 dL_law_329 dL_law_330 ?_
  refine l_arg HC hl (k := 2) (by omega) rfl dL_law_331 dL_law_332 dL_law_333 dL_law_334 dL_law_335 ?_
  refine l_arg HC hl (k := 3) (by omega) rfl dL_law_336 dL_law_337 dL_law_338 dL_law_339 dL_law_340 ?_
  refine eg_Vi (sd := SM) (wr := wd SX.1 aX cX σ') (c0 := 0) (As := [.int (xs (i + 1)), .int (xs (i + 2)), .int (xs (i + 3))]) HC.1 HC.2.1 hl.1 (c_X12_quarrel _ _ _ _ _ hq) wvL_44 rfl (by decide) rfl ⟨by decide, by decide⟩ rfl (Nat.le_of_ble_eq_true rfl) rfl dL_law_341 ⟨by decide, by decide⟩ (fun r' τ' hq2 => ?_)
  refine eg_swap ?_
  exact l_cmp HC hq2.1 dL_law_344 (by decide) (kk σ' τ' hq2.2)
theorem wl_X11_forgives : CWc yX11_forgives cX11_forgives 3 (some .int) 1 := ⟨List.mem_of_getElem? (i := 418) (by decide +kernel), List.mem_of_getElem? (i := 2) (by decide +kernel), by decide +kernel, by decide⟩
theorem wvL_45 : CWv RL 45 yX11_forgives cX11_forgives 3 (some .int) 1 := ⟨wl_X11_forgives, List.mem_of_getElem? (i := 415) (by decide +kernel), List.mem_of_getElem? (i := 416) (by decide +kernel), List.mem_of_getElem? (i := 417) (by decide +kernel)⟩
theorem wl_X12_forgives : CWc yX12_forgives cX12_forgives 3 (some .int) 1 := ⟨List.mem_of_getElem? (i := 422) (by decide +kernel), List.mem_of_getElem? (i := 5) (by decide +kernel), by decide +kernel, by decide⟩
theorem wvL_48 : CWv RL 48 yX12_forgives cX12_forgives 3 (some .int) 1 := ⟨wl_X12_forgives, List.mem_of_getElem? (i := 419) (by decide +kernel), List.mem_of_getElem? (i := 420) (by decide +kernel), List.mem_of_getElem? (i := 421) (by decide +kernel)⟩
set_option maxRecDepth 100000 in
set_option maxHeartbeats 4000000 in
theorem l_forgives {p : Program} {l : Launch} {e : Env} {s : State} {m : MethodId} {below : List Frame} {meth : Method} {c : Code} {b L : Nat} {xs : Nat → Int32} {D : va_G} {cX cM : Nat → ClassId} {ls : Array Slot} {i : Nat} {aM aX : Nat → Nat} {σ τ : St} (HC : LC p s m meth c b L xs D cX cM) (hl : lv_has ls 4 [(3, .int (nI i)), (2, .ref (aM 0)), (1, .ref (aX 0)), (0, .ref b)]) (hi : i + 4 ≤ L) (hR : Rl σ τ) (kk : ∀ σ' τ', Rl σ' τ' → LE p l e s m below meth c b D ls 949 [] (wd SM.1 aM cM τ' ++ wd SX.1 aX cX σ')) : LE p l e s m below meth c b D ls 349 [] (wd SM.1 aM cM τ ++ wd SX.1 aX cX σ) := by
  refine eg_aload HC.1 rfl (lv_at hl 2 rfl) dL_law_349 ?_
  refine l_arg HC hl (k := 1) (by omega) rfl dL_law_350 dL_law_351 dL_law_352 dL_law_353 dL_law_354 ?_
  refine eg_Vi (sd := SX) (wr := wd SM.1 aM cM τ) (c0 := 0) (As := [.int (xs (i + 1))]) HC.1 HC.1.2.2.2.2.2.2.2.2 hl.1 (c_X11_forgives _ _ _ (sim_forgives _ σ τ hR)) wvL_45 rfl (by decide) rfl ⟨by decide, by decide⟩ rfl (Nat.le_of_ble_eq_true rfl) rfl dL_law_355 ⟨by decide, by decide⟩ (fun r σ' hq => ?_)
  refine eg_swap ?_
  refine eg_aload HC.1 rfl (lv_at hl 1 rfl) dL_law_358 ?_
  refine l_arg HC hl (k := 1) (by omega) rfl dL_law_359 dL_law_360 dL_law_361 dL_law_362 dL_law_363 ?_
  refine eg_Vi (sd := SM) (wr := wd SX.1 aX cX σ') (c0 := 0) (As := [.int (xs (i + 1))]) HC.1 HC.2.1 hl.1 (c_X12_forgives _ _ _ hq) wvL_48 rfl (by decide) rfl ⟨by decide, by decide⟩ rfl (Nat.le_of_ble_eq_true rfl) rfl dL_law_364 ⟨by decide, by decide⟩ (fun r' τ' hq2 => ?_)
  refine eg_swap ?_
  exact l_cmp HC hq2.1 dL_law_367 (by decide) (kk σ' τ' hq2.2)
theorem wl_X11_buys : CWc yX11_buys cX11_buys 3 (some .int) 1 := ⟨List.mem_of_getElem? (i := 426) (by decide +kernel), List.mem_of_getElem? (i := 2) (by decide +kernel), by decide +kernel, by decide⟩
theorem wvL_49 : CWv RL 49 yX11_buys cX11_buys 3 (some .int) 1 := ⟨wl_X11_buys, List.mem_of_getElem? (i := 423) (by decide +kernel), List.mem_of_getElem? (i := 424) (by decide +kernel), List.mem_of_getElem? (i := 425) (by decide +kernel)⟩
theorem wl_X12_buys : CWc yX12_buys cX12_buys 3 (some .int) 1 := ⟨List.mem_of_getElem? (i := 430) (by decide +kernel), List.mem_of_getElem? (i := 5) (by decide +kernel), by decide +kernel, by decide⟩
theorem wvL_52 : CWv RL 52 yX12_buys cX12_buys 3 (some .int) 1 := ⟨wl_X12_buys, List.mem_of_getElem? (i := 427) (by decide +kernel), List.mem_of_getElem? (i := 428) (by decide +kernel), List.mem_of_getElem? (i := 429) (by decide +kernel)⟩
set_option maxRecDepth 100000 in
set_option maxHeartbeats 4000000 in
theorem l_buys {p : Program} {l : Launch} {e : Env} {s : State} {m : MethodId} {below : List Frame} {meth : Method} {c : Code} {b L : Nat} {xs : Nat → Int32} {D : va_G} {cX cM : Nat → ClassId} {ls : Array Slot} {i : Nat} {aM aX : Nat → Nat} {σ τ : St} (HC : LC p s m meth c b L xs D cX cM) (hl : lv_has ls 4 [(3, .int (nI i)), (2, .ref (aM 0)), (1, .ref (aX 0)), (0, .ref b)]) (hi : i + 4 ≤ L) (hR : Rl σ τ) (kk : ∀ σ' τ', Rl σ' τ' → LE p l e s m below meth c b D ls 949 [] (wd SM.1 aM cM τ' ++ wd SX.1 aX cX σ')) : LE p l e s m below meth c b D ls 372 [] (wd SM.1 aM cM τ ++ wd SX.1 aX cX σ) := by
  refine eg_aload HC.1 rfl (lv_at hl 2 rfl) dL_law_372 ?_
  refine l_arg HC hl (k := 1) (by omega) rfl dL_law_373 dL_law_374 dL_law_375 dL_law_376 dL_law_377 ?_
  refine eg_Vi (sd := SX) (wr := wd SM.1 aM cM τ) (c0 := 0) (As := [.int (xs (i + 1))]) HC.1 HC.1.2.2.2.2.2.2.2.2 hl.1 (c_X11_buys _ _ _ (sim_buys _ σ τ hR)) wvL_49 rfl (by decide) rfl ⟨by decide, by decide⟩ rfl (Nat.le_of_ble_eq_true rfl) rfl dL_law_378 ⟨by decide, by decide⟩ (fun r σ' hq => ?_)
  refine eg_swap ?_
  refine eg_aload HC.1 rfl (lv_at hl 1 rfl) dL_law_381 ?_
  refine l_arg HC hl (k := 1) (by omega) rfl dL_law_382 dL_law_383 dL_law_384 dL_law_385 dL_law_386 ?_
  refine eg_Vi (sd := SM) (wr := wd SX.1 aX cX σ') (c0 := 0) (As := [.int (xs (i + 1))]) HC.1 HC.2.1 hl.1 (c_X12_buys _ _ _ hq) wvL_52 rfl (by decide) rfl ⟨by decide, by decide⟩ rfl (Nat.le_of_ble_eq_true rfl) rfl dL_law_387 ⟨by decide, by decide⟩ (fun r' τ' hq2 => ?_)
  refine eg_swap ?_
  exact l_cmp HC hq2.1 dL_law_390 (by decide) (kk σ' τ' hq2.2)
theorem wl_X11_undo : CWc yX11_undo cX11_undo 1 (some .int) 0 := ⟨List.mem_of_getElem? (i := 434) (by decide +kernel), List.mem_of_getElem? (i := 2) (by decide +kernel), by decide +kernel, by decide⟩
theorem wvL_53 : CWv RL 53 yX11_undo cX11_undo 1 (some .int) 0 := ⟨wl_X11_undo, List.mem_of_getElem? (i := 431) (by decide +kernel), List.mem_of_getElem? (i := 432) (by decide +kernel), List.mem_of_getElem? (i := 433) (by decide +kernel)⟩
theorem wl_X12_undo : CWc yX12_undo cX12_undo 2 (some .int) 0 := ⟨List.mem_of_getElem? (i := 443) (by decide +kernel), List.mem_of_getElem? (i := 5) (by decide +kernel), by decide +kernel, by decide⟩
theorem wvL_56 : CWv RL 56 yX12_undo cX12_undo 2 (some .int) 0 := ⟨wl_X12_undo, List.mem_of_getElem? (i := 440) (by decide +kernel), List.mem_of_getElem? (i := 441) (by decide +kernel), List.mem_of_getElem? (i := 442) (by decide +kernel)⟩
set_option maxRecDepth 100000 in
set_option maxHeartbeats 4000000 in
theorem l_undo {p : Program} {l : Launch} {e : Env} {s : State} {m : MethodId} {below : List Frame} {meth : Method} {c : Code} {b L : Nat} {xs : Nat → Int32} {D : va_G} {cX cM : Nat → ClassId} {ls : Array Slot} {i : Nat} {aM aX : Nat → Nat} {σ τ : St} (HC : LC p s m meth c b L xs D cX cM) (hl : lv_has ls 4 [(3, .int (nI i)), (2, .ref (aM 0)), (1, .ref (aX 0)), (0, .ref b)]) (hi : i + 4 ≤ L) (hR : Rl σ τ) (kk : ∀ σ' τ', Rl σ' τ' → LE p l e s m below meth c b D ls 949 [] (wd SM.1 aM cM τ' ++ wd SX.1 aX cX σ')) : LE p l e s m below meth c b D ls 395 [] (wd SM.1 aM cM τ ++ wd SX.1 aX cX σ) := by
  refine eg_aload HC.1 rfl (lv_at hl 2 rfl) dL_law_395 ?_
  refine eg_Vi (sd := SX) (wr := wd SM.1 aM cM τ) (c0 := 0) (As := []) HC.1 HC.1.2.2.2.2.2.2.2.2 hl.1 (c_X11_undo  _ _ (sim_undo  σ τ hR)) wvL_53 rfl (by decide) rfl ⟨by decide, by decide⟩ rfl (Nat.le_of_ble_eq_true rfl) rfl dL_law_396 ⟨by decide, by decide⟩ (fun r σ' hq => ?_)
  refine eg_swap ?_
  refine eg_aload HC.1 rfl (lv_at hl 1 rfl) dL_law_399 ?_
  refine eg_Vi (sd := SM) (wr := wd SX.1 aX cX σ') (c0 := 0) (As := []) HC.1 HC.2.1 hl.1 (c_X12_undo  _ _ hq) wvL_56 rfl (by decide) rfl ⟨by decide, by decide⟩ rfl (Nat.le_of_ble_eq_true rfl) rfl dL_law_400 ⟨by decide, by decide⟩ (fun r' τ' hq2 => ?_)
  refine eg_swap ?_
  exact l_cmp HC hq2.1 dL_law_403 (by decide) (kk σ' τ' hq2.2)
theorem wl_X11_now : CWc yX11_now cX11_now 2 (some .int) 1 := ⟨List.mem_of_getElem? (i := 447) (by decide +kernel), List.mem_of_getElem? (i := 2) (by decide +kernel), by decide +kernel, by decide⟩
theorem wvL_57 : CWv RL 57 yX11_now cX11_now 2 (some .int) 1 := ⟨wl_X11_now, List.mem_of_getElem? (i := 444) (by decide +kernel), List.mem_of_getElem? (i := 445) (by decide +kernel), List.mem_of_getElem? (i := 446) (by decide +kernel)⟩
theorem wl_X12_now : CWc yX12_now cX12_now 6 (some .int) 1 := ⟨List.mem_of_getElem? (i := 460) (by decide +kernel), List.mem_of_getElem? (i := 5) (by decide +kernel), by decide +kernel, by decide⟩
theorem wvL_60 : CWv RL 60 yX12_now cX12_now 6 (some .int) 1 := ⟨wl_X12_now, List.mem_of_getElem? (i := 457) (by decide +kernel), List.mem_of_getElem? (i := 458) (by decide +kernel), List.mem_of_getElem? (i := 459) (by decide +kernel)⟩
set_option maxRecDepth 100000 in
set_option maxHeartbeats 4000000 in
theorem l_now {p : Program} {l : Launch} {e : Env} {s : State} {m : MethodId} {below : List Frame} {meth : Method} {c : Code} {b L : Nat} {xs : Nat → Int32} {D : va_G} {cX cM : Nat → ClassId} {ls : Array Slot} {i : Nat} {aM aX : Nat → Nat} {σ τ : St} (HC : LC p s m meth c b L xs D cX cM) (hl : lv_has ls 4 [(3, .int (nI i)), (2, .ref (aM 0)), (1, .ref (aX 0)), (0, .ref b)]) (hi : i + 4 ≤ L) (hR : Rl σ τ) (kk : ∀ σ' τ', Rl σ' τ' → LE p l e s m below meth c b D ls 949 [] (wd SM.1 aM cM τ' ++ wd SX.1 aX cX σ')) : LE p l e s m below meth c b D ls 408 [] (wd SM.1 aM cM τ ++ wd SX.1 aX cX σ) := by
  refine eg_aload HC.1 rfl (lv_at hl 2 rfl) dL_law_408 ?_
  refine l_arg HC hl (k := 1) (by omega) rfl dL_law_409 dL_law_410 dL_law_411 dL_law_412 dL_law_413 ?_
  refine eg_Vi (sd := SX) (wr := wd SM.1 aM cM τ) (c0 := 0) (As := [.int (xs (i + 1))]) HC.1 HC.1.2.2.2.2.2.2.2.2 hl.1 (c_X11_now _ _ _ (sim_now _ σ τ hR)) wvL_57 rfl (by decide) rfl ⟨by decide, by decide⟩ rfl (Nat.le_of_ble_eq_true rfl) rfl dL_law_414 ⟨by decide, by decide⟩ (fun r σ' hq => ?_)
  refine eg_swap ?_
  refine eg_aload HC.1 rfl (lv_at hl 1 rfl) dL_law_417 ?_
  refine l_arg HC hl (k := 1) (by omega) rfl dL_law_418 dL_law_419 dL_law_420 dL_law_421 dL_law_422 ?_
  refine eg_Vi (sd := SM) (wr := wd SX.1 aX cX σ') (c0 := 0) (As := [.int (xs (i + 1))]) HC.1 HC.2.1 hl.1 (c_X12_now _ _ _ hq) wvL_60 rfl (by decide) rfl ⟨by decide, by decide⟩ rfl (Nat.le_of_ble_eq_true rfl) rfl dL_law_423 ⟨by decide, by decide⟩ (fun r' τ' hq2 => ?_)
  refine eg_swap ?_
  exact l_cmp HC hq2.1 dL_law_426 (by decide) (kk σ' τ' hq2.2)
theorem wl_X11_yieldOf : CWc yX11_yieldOf cX11_yieldOf 2 (some .int) 1 := ⟨List.mem_of_getElem? (i := 464) (by decide +kernel), List.mem_of_getElem? (i := 2) (by decide +kernel), by decide +kernel, by decide⟩
theorem wvL_61 : CWv RL 61 yX11_yieldOf cX11_yieldOf 2 (some .int) 1 := ⟨wl_X11_yieldOf, List.mem_of_getElem? (i := 461) (by decide +kernel), List.mem_of_getElem? (i := 462) (by decide +kernel), List.mem_of_getElem? (i := 463) (by decide +kernel)⟩
theorem wvL_64 : CWv RL 64 yX12_yieldOf cX12_yieldOf 2 (some .int) 1 := ⟨wc_X12_yieldOf, List.mem_of_getElem? (i := 470) (by decide +kernel), List.mem_of_getElem? (i := 471) (by decide +kernel), List.mem_of_getElem? (i := 472) (by decide +kernel)⟩
set_option maxRecDepth 100000 in
set_option maxHeartbeats 4000000 in
theorem l_yieldOf {p : Program} {l : Launch} {e : Env} {s : State} {m : MethodId} {below : List Frame} {meth : Method} {c : Code} {b L : Nat} {xs : Nat → Int32} {D : va_G} {cX cM : Nat → ClassId} {ls : Array Slot} {i : Nat} {aM aX : Nat → Nat} {σ τ : St} (HC : LC p s m meth c b L xs D cX cM) (hl : lv_has ls 4 [(3, .int (nI i)), (2, .ref (aM 0)), (1, .ref (aX 0)), (0, .ref b)]) (hi : i + 4 ≤ L) (hR : Rl σ τ) (kk : ∀ σ' τ', Rl σ' τ' → LE p l e s m below meth c b D ls 949 [] (wd SM.1 aM cM τ' ++ wd SX.1 aX cX σ')) : LE p l e s m below meth c b D ls 431 [] (wd SM.1 aM cM τ ++ wd SX.1 aX cX σ) := by
  refine eg_aload HC.1 rfl (lv_at hl 2 rfl) dL_law_431 ?_
  refine l_arg HC hl (k := 1) (by omega) rfl dL_law_432 dL_law_433 dL_law_434 dL_law_435 dL_law_436 ?_
  refine eg_Vi (sd := SX) (wr := wd SM.1 aM cM τ) (c0 := 0) (As := [.int (xs (i + 1))]) HC.1 HC.1.2.2.2.2.2.2.2.2 hl.1 (c_X11_yieldOf _ _ _ (sim_yieldOf _ σ τ hR)) wvL_61 rfl (by decide) rfl ⟨by decide, by decide⟩ rfl (Nat.le_of_ble_eq_true rfl) rfl dL_law_437 ⟨by decide, by decide⟩ (fun r σ' hq => ?_)
  refine eg_swap ?_
  refine eg_aload HC.1 rfl (lv_at hl 1 rfl) dL_law_440 ?_
  refine l_arg HC hl (k := 1) (by omega) rfl dL_law_441 dL_law_442 dL_law_443 dL_law_444 dL_law_445 ?_
  refine eg_Vi (sd := SM) (wr := wd SX.1 aX cX σ') (c0 := 0) (As := [.int (xs (i + 1))]) HC.1 HC.2.1 hl.1 (c_X12_yieldOf _ _ _ hq) wvL_64 rfl (by decide) rfl ⟨by decide, by decide⟩ rfl (Nat.le_of_ble_eq_true rfl) rfl dL_law_446 ⟨by decide, by decide⟩ (fun r' τ' hq2 => ?_)
  refine eg_swap ?_
  exact l_cmp HC hq2.1 dL_law_449 (by decide) (kk σ' τ' hq2.2)
theorem wl_X11_best : CWc yX11_best cX11_best 6 (some .int) 1 := ⟨List.mem_of_getElem? (i := 477) (by decide +kernel), List.mem_of_getElem? (i := 2) (by decide +kernel), by decide +kernel, by decide⟩
theorem wvL_65 : CWv RL 65 yX11_best cX11_best 6 (some .int) 1 := ⟨wl_X11_best, List.mem_of_getElem? (i := 474) (by decide +kernel), List.mem_of_getElem? (i := 475) (by decide +kernel), List.mem_of_getElem? (i := 476) (by decide +kernel)⟩
theorem wl_X12_best : CWc yX12_best cX12_best 6 (some .int) 1 := ⟨List.mem_of_getElem? (i := 481) (by decide +kernel), List.mem_of_getElem? (i := 5) (by decide +kernel), by decide +kernel, by decide⟩
theorem wvL_68 : CWv RL 68 yX12_best cX12_best 6 (some .int) 1 := ⟨wl_X12_best, List.mem_of_getElem? (i := 478) (by decide +kernel), List.mem_of_getElem? (i := 479) (by decide +kernel), List.mem_of_getElem? (i := 480) (by decide +kernel)⟩
set_option maxRecDepth 100000 in
set_option maxHeartbeats 4000000 in
theorem l_best {p : Program} {l : Launch} {e : Env} {s : State} {m : MethodId} {below : List Frame} {meth : Method} {c : Code} {b L : Nat} {xs : Nat → Int32} {D : va_G} {cX cM : Nat → ClassId} {ls : Array Slot} {i : Nat} {aM aX : Nat → Nat} {σ τ : St} (HC : LC p s m meth c b L xs D cX cM) (hl : lv_has ls 4 [(3, .int (nI i)), (2, .ref (aM 0)), (1, .ref (aX 0)), (0, .ref b)]) (hi : i + 4 ≤ L) (hR : Rl σ τ) (kk : ∀ σ' τ', Rl σ' τ' → LE p l e s m below meth c b D ls 949 [] (wd SM.1 aM cM τ' ++ wd SX.1 aX cX σ')) : LE p l e s m below meth c b D ls 454 [] (wd SM.1 aM cM τ ++ wd SX.1 aX cX σ) := by
  refine eg_aload HC.1 rfl (lv_at hl 2 rfl) dL_law_454 ?_
  refine l_arg HC hl (k := 1) (by omega) rfl dL_law_455 dL_law_456 dL_law_457 dL_law_458 dL_law_459 ?_
  refine eg_Vi (sd := SX) (wr := wd SM.1 aM cM τ) (c0 := 0) (As := [.int (xs (i + 1))]) HC.1 HC.1.2.2.2.2.2.2.2.2 hl.1 (c_X11_best _ _ _ (sim_best _ σ τ hR)) wvL_65 rfl (by decide) rfl ⟨by decide, by decide⟩ rfl (Nat.le_of_ble_eq_true rfl) rfl dL_law_460 ⟨by decide, by decide⟩ (fun r σ' hq => ?_)
  refine eg_swap ?_
  refine eg_aload HC.1 rfl (lv_at hl 1 rfl) dL_law_463 ?_
  refine l_arg HC hl (k := 1) (by omega) rfl dL_law_464 dL_law_465 dL_law_466 dL_law_467 dL_law_468 ?_
  refine eg_Vi (sd := SM) (wr := wd SX.1 aX cX σ') (c0 := 0) (As := [.int (xs (i + 1))]) HC.1 HC.2.1 hl.1 (c_X12_best _ _ _ hq) wvL_68 rfl (by decide) rfl ⟨by decide, by decide⟩ rfl (Nat.le_of_ble_eq_true rfl) rfl dL_law_469 ⟨by decide, by decide⟩ (fun r' τ' hq2 => ?_)
  refine eg_swap ?_
  exact l_cmp HC hq2.1 dL_law_472 (by decide) (kk σ' τ' hq2.2)
theorem wl_X11_plan : CWc yX11_plan cX11_plan 4 (some .int) 3 := ⟨List.mem_of_getElem? (i := 486) (by decide +kernel), List.mem_of_getElem? (i := 2) (by decide +kernel), by decide +kernel, by decide⟩
theorem wvL_69 : CWv RL 69 yX11_plan cX11_plan 4 (some .int) 3 := ⟨wl_X11_plan, List.mem_of_getElem? (i := 483) (by decide +kernel), List.mem_of_getElem? (i := 484) (by decide +kernel), List.mem_of_getElem? (i := 485) (by decide +kernel)⟩
theorem wl_X12_plan : CWc yX12_plan cX12_plan 14 (some .int) 3 := ⟨List.mem_of_getElem? (i := 529) (by decide +kernel), List.mem_of_getElem? (i := 5) (by decide +kernel), by decide +kernel, by decide⟩
theorem wvL_72 : CWv RL 72 yX12_plan cX12_plan 14 (some .int) 3 := ⟨wl_X12_plan, List.mem_of_getElem? (i := 526) (by decide +kernel), List.mem_of_getElem? (i := 527) (by decide +kernel), List.mem_of_getElem? (i := 528) (by decide +kernel)⟩
set_option maxRecDepth 100000 in
set_option maxHeartbeats 4000000 in
theorem l_plan {p : Program} {l : Launch} {e : Env} {s : State} {m : MethodId} {below : List Frame} {meth : Method} {c : Code} {b L : Nat} {xs : Nat → Int32} {D : va_G} {cX cM : Nat → ClassId} {ls : Array Slot} {i : Nat} {aM aX : Nat → Nat} {σ τ : St} (HC : LC p s m meth c b L xs D cX cM) (hl : lv_has ls 4 [(3, .int (nI i)), (2, .ref (aM 0)), (1, .ref (aX 0)), (0, .ref b)]) (hi : i + 4 ≤ L) (hR : Rl σ τ) (kk : ∀ σ' τ', Rl σ' τ' → LE p l e s m below meth c b D ls 949 [] (wd SM.1 aM cM τ' ++ wd SX.1 aX cX σ')) : LE p l e s m below meth c b D ls 477 [] (wd SM.1 aM cM τ ++ wd SX.1 aX cX σ) := by
  refine eg_aload HC.1 rfl (lv_at hl 2 rfl) dL_law_477 ?_
  refine l_arg HC hl (k := 1) (by omega) rfl dL_law_478 dL_law_479 dL_law_480 dL_law_481 dL_law_482 ?_
  refine l_arg HC hl (k := 2) (by omega) rfl dL_law_483 dL_law_484 dL_law_485 dL_law_486 dL_law_487 ?_
  refine l_arg HC hl (k := 3) (by omega) rfl dL_law_488 dL_law_489 dL_law_490 dL_law_491 dL_law_492 ?_
  refine eg_Vi (sd := SX) (wr := wd SM.1 aM cM τ) (c0 := 0) (As := [.int (xs (i + 1)), .int (xs (i + 2)), .int (xs (i + 3))]) HC.1 HC.1.2.2.2.2.2.2.2.2 hl.1 (c_X11_plan _ _ _ _ _ (sim_plan _ _ _ σ τ hR)) wvL_69 rfl (by decide) rfl ⟨by decide, by decide⟩ rfl (Nat.le_of_ble_eq_true rfl) rfl dL_law_493 ⟨by decide, by decide⟩ (fun r σ' hq => ?_)
  refine eg_swap ?_
  refine eg_aload HC.1 rfl (lv_at hl 1 rfl) dL_law_496 ?_
  refine l_arg HC hl (k := 1) (by omega) rfl dL_law_497 dL_law_498 dL_law_499 dL_law_500 dL_law_501 ?_
  refine l_arg HC hl (k := 2) (by omega) rfl dL_law_502 dL_law_503 dL_law_504 dL_law_505 dL_law_506 ?_
  refine l_arg HC hl (k := 3) (by omega) rfl dL_law_507 dL_law_508 dL_law_509 dL_law_510 dL_law_511 ?_
  refine eg_Vi (sd := SM) (wr := wd SX.1 aX cX σ') (c0 := 0) (As := [.int (xs (i + 1)), .int (xs (i + 2)), .int (xs (i + 3))]) HC.1 HC.2.1 hl.1 (c_X12_plan _ _ _ _ _ hq) wvL_72 rfl (by decide) rfl ⟨by decide, by decide⟩ rfl (Nat.le_of_ble_eq_true rfl) rfl dL_law_512 ⟨by decide, by decide⟩ (fun r' τ' hq2 => ?_)
  refine eg_swap ?_
  exact l_cmp HC hq2.1 dL_law_515 (by decide) (kk σ' τ' hq2.2)
theorem wl_X11_lean : CWc yX11_lean cX11_lean 4 (some .int) 2 := ⟨List.mem_of_getElem? (i := 537) (by decide +kernel), List.mem_of_getElem? (i := 2) (by decide +kernel), by decide +kernel, by decide⟩
theorem wvL_73 : CWv RL 73 yX11_lean cX11_lean 4 (some .int) 2 := ⟨wl_X11_lean, List.mem_of_getElem? (i := 534) (by decide +kernel), List.mem_of_getElem? (i := 535) (by decide +kernel), List.mem_of_getElem? (i := 536) (by decide +kernel)⟩
theorem wl_X12_lean : CWc yX12_lean cX12_lean 4 (some .int) 2 := ⟨List.mem_of_getElem? (i := 542) (by decide +kernel), List.mem_of_getElem? (i := 5) (by decide +kernel), by decide +kernel, by decide⟩
theorem wvL_76 : CWv RL 76 yX12_lean cX12_lean 4 (some .int) 2 := ⟨wl_X12_lean, List.mem_of_getElem? (i := 539) (by decide +kernel), List.mem_of_getElem? (i := 540) (by decide +kernel), List.mem_of_getElem? (i := 541) (by decide +kernel)⟩
set_option maxRecDepth 100000 in
set_option maxHeartbeats 4000000 in
theorem l_lean {p : Program} {l : Launch} {e : Env} {s : State} {m : MethodId} {below : List Frame} {meth : Method} {c : Code} {b L : Nat} {xs : Nat → Int32} {D : va_G} {cX cM : Nat → ClassId} {ls : Array Slot} {i : Nat} {aM aX : Nat → Nat} {σ τ : St} (HC : LC p s m meth c b L xs D cX cM) (hl : lv_has ls 4 [(3, .int (nI i)), (2, .ref (aM 0)), (1, .ref (aX 0)), (0, .ref b)]) (hi : i + 4 ≤ L) (hR : Rl σ τ) (kk : ∀ σ' τ', Rl σ' τ' → LE p l e s m below meth c b D ls 949 [] (wd SM.1 aM cM τ' ++ wd SX.1 aX cX σ')) : LE p l e s m below meth c b D ls 520 [] (wd SM.1 aM cM τ ++ wd SX.1 aX cX σ) := by
  refine eg_aload HC.1 rfl (lv_at hl 2 rfl) dL_law_520 ?_
  refine l_arg HC hl (k := 1) (by omega) rfl dL_law_521 dL_law_522 dL_law_523 dL_law_524 dL_law_525 ?_
  refine l_arg HC hl (k := 2) (by omega) rfl dL_law_526 dL_law_527 dL_law_528 dL_law_529 dL_law_530 ?_
  refine eg_Vi (sd := SX) (wr := wd SM.1 aM cM τ) (c0 := 0) (As := [.int (xs (i + 1)), .int (xs (i + 2))]) HC.1 HC.1.2.2.2.2.2.2.2.2 hl.1 (c_X11_lean _ _ _ _ (sim_lean _ _ σ τ hR)) wvL_73 rfl (by decide) rfl ⟨by decide, by decide⟩ rfl (Nat.le_of_ble_eq_true rfl) rfl dL_law_531 ⟨by decide, by decide⟩ (fun r σ' hq => ?_)
  refine eg_swap ?_
  refine eg_aload HC.1 rfl (lv_at hl 1 rfl) dL_law_534 ?_
  refine l_arg HC hl (k := 1) (by omega) rfl dL_law_535 dL_law_536 dL_law_537 dL_law_538 dL_law_539 ?_
  refine l_arg HC hl (k := 2) (by omega) rfl dL_law_540 dL_law_541 dL_law_542 dL_law_543 dL_law_544 ?_
  refine eg_Vi (sd := SM) (wr := wd SX.1 aX cX σ') (c0 := 0) (As := [.int (xs (i + 1)), .int (xs (i + 2))]) HC.1 HC.2.1 hl.1 (c_X12_lean _ _ _ _ hq) wvL_76 rfl (by decide) rfl ⟨by decide, by decide⟩ rfl (Nat.le_of_ble_eq_true rfl) rfl dL_law_545 ⟨by decide, by decide⟩ (fun r' τ' hq2 => ?_)
  refine eg_swap ?_
  exact l_cmp HC hq2.1 dL_law_548 (by decide) (kk σ' τ' hq2.2)
theorem wl_X11_still : CWc yX11_still cX11_still 5 (some .int) 3 := ⟨List.mem_of_getElem? (i := 546) (by decide +kernel), List.mem_of_getElem? (i := 2) (by decide +kernel), by decide +kernel, by decide⟩
theorem wvL_77 : CWv RL 77 yX11_still cX11_still 5 (some .int) 3 := ⟨wl_X11_still, List.mem_of_getElem? (i := 543) (by decide +kernel), List.mem_of_getElem? (i := 544) (by decide +kernel), List.mem_of_getElem? (i := 545) (by decide +kernel)⟩
theorem wl_X12_still : CWc yX12_still cX12_still 5 (some .int) 3 := ⟨List.mem_of_getElem? (i := 550) (by decide +kernel), List.mem_of_getElem? (i := 5) (by decide +kernel), by decide +kernel, by decide⟩
theorem wvL_80 : CWv RL 80 yX12_still cX12_still 5 (some .int) 3 := ⟨wl_X12_still, List.mem_of_getElem? (i := 547) (by decide +kernel), List.mem_of_getElem? (i := 548) (by decide +kernel), List.mem_of_getElem? (i := 549) (by decide +kernel)⟩
set_option maxRecDepth 100000 in
set_option maxHeartbeats 4000000 in
theorem l_still {p : Program} {l : Launch} {e : Env} {s : State} {m : MethodId} {below : List Frame} {meth : Method} {c : Code} {b L : Nat} {xs : Nat → Int32} {D : va_G} {cX cM : Nat → ClassId} {ls : Array Slot} {i : Nat} {aM aX : Nat → Nat} {σ τ : St} (HC : LC p s m meth c b L xs D cX cM) (hl : lv_has ls 4 [(3, .int (nI i)), (2, .ref (aM 0)), (1, .ref (aX 0)), (0, .ref b)]) (hi : i + 4 ≤ L) (hR : Rl σ τ) (kk : ∀ σ' τ', Rl σ' τ' → LE p l e s m below meth c b D ls 949 [] (wd SM.1 aM cM τ' ++ wd SX.1 aX cX σ')) : LE p l e s m below meth c b D ls 553 [] (wd SM.1 aM cM τ ++ wd SX.1 aX cX σ) := by
  refine eg_aload HC.1 rfl (lv_at hl 2 rfl) dL_law_553 ?_
  refine l_arg HC hl (k := 1) (by omega) rfl dL_law_554 dL_law_555 dL_law_556 dL_law_557 dL_law_558 ?_
  refine l_arg HC hl (k := 2) (by omega) rfl dL_law_559 dL_law_560 dL_law_561 dL_law_562 dL_law_563 ?_
  refine l_arg HC hl (k := 3) (by omega) rfl dL_law_564 dL_law_565 dL_law_566 dL_law_567 dL_law_568 ?_
  refine eg_Vi (sd := SX) (wr := wd SM.1 aM cM τ) (c0 := 0) (As := [.int (xs (i + 1)), .int (xs (i + 2)), .int (xs (i + 3))]) HC.1 HC.1.2.2.2.2.2.2.2.2 hl.1 (c_X11_still _ _ _ _ _ (sim_still _ _ _ σ τ hR)) wvL_77 rfl (by decide) rfl ⟨by decide, by decide⟩ rfl (Nat.le_of_ble_eq_true rfl) rfl dL_law_569 ⟨by decide, by decide⟩ (fun r σ' hq => ?_)
  refine eg_swap ?_
  refine eg_aload HC.1 rfl (lv_at hl 1 rfl) dL_law_572 ?_
  refine l_arg HC hl (k := 1) (by omega) rfl dL_law_573 dL_law_574 dL_law_575 dL_law_576 dL_law_577 ?_
  refine l_arg HC hl (k := 2) (by omega) rfl dL_law_578 dL_law_579 dL_law_580 dL_law_581 dL_law_582 ?_
  refine l_arg HC hl (k := 3) (by omega) rfl dL_law_583 dL_law_584 dL_law_585 dL_law_586 dL_law_587 ?_
  refine eg_Vi (sd := SM) (wr := wd SX.1 aX cX σ') (c0 := 0) (As := [.int (xs (i + 1)), .int (xs (i + 2)), .int (xs (i + 3))]) HC.1 HC.2.1 hl.1 (c_X12_still _ _ _ _ _ hq) wvL_80 rfl (by decide) rfl ⟨by decide, by decide⟩ rfl (Nat.le_of_ble_eq_true rfl) rfl dL_law_588 ⟨by decide, by decide⟩ (fun r' τ' hq2 => ?_)
  refine eg_swap ?_
  exact l_cmp HC hq2.1 dL_law_591 (by decide) (kk σ' τ' hq2.2)
theorem wl_X11_temper : CWc yX11_temper cX11_temper 4 (some .int) 1 := ⟨List.mem_of_getElem? (i := 554) (by decide +kernel), List.mem_of_getElem? (i := 2) (by decide +kernel), by decide +kernel, by decide⟩
theorem wvL_81 : CWv RL 81 yX11_temper cX11_temper 4 (some .int) 1 := ⟨wl_X11_temper, List.mem_of_getElem? (i := 551) (by decide +kernel), List.mem_of_getElem? (i := 552) (by decide +kernel), List.mem_of_getElem? (i := 553) (by decide +kernel)⟩
theorem wl_X12_temper : CWc yX12_temper cX12_temper 5 (some .int) 1 := ⟨List.mem_of_getElem? (i := 562) (by decide +kernel), List.mem_of_getElem? (i := 5) (by decide +kernel), by decide +kernel, by decide⟩
theorem wvL_84 : CWv RL 84 yX12_temper cX12_temper 5 (some .int) 1 := ⟨wl_X12_temper, List.mem_of_getElem? (i := 559) (by decide +kernel), List.mem_of_getElem? (i := 560) (by decide +kernel), List.mem_of_getElem? (i := 561) (by decide +kernel)⟩
set_option maxRecDepth 100000 in
set_option maxHeartbeats 4000000 in
theorem l_temper {p : Program} {l : Launch} {e : Env} {s : State} {m : MethodId} {below : List Frame} {meth : Method} {c : Code} {b L : Nat} {xs : Nat → Int32} {D : va_G} {cX cM : Nat → ClassId} {ls : Array Slot} {i : Nat} {aM aX : Nat → Nat} {σ τ : St} (HC : LC p s m meth c b L xs D cX cM) (hl : lv_has ls 4 [(3, .int (nI i)), (2, .ref (aM 0)), (1, .ref (aX 0)), (0, .ref b)]) (hi : i + 4 ≤ L) (hR : Rl σ τ) (kk : ∀ σ' τ', Rl σ' τ' → LE p l e s m below meth c b D ls 949 [] (wd SM.1 aM cM τ' ++ wd SX.1 aX cX σ')) : LE p l e s m below meth c b D ls 596 [] (wd SM.1 aM cM τ ++ wd SX.1 aX cX σ) := by
  refine eg_aload HC.1 rfl (lv_at hl 2 rfl) dL_law_596 ?_
  refine l_arg HC hl (k := 1) (by omega) rfl dL_law_597 dL_law_598 dL_law_599 dL_law_600 dL_law_601 ?_
  refine eg_Vi (sd := SX) (wr := wd SM.1 aM cM τ) (c0 := 0) (As := [.int (xs (i + 1))]) HC.1 HC.1.2.2.2.2.2.2.2.2 hl.1 (c_X11_temper _ _ _ (sim_temper _ σ τ hR)) wvL_81 rfl (by decide) rfl ⟨by decide, by decide⟩ rfl (Nat.le_of_ble_eq_true rfl) rfl dL_law_602 ⟨by decide, by decide⟩ (fun r σ' hq => ?_)
  refine eg_swap ?_
  refine eg_aload HC.1 rfl (lv_at hl 1 rfl) dL_law_605 ?_
  refine l_arg HC hl (k := 1) (by omega) rfl dL_law_606 dL_law_607 dL_law_608 dL_law_609 dL_law_610 ?_
  refine eg_Vi (sd := SM) (wr := wd SX.1 aX cX σ') (c0 := 0) (As := [.int (xs (i + 1))]) HC.1 HC.2.1 hl.1 (c_X12_temper _ _ _ hq) wvL_84 rfl (by decide) rfl ⟨by decide, by decide⟩ rfl (Nat.le_of_ble_eq_true rfl) rfl dL_law_611 ⟨by decide, by decide⟩ (fun r' τ' hq2 => ?_)
  refine eg_swap ?_
  exact l_cmp HC hq2.1 dL_law_614 (by decide) (kk σ' τ' hq2.2)
theorem wl_X11_mates : CWc yX11_mates cX11_mates 2 (some .int) 1 := ⟨List.mem_of_getElem? (i := 566) (by decide +kernel), List.mem_of_getElem? (i := 2) (by decide +kernel), by decide +kernel, by decide⟩
theorem wvL_85 : CWv RL 85 yX11_mates cX11_mates 2 (some .int) 1 := ⟨wl_X11_mates, List.mem_of_getElem? (i := 563) (by decide +kernel), List.mem_of_getElem? (i := 564) (by decide +kernel), List.mem_of_getElem? (i := 565) (by decide +kernel)⟩
theorem wl_X12_mates : CWc yX12_mates cX12_mates 7 (some .int) 1 := ⟨List.mem_of_getElem? (i := 589) (by decide +kernel), List.mem_of_getElem? (i := 5) (by decide +kernel), by decide +kernel, by decide⟩
theorem wvL_88 : CWv RL 88 yX12_mates cX12_mates 7 (some .int) 1 := ⟨wl_X12_mates, List.mem_of_getElem? (i := 586) (by decide +kernel), List.mem_of_getElem? (i := 587) (by decide +kernel), List.mem_of_getElem? (i := 588) (by decide +kernel)⟩
set_option maxRecDepth 100000 in
set_option maxHeartbeats 4000000 in
theorem l_mates {p : Program} {l : Launch} {e : Env} {s : State} {m : MethodId} {below : List Frame} {meth : Method} {c : Code} {b L : Nat} {xs : Nat → Int32} {D : va_G} {cX cM : Nat → ClassId} {ls : Array Slot} {i : Nat} {aM aX : Nat → Nat} {σ τ : St} (HC : LC p s m meth c b L xs D cX cM) (hl : lv_has ls 4 [(3, .int (nI i)), (2, .ref (aM 0)), (1, .ref (aX 0)), (0, .ref b)]) (hi : i + 4 ≤ L) (hR : Rl σ τ) (kk : ∀ σ' τ', Rl σ' τ' → LE p l e s m below meth c b D ls 949 [] (wd SM.1 aM cM τ' ++ wd SX.1 aX cX σ')) : LE p l e s m below meth c b D ls 619 [] (wd SM.1 aM cM τ ++ wd SX.1 aX cX σ) := by
  refine eg_aload HC.1 rfl (lv_at hl 2 rfl) dL_law_619 ?_
  refine l_arg HC hl (k := 1) (by omega) rfl dL_law_620 dL_law_621 dL_law_622 dL_law_623 dL_law_624 ?_
  refine eg_Vi (sd := SX) (wr := wd SM.1 aM cM τ) (c0 := 0) (As := [.int (xs (i + 1))]) HC.1 HC.1.2.2.2.2.2.2.2.2 hl.1 (c_X11_mates _ _ _ (sim_mates _ σ τ hR)) wvL_85 rfl (by decide) rfl ⟨by decide, by decide⟩ rfl (Nat.le_of_ble_eq_true rfl) rfl dL_law_625 ⟨by decide, by decide⟩ (fun r σ' hq => ?_)
  refine eg_swap ?_
  refine eg_aload HC.1 rfl (lv_at hl 1 rfl) dL_law_628 ?_
  refine l_arg HC hl (k := 1) (by omega) rfl dL_law_629 dL_law_630 dL_law_631 dL_law_632 dL_law_633 ?_
  refine eg_Vi (sd := SM) (wr := wd SX.1 aX cX σ') (c0 := 0) (As := [.int (xs (i + 1))]) HC.1 HC.2.1 hl.1 (c_X12_mates _ _ _ hq) wvL_88 rfl (by decide) rfl ⟨by decide, by decide⟩ rfl (Nat.le_of_ble_eq_true rfl) rfl dL_law_634 ⟨by decide, by decide⟩ (fun r' τ' hq2 => ?_)
  refine eg_swap ?_
  exact l_cmp HC hq2.1 dL_law_637 (by decide) (kk σ' τ' hq2.2)
theorem wl_X11_lights : CWc yX11_lights cX11_lights 3 (some .int) 2 := ⟨List.mem_of_getElem? (i := 597) (by decide +kernel), List.mem_of_getElem? (i := 2) (by decide +kernel), by decide +kernel, by decide⟩
theorem wvL_89 : CWv RL 89 yX11_lights cX11_lights 3 (some .int) 2 := ⟨wl_X11_lights, List.mem_of_getElem? (i := 594) (by decide +kernel), List.mem_of_getElem? (i := 595) (by decide +kernel), List.mem_of_getElem? (i := 596) (by decide +kernel)⟩
theorem wl_X12_lights : CWc yX12_lights cX12_lights 3 (some .int) 2 := ⟨List.mem_of_getElem? (i := 601) (by decide +kernel), List.mem_of_getElem? (i := 5) (by decide +kernel), by decide +kernel, by decide⟩
theorem wvL_92 : CWv RL 92 yX12_lights cX12_lights 3 (some .int) 2 := ⟨wl_X12_lights, List.mem_of_getElem? (i := 598) (by decide +kernel), List.mem_of_getElem? (i := 599) (by decide +kernel), List.mem_of_getElem? (i := 600) (by decide +kernel)⟩
set_option maxRecDepth 100000 in
set_option maxHeartbeats 4000000 in
theorem l_lights {p : Program} {l : Launch} {e : Env} {s : State} {m : MethodId} {below : List Frame} {meth : Method} {c : Code} {b L : Nat} {xs : Nat → Int32} {D : va_G} {cX cM : Nat → ClassId} {ls : Array Slot} {i : Nat} {aM aX : Nat → Nat} {σ τ : St} (HC : LC p s m meth c b L xs D cX cM) (hl : lv_has ls 4 [(3, .int (nI i)), (2, .ref (aM 0)), (1, .ref (aX 0)), (0, .ref b)]) (hi : i + 4 ≤ L) (hR : Rl σ τ) (kk : ∀ σ' τ', Rl σ' τ' → LE p l e s m below meth c b D ls 949 [] (wd SM.1 aM cM τ' ++ wd SX.1 aX cX σ')) : LE p l e s m below meth c b D ls 642 [] (wd SM.1 aM cM τ ++ wd SX.1 aX cX σ) := by
  refine eg_aload HC.1 rfl (lv_at hl 2 rfl) dL_law_642 ?_
  refine l_arg HC hl (k := 1) (by omega) rfl dL_law_643 dL_law_644 dL_law_645 dL_law_646 dL_law_647 ?_
  refine l_arg HC hl (k := 2) (by omega) rfl dL_law_648 dL_law_649 dL_law_650 dL_law_651 dL_law_652 ?_
  refine eg_Vi (sd := SX) (wr := wd SM.1 aM cM τ) (c0 := 0) (As := [.int (xs (i + 1)), .int (xs (i + 2))]) HC.1 HC.1.2.2.2.2.2.2.2.2 hl.1 (c_X11_lights _ _ _ _ (sim_lights _ _ σ τ hR)) wvL_89 rfl (by decide) rfl ⟨by decide, by decide⟩ rfl (Nat.le_of_ble_eq_true rfl) rfl dL_law_653 ⟨by decide, by decide⟩ (fun r σ' hq => ?_)
  refine eg_swap ?_
  refine eg_aload HC.1 rfl (lv_at hl 1 rfl) dL_law_656 ?_
  refine l_arg HC hl (k := 1) (by omega) rfl dL_law_657 dL_law_658 dL_law_659 dL_law_660 dL_law_661 ?_
  refine l_arg HC hl (k := 2) (by omega) rfl dL_law_662 dL_law_663 dL_law_664 dL_law_665 dL_law_666 ?_
  refine eg_Vi (sd := SM) (wr := wd SX.1 aX cX σ') (c0 := 0) (As := [.int (xs (i + 1)), .int (xs (i + 2))]) HC.1 HC.2.1 hl.1 (c_X12_lights _ _ _ _ hq) wvL_92 rfl (by decide) rfl ⟨by decide, by decide⟩ rfl (Nat.le_of_ble_eq_true rfl) rfl dL_law_667 ⟨by decide, by decide⟩ (fun r' τ' hq2 => ?_)
  refine eg_swap ?_
  exact l_cmp HC hq2.1 dL_law_670 (by decide) (kk σ' τ' hq2.2)
theorem wl_X11_forget : CWc yX11_forget cX11_forget 2 (some .int) 0 := ⟨List.mem_of_getElem? (i := 605) (by decide +kernel), List.mem_of_getElem? (i := 2) (by decide +kernel), by decide +kernel, by decide⟩
theorem wvL_93 : CWv RL 93 yX11_forget cX11_forget 2 (some .int) 0 := ⟨wl_X11_forget, List.mem_of_getElem? (i := 602) (by decide +kernel), List.mem_of_getElem? (i := 603) (by decide +kernel), List.mem_of_getElem? (i := 604) (by decide +kernel)⟩
theorem wl_X12_forget : CWc yX12_forget cX12_forget 2 (some .int) 0 := ⟨List.mem_of_getElem? (i := 609) (by decide +kernel), List.mem_of_getElem? (i := 5) (by decide +kernel), by decide +kernel, by decide⟩
theorem wvL_96 : CWv RL 96 yX12_forget cX12_forget 2 (some .int) 0 := ⟨wl_X12_forget, List.mem_of_getElem? (i := 606) (by decide +kernel), List.mem_of_getElem? (i := 607) (by decide +kernel), List.mem_of_getElem? (i := 608) (by decide +kernel)⟩
set_option maxRecDepth 100000 in
set_option maxHeartbeats 4000000 in
theorem l_forget {p : Program} {l : Launch} {e : Env} {s : State} {m : MethodId} {below : List Frame} {meth : Method} {c : Code} {b L : Nat} {xs : Nat → Int32} {D : va_G} {cX cM : Nat → ClassId} {ls : Array Slot} {i : Nat} {aM aX : Nat → Nat} {σ τ : St} (HC : LC p s m meth c b L xs D cX cM) (hl : lv_has ls 4 [(3, .int (nI i)), (2, .ref (aM 0)), (1, .ref (aX 0)), (0, .ref b)]) (hi : i + 4 ≤ L) (hR : Rl σ τ) (kk : ∀ σ' τ', Rl σ' τ' → LE p l e s m below meth c b D ls 949 [] (wd SM.1 aM cM τ' ++ wd SX.1 aX cX σ')) : LE p l e s m below meth c b D ls 675 [] (wd SM.1 aM cM τ ++ wd SX.1 aX cX σ) := by
  refine eg_aload HC.1 rfl (lv_at hl 2 rfl) dL_law_675 ?_
  refine eg_Vi (sd := SX) (wr := wd SM.1 aM cM τ) (c0 := 0) (As := []) HC.1 HC.1.2.2.2.2.2.2.2.2 hl.1 (c_X11_forget  _ _ (sim_forget  σ τ hR)) wvL_93 rfl (by decide) rfl ⟨by decide, by decide⟩ rfl (Nat.le_of_ble_eq_true rfl) rfl dL_law_676 ⟨by decide, by decide⟩ (fun r σ' hq => ?_)
  refine eg_swap ?_
  refine eg_aload HC.1 rfl (lv_at hl 1 rfl) dL_law_679 ?_
  refine eg_Vi (sd := SM) (wr := wd SX.1 aX cX σ') (c0 := 0) (As := []) HC.1 HC.2.1 hl.1 (c_X12_forget  _ _ hq) wvL_96 rfl (by decide) rfl ⟨by decide, by decide⟩ rfl (Nat.le_of_ble_eq_true rfl) rfl dL_law_680 ⟨by decide, by decide⟩ (fun r' τ' hq2 => ?_)
  refine eg_swap ?_
  exact l_cmp HC hq2.1 dL_law_683 (by decide) (kk σ' τ' hq2.2)
theorem wl_X11_whose : CWc yX11_whose cX11_whose 3 (some .int) 0 := ⟨List.mem_of_getElem? (i := 613) (by decide +kernel), List.mem_of_getElem? (i := 2) (by decide +kernel), by decide +kernel, by decide⟩
theorem wvL_97 : CWv RL 97 yX11_whose cX11_whose 3 (some .int) 0 := ⟨wl_X11_whose, List.mem_of_getElem? (i := 610) (by decide +kernel), List.mem_of_getElem? (i := 611) (by decide +kernel), List.mem_of_getElem? (i := 612) (by decide +kernel)⟩
theorem wl_X12_whose : CWc yX12_whose cX12_whose 5 (some .int) 0 := ⟨List.mem_of_getElem? (i := 625) (by decide +kernel), List.mem_of_getElem? (i := 5) (by decide +kernel), by decide +kernel, by decide⟩
theorem wvL_100 : CWv RL 100 yX12_whose cX12_whose 5 (some .int) 0 := ⟨wl_X12_whose, List.mem_of_getElem? (i := 622) (by decide +kernel), List.mem_of_getElem? (i := 623) (by decide +kernel), List.mem_of_getElem? (i := 624) (by decide +kernel)⟩
set_option maxRecDepth 100000 in
set_option maxHeartbeats 4000000 in
theorem l_whose {p : Program} {l : Launch} {e : Env} {s : State} {m : MethodId} {below : List Frame} {meth : Method} {c : Code} {b L : Nat} {xs : Nat → Int32} {D : va_G} {cX cM : Nat → ClassId} {ls : Array Slot} {i : Nat} {aM aX : Nat → Nat} {σ τ : St} (HC : LC p s m meth c b L xs D cX cM) (hl : lv_has ls 4 [(3, .int (nI i)), (2, .ref (aM 0)), (1, .ref (aX 0)), (0, .ref b)]) (hi : i + 4 ≤ L) (hR : Rl σ τ) (kk : ∀ σ' τ', Rl σ' τ' → LE p l e s m below meth c b D ls 949 [] (wd SM.1 aM cM τ' ++ wd SX.1 aX cX σ')) : LE p l e s m below meth c b D ls 688 [] (wd SM.1 aM cM τ ++ wd SX.1 aX cX σ) := by
  refine eg_aload HC.1 rfl (lv_at hl 2 rfl) dL_law_688 ?_
  refine eg_Vi (sd := SX) (wr := wd SM.1 aM cM τ) (c0 := 0) (As := []) HC.1 HC.1.2.2.2.2.2.2.2.2 hl.1 (c_X11_whose  _ _ (sim_whose  σ τ hR)) wvL_97 rfl (by decide) rfl ⟨by decide, by decide⟩ rfl (Nat.le_of_ble_eq_true rfl) rfl dL_law_689 ⟨by decide, by decide⟩ (fun r σ' hq => ?_)
  refine eg_swap ?_
  refine eg_aload HC.1 rfl (lv_at hl 1 rfl) dL_law_692 ?_
  refine eg_Vi (sd := SM) (wr := wd SX.1 aX cX σ') (c0 := 0) (As := []) HC.1 HC.2.1 hl.1 (c_X12_whose  _ _ hq) wvL_100 rfl (by decide) rfl ⟨by decide, by decide⟩ rfl (Nat.le_of_ble_eq_true rfl) rfl dL_law_693 ⟨by decide, by decide⟩ (fun r' τ' hq2 => ?_)
  refine eg_swap ?_
  exact l_cmp HC hq2.1 dL_law_696 (by decide) (kk σ' τ' hq2.2)
theorem wl_X11_sold : CWc yX11_sold cX11_sold 7 (some .int) 2 := ⟨List.mem_of_getElem? (i := 629) (by decide +kernel), List.mem_of_getElem? (i := 2) (by decide +kernel), by decide +kernel, by decide⟩
theorem wvL_101 : CWv RL 101 yX11_sold cX11_sold 7 (some .int) 2 := ⟨wl_X11_sold, List.mem_of_getElem? (i := 626) (by decide +kernel), List.mem_of_getElem? (i := 627) (by decide +kernel), List.mem_of_getElem? (i := 628) (by decide +kernel)⟩
theorem wl_X12_sold : CWc yX12_sold cX12_sold 8 (some .int) 2 := ⟨List.mem_of_getElem? (i := 637) (by decide +kernel), List.mem_of_getElem? (i := 5) (by decide +kernel), by decide +kernel, by decide⟩
theorem wvL_104 : CWv RL 104 yX12_sold cX12_sold 8 (some .int) 2 := ⟨wl_X12_sold, List.mem_of_getElem? (i := 634) (by decide +kernel), List.mem_of_getElem? (i := 635) (by decide +kernel), List.mem_of_getElem? (i := 636) (by decide +kernel)⟩
set_option maxRecDepth 100000 in
set_option maxHeartbeats 4000000 in
theorem l_sold {p : Program} {l : Launch} {e : Env} {s : State} {m : MethodId} {below : List Frame} {meth : Method} {c : Code} {b L : Nat} {xs : Nat → Int32} {D : va_G} {cX cM : Nat → ClassId} {ls : Array Slot} {i : Nat} {aM aX : Nat → Nat} {σ τ : St} (HC : LC p s m meth c b L xs D cX cM) (hl : lv_has ls 4 [(3, .int (nI i)), (2, .ref (aM 0)), (1, .ref (aX 0)), (0, .ref b)]) (hi : i + 4 ≤ L) (hR : Rl σ τ) (kk : ∀ σ' τ', Rl σ' τ' → LE p l e s m below meth c b D ls 949 [] (wd SM.1 aM cM τ' ++ wd SX.1 aX cX σ')) : LE p l e s m below meth c b D ls 701 [] (wd SM.1 aM cM τ ++ wd SX.1 aX cX σ) := by
  refine eg_aload HC.1 rfl (lv_at hl 2 rfl) dL_law_701 ?_
  refine l_arg HC hl (k := 1) (by omega) rfl dL_law_702 dL_law_703 dL_law_704 dL_law_705 dL_law_706 ?_
  refine l_arg HC hl (k := 2) (by omega) rfl dL_law_707 dL_law_708 dL_law_709 dL_law_710 dL_law_711 ?_
  refine eg_Vi (sd := SX) (wr := wd SM.1 aM cM τ) (c0 := 0) (As := [.int (xs (i + 1)), .int (xs (i + 2))]) HC.1 HC.1.2.2.2.2.2.2.2.2 hl.1 (c_X11_sold _ _ _ _ (sim_sold _ _ σ τ hR)) wvL_101 rfl (by decide) rfl ⟨by decide, by decide⟩ rfl (Nat.le_of_ble_eq_true rfl) rfl dL_law_712 ⟨by decide, by decide⟩ (fun r σ' hq => ?_)
  refine eg_swap ?_
  refine eg_aload HC.1 rfl (lv_at hl 1 rfl) dL_law_715 ?_
  refine l_arg HC hl (k := 1) (by omega) rfl dL_law_716 dL_law_717 dL_law_718 dL_law_719 dL_law_720 ?_
  refine l_arg HC hl (k := 2) (by omega) rfl dL_law_721 dL_law_722 dL_law_723 dL_law_724 dL_law_725 ?_
  refine eg_Vi (sd := SM) (wr := wd SX.1 aX cX σ') (c0 := 0) (As := [.int (xs (i + 1)), .int (xs (i + 2))]) HC.1 HC.2.1 hl.1 (c_X12_sold _ _ _ _ hq) wvL_104 rfl (by decide) rfl ⟨by decide, by decide⟩ rfl (Nat.le_of_ble_eq_true rfl) rfl dL_law_726 ⟨by decide, by decide⟩ (fun r' τ' hq2 => ?_)
  refine eg_swap ?_
  exact l_cmp HC hq2.1 dL_law_729 (by decide) (kk σ' τ' hq2.2)
theorem wl_X11_tells : CWc yX11_tells cX11_tells 3 (some .int) 2 := ⟨List.mem_of_getElem? (i := 641) (by decide +kernel), List.mem_of_getElem? (i := 2) (by decide +kernel), by decide +kernel, by decide⟩
theorem wvL_105 : CWv RL 105 yX11_tells cX11_tells 3 (some .int) 2 := ⟨wl_X11_tells, List.mem_of_getElem? (i := 638) (by decide +kernel), List.mem_of_getElem? (i := 639) (by decide +kernel), List.mem_of_getElem? (i := 640) (by decide +kernel)⟩
theorem wl_X12_tells : CWc yX12_tells cX12_tells 3 (some .int) 2 := ⟨List.mem_of_getElem? (i := 645) (by decide +kernel), List.mem_of_getElem? (i := 5) (by decide +kernel), by decide +kernel, by decide⟩
theorem wvL_108 : CWv RL 108 yX12_tells cX12_tells 3 (some .int) 2 := ⟨wl_X12_tells, List.mem_of_getElem? (i := 642) (by decide +kernel), List.mem_of_getElem? (i := 643) (by decide +kernel), List.mem_of_getElem? (i := 644) (by decide +kernel)⟩
set_option maxRecDepth 100000 in
set_option maxHeartbeats 4000000 in
theorem l_tells {p : Program} {l : Launch} {e : Env} {s : State} {m : MethodId} {below : List Frame} {meth : Method} {c : Code} {b L : Nat} {xs : Nat → Int32} {D : va_G} {cX cM : Nat → ClassId} {ls : Array Slot} {i : Nat} {aM aX : Nat → Nat} {σ τ : St} (HC : LC p s m meth c b L xs D cX cM) (hl : lv_has ls 4 [(3, .int (nI i)), (2, .ref (aM 0)), (1, .ref (aX 0)), (0, .ref b)]) (hi : i + 4 ≤ L) (hR : Rl σ τ) (kk : ∀ σ' τ', Rl σ' τ' → LE p l e s m below meth c b D ls 949 [] (wd SM.1 aM cM τ' ++ wd SX.1 aX cX σ')) : LE p l e s m below meth c b D ls 734 [] (wd SM.1 aM cM τ ++ wd SX.1 aX cX σ) := by
  refine eg_aload HC.1 rfl (lv_at hl 2 rfl) dL_law_734 ?_
  refine l_arg HC hl (k := 1) (by omega) rfl dL_law_735 dL_law_736 dL_law_737 dL_law_738 dL_law_739 ?_
  refine l_arg HC hl (k := 2) (by omega) rfl dL_law_740 dL_law_741 dL_law_742 dL_law_743 dL_law_744 ?_
  refine eg_Vi (sd := SX) (wr := wd SM.1 aM cM τ) (c0 := 0) (As := [.int (xs (i + 1)), .int (xs (i + 2))]) HC.1 HC.1.2.2.2.2.2.2.2.2 hl.1 (c_X11_tells _ _ _ _ (sim_tells _ _ σ τ hR)) wvL_105 rfl (by decide) rfl ⟨by decide, by decide⟩ rfl (Nat.le_of_ble_eq_true rfl) rfl dL_law_745 ⟨by decide, by decide⟩ (fun r σ' hq => ?_)
  refine eg_swap ?_
  refine eg_aload HC.1 rfl (lv_at hl 1 rfl) dL_law_748 ?_
  refine l_arg HC hl (k := 1) (by omega) rfl dL_law_749 dL_law_750 dL_law_751 dL_law_752 dL_law_753 ?_
  refine l_arg HC hl (k := 2) (by omega) rfl dL_law_754 dL_law_755 dL_law_756 dL_law_757 dL_law_758 ?_
  refine eg_Vi (sd := SM) (wr := wd SX.1 aX cX σ') (c0 := 0) (As := [.int (xs (i + 1)), .int (xs (i + 2))]) HC.1 HC.2.1 hl.1 (c_X12_tells _ _ _ _ hq) wvL_108 rfl (by decide) rfl ⟨by decide, by decide⟩ rfl (Nat.le_of_ble_eq_true rfl) rfl dL_law_759 ⟨by decide, by decide⟩ (fun r' τ' hq2 => ?_)
  refine eg_swap ?_
  exact l_cmp HC hq2.1 dL_law_762 (by decide) (kk σ' τ' hq2.2)
theorem wl_X11_fit : CWc yX11_fit cX11_fit 3 (some .int) 1 := ⟨List.mem_of_getElem? (i := 649) (by decide +kernel), List.mem_of_getElem? (i := 2) (by decide +kernel), by decide +kernel, by decide⟩
theorem wvL_109 : CWv RL 109 yX11_fit cX11_fit 3 (some .int) 1 := ⟨wl_X11_fit, List.mem_of_getElem? (i := 646) (by decide +kernel), List.mem_of_getElem? (i := 647) (by decide +kernel), List.mem_of_getElem? (i := 648) (by decide +kernel)⟩
theorem wl_X12_fit : CWc yX12_fit cX12_fit 8 (some .int) 1 := ⟨List.mem_of_getElem? (i := 665) (by decide +kernel), List.mem_of_getElem? (i := 5) (by decide +kernel), by decide +kernel, by decide⟩
theorem wvL_112 : CWv RL 112 yX12_fit cX12_fit 8 (some .int) 1 := ⟨wl_X12_fit, List.mem_of_getElem? (i := 662) (by decide +kernel), List.mem_of_getElem? (i := 663) (by decide +kernel), List.mem_of_getElem? (i := 664) (by decide +kernel)⟩
set_option maxRecDepth 100000 in
set_option maxHeartbeats 4000000 in
theorem l_fit {p : Program} {l : Launch} {e : Env} {s : State} {m : MethodId} {below : List Frame} {meth : Method} {c : Code} {b L : Nat} {xs : Nat → Int32} {D : va_G} {cX cM : Nat → ClassId} {ls : Array Slot} {i : Nat} {aM aX : Nat → Nat} {σ τ : St} (HC : LC p s m meth c b L xs D cX cM) (hl : lv_has ls 4 [(3, .int (nI i)), (2, .ref (aM 0)), (1, .ref (aX 0)), (0, .ref b)]) (hi : i + 4 ≤ L) (hR : Rl σ τ) (kk : ∀ σ' τ', Rl σ' τ' → LE p l e s m below meth c b D ls 949 [] (wd SM.1 aM cM τ' ++ wd SX.1 aX cX σ')) : LE p l e s m below meth c b D ls 767 [] (wd SM.1 aM cM τ ++ wd SX.1 aX cX σ) := by
  refine eg_aload HC.1 rfl (lv_at hl 2 rfl) dL_law_767 ?_
  refine l_arg HC hl (k := 1) (by omega) rfl dL_law_768 dL_law_769 dL_law_770 dL_law_771 dL_law_772 ?_
  refine eg_Vi (sd := SX) (wr := wd SM.1 aM cM τ) (c0 := 0) (As := [.int (xs (i + 1))]) HC.1 HC.1.2.2.2.2.2.2.2.2 hl.1 (c_X11_fit _ _ _ (sim_fit _ σ τ hR)) wvL_109 rfl (by decide) rfl ⟨by decide, by decide⟩ rfl (Nat.le_of_ble_eq_true rfl) rfl dL_law_773 ⟨by decide, by decide⟩ (fun r σ' hq => ?_)
  refine eg_swap ?_
  refine eg_aload HC.1 rfl (lv_at hl 1 rfl) dL_law_776 ?_
  refine l_arg HC hl (k := 1) (by omega) rfl dL_law_777 dL_law_778 dL_law_779 dL_law_780 dL_law_781 ?_
  refine eg_Vi (sd := SM) (wr := wd SX.1 aX cX σ') (c0 := 0) (As := [.int (xs (i + 1))]) HC.1 HC.2.1 hl.1 (c_X12_fit _ _ _ hq) wvL_112 rfl (by decide) rfl ⟨by decide, by decide⟩ rfl (Nat.le_of_ble_eq_true rfl) rfl dL_law_782 ⟨by decide, by decide⟩ (fun r' τ' hq2 => ?_)
  refine eg_swap ?_
  exact l_cmp HC hq2.1 dL_law_785 (by decide) (kk σ' τ' hq2.2)
theorem wl_X11_below : CWc yX11_below cX11_below 7 (some .int) 3 := ⟨List.mem_of_getElem? (i := 680) (by decide +kernel), List.mem_of_getElem? (i := 2) (by decide +kernel), by decide +kernel, by decide⟩
theorem wvL_113 : CWv RL 113 yX11_below cX11_below 7 (some .int) 3 := ⟨wl_X11_below, List.mem_of_getElem? (i := 677) (by decide +kernel), List.mem_of_getElem? (i := 678) (by decide +kernel), List.mem_of_getElem? (i := 679) (by decide +kernel)⟩
theorem wl_X12_below : CWc yX12_below cX12_below 9 (some .int) 3 := ⟨List.mem_of_getElem? (i := 687) (by decide +kernel), List.mem_of_getElem? (i := 5) (by decide +kernel), by decide +kernel, by decide⟩
theorem wvL_116 : CWv RL 116 yX12_below cX12_below 9 (some .int) 3 := ⟨wl_X12_below, List.mem_of_getElem? (i := 684) (by decide +kernel), List.mem_of_getElem? (i := 685) (by decide +kernel), List.mem_of_getElem? (i := 686) (by decide +kernel)⟩
set_option maxRecDepth 100000 in
set_option maxHeartbeats 4000000 in
theorem l_below {p : Program} {l : Launch} {e : Env} {s : State} {m : MethodId} {below : List Frame} {meth : Method} {c : Code} {b L : Nat} {xs : Nat → Int32} {D : va_G} {cX cM : Nat → ClassId} {ls : Array Slot} {i : Nat} {aM aX : Nat → Nat} {σ τ : St} (HC : LC p s m meth c b L xs D cX cM) (hl : lv_has ls 4 [(3, .int (nI i)), (2, .ref (aM 0)), (1, .ref (aX 0)), (0, .ref b)]) (hi : i + 4 ≤ L) (hR : Rl σ τ) (kk : ∀ σ' τ', Rl σ' τ' → LE p l e s m below meth c b D ls 949 [] (wd SM.1 aM cM τ' ++ wd SX.1 aX cX σ')) : LE p l e s m below meth c b D ls 790 [] (wd SM.1 aM cM τ ++ wd SX.1 aX cX σ) := by
  refine eg_aload HC.1 rfl (lv_at hl 2 rfl) dL_law_790 ?_
  refine l_arg HC hl (k := 1) (by omega) rfl dL_law_791 dL_law_792 dL_law_793 dL_law_794 dL_law_795 ?_
  refine l_arg HC hl (k := 2) (by omega) rfl dL_law_796 dL_law_797 dL_law_798 dL_law_799 dL_law_800 ?_
  refine l_arg HC hl (k := 3) (by omega) rfl dL_law_801 dL_law_802 dL_law_803 dL_law_804 dL_law_805 ?_
  refine eg_Vi (sd := SX) (wr := wd SM.1 aM cM τ) (c0 := 0) (As := [.int (xs (i + 1)), .int (xs (i + 2)), .int (xs (i + 3))]) HC.1 HC.1.2.2.2.2.2.2.2.2 hl.1 (c_X11_below _ _ _ _ _ (sim_below _ _ _ σ τ hR)) wvL_113 rfl (by decide) rfl ⟨by decide, by decide⟩ rfl (Nat.le_of_ble_eq_true rfl) rfl dL_law_806 ⟨by decide, by decide⟩ (fun r σ' hq => ?_)
  refine eg_swap ?_
  refine eg_aload HC.1 rfl (lv_at hl 1 rfl) dL_law_809 ?_
  refine l_arg HC hl (k := 1) (by omega) rfl dL_law_810 dL_law_811 dL_law_812 dL_law_813 dL_law_814 ?_
  refine l_arg HC hl (k := 2) (by omega) rfl dL_law_815 dL_law_816 dL_law_817 dL_law_818 dL_law_819 ?_
  refine l_arg HC hl (k := 3) (by omega) rfl dL_law_820 dL_law_821 dL_law_822 dL_law_823 dL_law_824 ?_
  refine eg_Vi (sd := SM) (wr := wd SX.1 aX cX σ') (c0 := 0) (As := [.int (xs (i + 1)), .int (xs (i + 2)), .int (xs (i + 3))]) HC.1 HC.2.1 hl.1 (c_X12_below _ _ _ _ _ hq) wvL_116 rfl (by decide) rfl ⟨by decide, by decide⟩ rfl (Nat.le_of_ble_eq_true rfl) rfl dL_law_825 ⟨by decide, by decide⟩ (fun r' τ' hq2 => ?_)
  refine eg_swap ?_
  exact l_cmp HC hq2.1 dL_law_828 (by decide) (kk σ' τ' hq2.2)
theorem wl_X11_mark : CWc yX11_mark cX11_mark 3 (some .int) 2 := ⟨List.mem_of_getElem? (i := 691) (by decide +kernel), List.mem_of_getElem? (i := 2) (by decide +kernel), by decide +kernel, by decide⟩
theorem wvL_117 : CWv RL 117 yX11_mark cX11_mark 3 (some .int) 2 := ⟨wl_X11_mark, List.mem_of_getElem? (i := 688) (by decide +kernel), List.mem_of_getElem? (i := 689) (by decide +kernel), List.mem_of_getElem? (i := 690) (by decide +kernel)⟩
theorem wl_X12_mark : CWc yX12_mark cX12_mark 7 (some .int) 2 := ⟨List.mem_of_getElem? (i := 751) (by decide +kernel), List.mem_of_getElem? (i := 5) (by decide +kernel), by decide +kernel, by decide⟩
theorem wvL_120 : CWv RL 120 yX12_mark cX12_mark 7 (some .int) 2 := ⟨wl_X12_mark, List.mem_of_getElem? (i := 748) (by decide +kernel), List.mem_of_getElem? (i := 749) (by decide +kernel), List.mem_of_getElem? (i := 750) (by decide +kernel)⟩
set_option maxRecDepth 100000 in
set_option maxHeartbeats 4000000 in
theorem l_mark {p : Program} {l : Launch} {e : Env} {s : State} {m : MethodId} {below : List Frame} {meth : Method} {c : Code} {b L : Nat} {xs : Nat → Int32} {D : va_G} {cX cM : Nat → ClassId} {ls : Array Slot} {i : Nat} {aM aX : Nat → Nat} {σ τ : St} (HC : LC p s m meth c b L xs D cX cM) (hl : lv_has ls 4 [(3, .int (nI i)), (2, .ref (aM 0)), (1, .ref (aX 0)), (0, .ref b)]) (hi : i + 4 ≤ L) (hR : Rl σ τ) (kk : ∀ σ' τ', Rl σ' τ' → LE p l e s m below meth c b D ls 949 [] (wd SM.1 aM cM τ' ++ wd SX.1 aX cX σ')) : LE p l e s m below meth c b D ls 833 [] (wd SM.1 aM cM τ ++ wd SX.1 aX cX σ) := by
  refine eg_aload HC.1 rfl (lv_at hl 2 rfl) dL_law_833 ?_
  refine l_arg HC hl (k := 1) (by omega) rfl dL_law_834 dL_law_835 dL_law_836 dL_law_837 dL_law_838 ?_
  refine l_arg HC hl (k := 2) (by omega) rfl dL_law_839 dL_law_840 dL_law_841 dL_law_842 dL_law_843 ?_
  refine eg_Vi (sd := SX) (wr := wd SM.1 aM cM τ) (c0 := 0) (As := [.int (xs (i + 1)), .int (xs (i + 2))]) HC.1 HC.1.2.2.2.2.2.2.2.2 hl.1 (c_X11_mark _ _ _ _ (sim_mark _ _ σ τ hR)) wvL_117 rfl (by decide) rfl ⟨by decide, by decide⟩ rfl (Nat.le_of_ble_eq_true rfl) rfl dL_law_844 ⟨by decide, by decide⟩ (fun r σ' hq => ?_)
  refine eg_swap ?_
  refine eg_aload HC.1 rfl (lv_at hl 1 rfl) dL_law_847 ?_
  refine l_arg HC hl (k := 1) (by omega) rfl dL_law_848 dL_law_849 dL_law_850 dL_law_851 dL_law_852 ?_
  refine l_arg HC hl (k := 2) (by omega) rfl dL_law_853 dL_law_854 dL_law_855 dL_law_856 dL_law_857 ?_
  refine eg_Vi (sd := SM) (wr := wd SX.1 aX cX σ') (c0 := 0) (As := [.int (xs (i + 1)), .int (xs (i + 2))]) HC.1 HC.2.1 hl.1 (c_X12_mark _ _ _ _ hq) wvL_120 rfl (by decide) rfl ⟨by decide, by decide⟩ rfl (Nat.le_of_ble_eq_true rfl) rfl dL_law_858 ⟨by decide, by decide⟩ (fun r' τ' hq2 => ?_)
  refine eg_swap ?_
  exact l_cmp HC hq2.1 dL_law_861 (by decide) (kk σ' τ' hq2.2)
theorem wl_X11_keep : CWc yX11_keep cX11_keep 2 (some .int) 1 := ⟨List.mem_of_getElem? (i := 761) (by decide +kernel), List.mem_of_getElem? (i := 2) (by decide +kernel), by decide +kernel, by decide⟩
theorem wvL_121 : CWv RL 121 yX11_keep cX11_keep 2 (some .int) 1 := ⟨wl_X11_keep, List.mem_of_getElem? (i := 758) (by decide +kernel), List.mem_of_getElem? (i := 759) (by decide +kernel), List.mem_of_getElem? (i := 760) (by decide +kernel)⟩
theorem wl_X12_keep : CWc yX12_keep cX12_keep 3 (some .int) 1 := ⟨List.mem_of_getElem? (i := 769) (by decide +kernel), List.mem_of_getElem? (i := 5) (by decide +kernel), by decide +kernel, by decide⟩
theorem wvL_124 : CWv RL 124 yX12_keep cX12_keep 3 (some .int) 1 := ⟨wl_X12_keep, List.mem_of_getElem? (i := 766) (by decide +kernel), List.mem_of_getElem? (i := 767) (by decide +kernel), List.mem_of_getElem? (i := 768) (by decide +kernel)⟩
set_option maxRecDepth 100000 in
set_option maxHeartbeats 4000000 in
theorem l_keep {p : Program} {l : Launch} {e : Env} {s : State} {m : MethodId} {below : List Frame} {meth : Method} {c : Code} {b L : Nat} {xs : Nat → Int32} {D : va_G} {cX cM : Nat → ClassId} {ls : Array Slot} {i : Nat} {aM aX : Nat → Nat} {σ τ : St} (HC : LC p s m meth c b L xs D cX cM) (hl : lv_has ls 4 [(3, .int (nI i)), (2, .ref (aM 0)), (1, .ref (aX 0)), (0, .ref b)]) (hi : i + 4 ≤ L) (hR : Rl σ τ) (kk : ∀ σ' τ', Rl σ' τ' → LE p l e s m below meth c b D ls 949 [] (wd SM.1 aM cM τ' ++ wd SX.1 aX cX σ')) : LE p l e s m below meth c b D ls 866 [] (wd SM.1 aM cM τ ++ wd SX.1 aX cX σ) := by
  refine eg_aload HC.1 rfl (lv_at hl 2 rfl) dL_law_866 ?_
  refine l_arg HC hl (k := 1) (by omega) rfl dL_law_867 dL_law_868 dL_law_869 dL_law_870 dL_law_871 ?_
  refine eg_Vi (sd := SX) (wr := wd SM.1 aM cM τ) (c0 := 0) (As := [.int (xs (i + 1))]) HC.1 HC.1.2.2.2.2.2.2.2.2 hl.1 (c_X11_keep _ _ _ (sim_keep _ σ τ hR)) wvL_121 rfl (by decide) rfl ⟨by decide, by decide⟩ rfl (Nat.le_of_ble_eq_true rfl) rfl dL_law_872 ⟨by decide, by decide⟩ (fun r σ' hq => ?_)
  refine eg_swap ?_
  refine eg_aload HC.1 rfl (lv_at hl 1 rfl) dL_law_875 ?_
  refine l_arg HC hl (k := 1) (by omega) rfl dL_law_876 dL_law_877 dL_law_878 dL_law_879 dL_law_880 ?_
  refine eg_Vi (sd := SM) (wr := wd SX.1 aX cX σ') (c0 := 0) (As := [.int (xs (i + 1))]) HC.1 HC.2.1 hl.1 (c_X12_keep _ _ _ hq) wvL_124 rfl (by decide) rfl ⟨by decide, by decide⟩ rfl (Nat.le_of_ble_eq_true rfl) rfl dL_law_881 ⟨by decide, by decide⟩ (fun r' τ' hq2 => ?_)
  refine eg_swap ?_
  exact l_cmp HC hq2.1 dL_law_884 (by decide) (kk σ' τ' hq2.2)
theorem wl_X11_back : CWc yX11_back cX11_back 2 (some .int) 1 := ⟨List.mem_of_getElem? (i := 773) (by decide +kernel), List.mem_of_getElem? (i := 2) (by decide +kernel), by decide +kernel, by decide⟩
theorem wvL_125 : CWv RL 125 yX11_back cX11_back 2 (some .int) 1 := ⟨wl_X11_back, List.mem_of_getElem? (i := 770) (by decide +kernel), List.mem_of_getElem? (i := 771) (by decide +kernel), List.mem_of_getElem? (i := 772) (by decide +kernel)⟩
theorem wl_X12_back : CWc yX12_back cX12_back 3 (some .int) 1 := ⟨List.mem_of_getElem? (i := 777) (by decide +kernel), List.mem_of_getElem? (i := 5) (by decide +kernel), by decide +kernel, by decide⟩
theorem wvL_128 : CWv RL 128 yX12_back cX12_back 3 (some .int) 1 := ⟨wl_X12_back, List.mem_of_getElem? (i := 774) (by decide +kernel), List.mem_of_getElem? (i := 775) (by decide +kernel), List.mem_of_getElem? (i := 776) (by decide +kernel)⟩
set_option maxRecDepth 100000 in
set_option maxHeartbeats 4000000 in
theorem l_back {p : Program} {l : Launch} {e : Env} {s : State} {m : MethodId} {below : List Frame} {meth : Method} {c : Code} {b L : Nat} {xs : Nat → Int32} {D : va_G} {cX cM : Nat → ClassId} {ls : Array Slot} {i : Nat} {aM aX : Nat → Nat} {σ τ : St} (HC : LC p s m meth c b L xs D cX cM) (hl : lv_has ls 4 [(3, .int (nI i)), (2, .ref (aM 0)), (1, .ref (aX 0)), (0, .ref b)]) (hi : i + 4 ≤ L) (hR : Rl σ τ) (kk : ∀ σ' τ', Rl σ' τ' → LE p l e s m below meth c b D ls 949 [] (wd SM.1 aM cM τ' ++ wd SX.1 aX cX σ')) : LE p l e s m below meth c b D ls 889 [] (wd SM.1 aM cM τ ++ wd SX.1 aX cX σ) := by
  refine eg_aload HC.1 rfl (lv_at hl 2 rfl) dL_law_889 ?_
  refine l_arg HC hl (k := 1) (by omega) rfl dL_law_890 dL_law_891 dL_law_892 dL_law_893 dL_law_894 ?_
  refine eg_Vi (sd := SX) (wr := wd SM.1 aM cM τ) (c0 := 0) (As := [.int (xs (i + 1))]) HC.1 HC.1.2.2.2.2.2.2.2.2 hl.1 (c_X11_back _ _ _ (sim_back _ σ τ hR)) wvL_125 rfl (by decide) rfl ⟨by decide, by decide⟩ rfl (Nat.le_of_ble_eq_true rfl) rfl dL_law_895 ⟨by decide, by decide⟩ (fun r σ' hq => ?_)
  refine eg_swap ?_
  refine eg_aload HC.1 rfl (lv_at hl 1 rfl) dL_law_898 ?_
  refine l_arg HC hl (k := 1) (by omega) rfl dL_law_899 dL_law_900 dL_law_901 dL_law_902 dL_law_903 ?_
  refine eg_Vi (sd := SM) (wr := wd SX.1 aX cX σ') (c0 := 0) (As := [.int (xs (i + 1))]) HC.1 HC.2.1 hl.1 (c_X12_back _ _ _ hq) wvL_128 rfl (by decide) rfl ⟨by decide, by decide⟩ rfl (Nat.le_of_ble_eq_true rfl) rfl dL_law_904 ⟨by decide, by decide⟩ (fun r' τ' hq2 => ?_)
  refine eg_swap ?_
  exact l_cmp HC hq2.1 dL_law_907 (by decide) (kk σ' τ' hq2.2)
theorem wl_X11_count : CWc yX11_count cX11_count 2 (some .int) 1 := ⟨List.mem_of_getElem? (i := 781) (by decide +kernel), List.mem_of_getElem? (i := 2) (by decide +kernel), by decide +kernel, by decide⟩
theorem wvL_129 : CWv RL 129 yX11_count cX11_count 2 (some .int) 1 := ⟨wl_X11_count, List.mem_of_getElem? (i := 778) (by decide +kernel), List.mem_of_getElem? (i := 779) (by decide +kernel), List.mem_of_getElem? (i := 780) (by decide +kernel)⟩
theorem wl_X12_count : CWc yX12_count cX12_count 2 (some .int) 1 := ⟨List.mem_of_getElem? (i := 787) (by decide +kernel), List.mem_of_getElem? (i := 5) (by decide +kernel), by decide +kernel, by decide⟩
theorem wvL_132 : CWv RL 132 yX12_count cX12_count 2 (some .int) 1 := ⟨wl_X12_count, List.mem_of_getElem? (i := 784) (by decide +kernel), List.mem_of_getElem? (i := 785) (by decide +kernel), List.mem_of_getElem? (i := 786) (by decide +kernel)⟩
set_option maxRecDepth 100000 in
set_option maxHeartbeats 4000000 in
theorem l_count {p : Program} {l : Launch} {e : Env} {s : State} {m : MethodId} {below : List Frame} {meth : Method} {c : Code} {b L : Nat} {xs : Nat → Int32} {D : va_G} {cX cM : Nat → ClassId} {ls : Array Slot} {i : Nat} {aM aX : Nat → Nat} {σ τ : St} (HC : LC p s m meth c b L xs D cX cM) (hl : lv_has ls 4 [(3, .int (nI i)), (2, .ref (aM 0)), (1, .ref (aX 0)), (0, .ref b)]) (hi : i + 4 ≤ L) (hR : Rl σ τ) (kk : ∀ σ' τ', Rl σ' τ' → LE p l e s m below meth c b D ls 949 [] (wd SM.1 aM cM τ' ++ wd SX.1 aX cX σ')) : LE p l e s m below meth c b D ls 912 [] (wd SM.1 aM cM τ ++ wd SX.1 aX cX σ) := by
  refine eg_aload HC.1 rfl (lv_at hl 2 rfl) dL_law_912 ?_
  refine l_arg HC hl (k := 1) (by omega) rfl dL_law_913 dL_law_914 dL_law_915 dL_law_916 dL_law_917 ?_
  refine eg_Vi (sd := SX) (wr := wd SM.1 aM cM τ) (c0 := 0) (As := [.int (xs (i + 1))]) HC.1 HC.1.2.2.2.2.2.2.2.2 hl.1 (c_X11_count _ _ _ (sim_count _ σ τ hR)) wvL_129 rfl (by decide) rfl ⟨by decide, by decide⟩ rfl (Nat.le_of_ble_eq_true rfl) rfl dL_law_918 ⟨by decide, by decide⟩ (fun r σ' hq => ?_)
  refine eg_swap ?_
  refine eg_aload HC.1 rfl (lv_at hl 1 rfl) dL_law_921 ?_
  refine l_arg HC hl (k := 1) (by omega) rfl dL_law_922 dL_law_923 dL_law_924 dL_law_925 dL_law_926 ?_
  refine eg_Vi (sd := SM) (wr := wd SX.1 aX cX σ') (c0 := 0) (As := [.int (xs (i + 1))]) HC.1 HC.2.1 hl.1 (c_X12_count _ _ _ hq) wvL_132 rfl (by decide) rfl ⟨by decide, by decide⟩ rfl (Nat.le_of_ble_eq_true rfl) rfl dL_law_927 ⟨by decide, by decide⟩ (fun r' τ' hq2 => ?_)
  refine eg_swap ?_
  exact l_cmp HC hq2.1 dL_law_930 (by decide) (kk σ' τ' hq2.2)
theorem wl_X11_trace : CWc yX11_trace cX11_trace 4 (some .long) 0 := ⟨List.mem_of_getElem? (i := 791) (by decide +kernel), List.mem_of_getElem? (i := 2) (by decide +kernel), by decide +kernel, by decide⟩
theorem wvL_133 : CWv RL 133 yX11_trace cX11_trace 4 (some .long) 0 := ⟨wl_X11_trace, List.mem_of_getElem? (i := 788) (by decide +kernel), List.mem_of_getElem? (i := 789) (by decide +kernel), List.mem_of_getElem? (i := 790) (by decide +kernel)⟩
theorem wl_X12_trace : CWc yX12_trace cX12_trace 1 (some .long) 0 := ⟨List.mem_of_getElem? (i := 796) (by decide +kernel), List.mem_of_getElem? (i := 5) (by decide +kernel), by decide +kernel, by decide⟩
theorem wvL_137 : CWv RL 137 yX12_trace cX12_trace 1 (some .long) 0 := ⟨wl_X12_trace, List.mem_of_getElem? (i := 793) (by decide +kernel), List.mem_of_getElem? (i := 794) (by decide +kernel), List.mem_of_getElem? (i := 795) (by decide +kernel)⟩
set_option maxRecDepth 100000 in
set_option maxHeartbeats 4000000 in
theorem l_trace {p : Program} {l : Launch} {e : Env} {s : State} {m : MethodId} {below : List Frame} {meth : Method} {c : Code} {b L : Nat} {xs : Nat → Int32} {D : va_G} {cX cM : Nat → ClassId} {ls : Array Slot} {i : Nat} {aM aX : Nat → Nat} {σ τ : St} (HC : LC p s m meth c b L xs D cX cM) (hl : lv_has ls 4 [(3, .int (nI i)), (2, .ref (aM 0)), (1, .ref (aX 0)), (0, .ref b)]) (hi : i + 4 ≤ L) (hR : Rl σ τ) (kk : ∀ σ' τ', Rl σ' τ' → LE p l e s m below meth c b D ls 949 [] (wd SM.1 aM cM τ' ++ wd SX.1 aX cX σ')) : LE p l e s m below meth c b D ls 935 [] (wd SM.1 aM cM τ ++ wd SX.1 aX cX σ) := by
  refine eg_aload HC.1 rfl (lv_at hl 2 rfl) dL_law_935 ?_
  refine eg_Vl (sd := SX) (wr := wd SM.1 aM cM τ) (c0 := 0) (As := []) HC.1 HC.1.2.2.2.2.2.2.2.2 hl.1 (c_X11_trace  _ _ (sim_trace  σ τ hR)) wvL_133 rfl (by decide) rfl ⟨by decide, by decide⟩ rfl (Nat.le_of_ble_eq_true rfl) rfl dL_law_936 ⟨by decide, by decide⟩ (fun r σ' hq => ?_)
  refine eg_swap ?_
  refine eg_aload HC.1 rfl (lv_at hl 1 rfl) dL_law_939 ?_
  refine eg_Vl (sd := SM) (wr := wd SX.1 aX cX σ') (c0 := 0) (As := []) HC.1 HC.2.1 hl.1 (c_X12_trace  _ _ hq) wvL_137 rfl (by decide) rfl ⟨by decide, by decide⟩ rfl (Nat.le_of_ble_eq_true rfl) rfl dL_law_940 ⟨by decide, by decide⟩ (fun r' τ' hq2 => ?_)
  refine eg_swap ?_
  exact l_cmpl HC hq2.1 dL_law_943 dL_law_944 (by decide) (kk σ' τ' hq2.2)
