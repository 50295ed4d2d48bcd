def f_X12_plan_L33 (a1 : Int32) (a2 : Int32) (a3 : Int32) (k62 : St → Prop) (post : Int32 → St → Prop) : Nat → Int32 → St → Prop
  | 0, _, _ => False
  | n + 1, v4, σ => (6 ≤ v4 → (k62 σ)) ∧ (¬ 6 ≤ v4 → (vp_in (0 + v4) 465 ∧ (vp_in v4 36 ∧ ((f_X12_plan_L33 a1 a2 a3 k62 post n) (v4 + 1) (st_up σ 11 v4.toNatClampNeg (σ.1 8 ((0 + v4).toNatClampNeg)))))))
set_option maxRecDepth 100000 in
set_option maxHeartbeats 4000000 in
theorem p_X12_plan_L33 (a1 : Int32) (a2 : Int32) (a3 : Int32) (k62 : St → Prop) (post : Int32 → St → Prop) (hk62 : ∀ (τ : St), k62 τ → Ev SM RX12 cX12_plan 14 (some .int) 3 (EQi SM post) 62 [some (.ref 0), some (.int a1), some (.int a2), some (.int a3), none, none, none, none, none, none, none, none, none, none] [] τ) : ∀ (n : Nat) (v4 : Int32) (σ : St), f_X12_plan_L33 a1 a2 a3 k62 post n v4 σ → Ev SM RX12 cX12_plan 14 (some .int) 3 (EQi SM post) 33 [some (.ref 0), some (.int a1), some (.int a2), some (.int a3), some (.int v4), none, none, none, none, none, none, none, none, none] [] σ := by
  intro n
  induction n with
  | zero =>
    intro v4 σ hf
    exact hf.elim
  | succ n hagain33 =>
    intro v4 σ hf
    rw [f_X12_plan_L33] at hf
    refine ev_iload (pc := 33) dX12_plan_33 rfl ?_
    refine ev_bipush (pc := 35) (v := 6) dX12_plan_35 kb_6 ?_
    refine ev_icmp_ge (pc := 37) (tgt := 62) dX12_plan_37 (by decide) (fun c10 => ?_) (fun c10 => ?_)
    · have hf := hf.1 c10
      refine ev_mask [true, true, true, true, false, false, false, false, false, false, false, false, false, false] (L' := [some (.ref 0), some (.int a1), some (.int a2), some (.int a3), none, none, none, none, none, none, none, none, none, none]) rfl ?_
      exact hk62 _ hf
    · have hf := hf.2 c10
      refine ev_aload_n (pc := 40) dX12_plan_40 rfl (i := 0) rfl ?_
      refine ev_get (pc := 41) fl_X12_42_12_19 rfl (by decide) rfl rfl dX12_plan_41 ?_
      refine ev_iload (pc := 44) dX12_plan_44 rfl ?_
      refine ev_aload_n (pc := 46) dX12_plan_46 rfl (i := 0) rfl ?_
      refine ev_get (pc := 47) fl_X12_32_12_16 rfl (by decide) rfl rfl dX12_plan_47 ?_
      refine ev_iconst (pc := 50) (v := 0) dX12_plan_50 kc_0 ?_
      refine ev_iload (pc := 51) dX12_plan_51 rfl ?_
      refine ev_iadd (pc := 53) dX12_plan_53 ?_
      obtain ⟨h11, hf⟩ := hf
      refine ev_iald (pc := 54) rfl rfl h11 rfl dX12_plan_54 ?_
      obtain ⟨h12, hf⟩ := hf
      refine ev_iast (pc := 55) rfl rfl h12 rfl dX12_plan_55 ?_
      refine ev_iinc (pc := 56) (v := v4 + 1) (L' := [some (.ref 0), some (.int a1), some (.int a2), some (.int a3), some (.int (v4 + 1)), none, none, none, none, none, none, none, none, none]) dX12_plan_56 rfl (by rw [kc_1]) (by decide) rfl rfl ?_
      refine ev_goto (pc := 59) (tgt := 33) dX12_plan_59 (by decide) ?_
      exact hagain33 _ _ hf
def f_X12_plan_J283_200 (a1 : Int32) (a2 : Int32) (a3 : Int32) (again200 : Int32 → Int32 → Int32 → Int32 → Int32 → Int32 → Int32 → Int32 → Int32 → St → Prop) (k323 : Int32 → Int32 → Int32 → Int32 → Int32 → Int32 → St → Prop) (post : Int32 → St → Prop) (v4 : Int32) (v6 : Int32) (v7 : Int32) (v8 : Int32) (v9 : Int32) (v10 : Int32) (v11 : Int32) (v12 : Int32) (v13 : Int32) (σ : St) : Prop := ∀ σ39 : St, σ39 = (st_up σ 12 0 v6) → (∀ σ40 : St, σ40 = (st_up σ39 12 1 v9) → (again200 v4 ((v7 + v10) + v13) v6 v7 v8 v9 v10 v11 (v12 + 1) (st_up σ40 12 2 v12)))
set_option maxRecDepth 100000 in
set_option maxHeartbeats 4000000 in
theorem p_X12_plan_J283_200 (a1 : Int32) (a2 : Int32) (a3 : Int32) (again200 : Int32 → Int32 → Int32 → Int32 → Int32 → Int32 → Int32 → Int32 → Int32 → St → Prop) (k323 : Int32 → Int32 → Int32 → Int32 → Int32 → Int32 → St → Prop) (post : Int32 → St → Prop) (hagain200 : ∀ (v4 : Int32) (v5 : Int32) (v6 : Int32) (v7 : Int32) (v8 : Int32) (v9 : Int32) (v10 : Int32) (v11 : Int32) (v12 : Int32) (τ : St), again200 v4 v5 v6 v7 v8 v9 v10 v11 v12 τ → Ev SM RX12 cX12_plan 14 (some .int) 3 (EQi SM post) 200 [some (.ref 0), some (.int a1), some (.int a2), some (.int a3), some (.int v4), some (.int v5), some (.int v6), some (.int v7), some (.int v8), some (.int v9), some (.int v10), some (.int v11), some (.int v12), none] [] τ) (hk323 : ∀ (v4 : Int32) (v5 : Int32) (v6 : Int32) (v7 : Int32) (v8 : Int32) (v9 : Int32) (τ : St), k323 v4 v5 v6 v7 v8 v9 τ → Ev SM RX12 cX12_plan 14 (some .int) 3 (EQi SM post) 323 [some (.ref 0), some (.int a1), some (.int a2), some (.int a3), some (.int v4), some (.int v5), some (.int v6), some (.int v7), some (.int v8), some (.int v9), none, none, none, none] [] τ) (v4 : Int32) (v6 : Int32) (v7 : Int32) (v8 : Int32) (v9 : Int32) (v10 : Int32) (v11 : Int32) (v12 : Int32) (v13 : Int32) (σ : St) (hf : f_X12_plan_J283_200 a1 a2 a3 again200 k323 post v4 v6 v7 v8 v9 v10 v11 v12 v13 σ) : Ev SM RX12 cX12_plan 14 (some .int) 3 (EQi SM post) 283 [some (.ref 0), some (.int a1), some (.int a2), some (.int a3), some (.int v4), none, some (.int v6), some (.int v7), some (.int v8), some (.int v9), some (.int v10), some (.int v11), some (.int v12), some (.int v13)] [] σ := by
  rw [f_X12_plan_J283_200] at hf
  refine ev_iload (pc := 283) dX12_plan_283 rfl ?_
  refine ev_iload (pc := 285) dX12_plan_285 rfl ?_
  refine ev_iadd (pc := 287) dX12_plan_287 ?_
  refine ev_iload (pc := 288) dX12_plan_288 rfl ?_
  refine ev_iadd (pc := 290) dX12_plan_290 ?_
  refine ev_istore (pc := 291) (L' := [some (.ref 0), some (.int a1), some (.int a2), some (.int a3), some (.int v4), some (.int ((v7 + v10) + v13)), some (.int v6), some (.int v7), some (.int v8), some (.int v9), some (.int v10), some (.int v11), some (.int v12), some (.int v13)]) dX12_plan_291 (by decide) rfl rfl ?_
  refine ev_aload_n (pc := 293) dX12_plan_293 rfl (i := 0) rfl ?_
  refine ev_get (pc := 294) fl_X12_45_12_20 rfl (by decide) rfl rfl dX12_plan_294 ?_
  refine ev_iconst (pc := 297) (v := 0) dX12_plan_297 kc_0 ?_
  refine ev_iload (pc := 298) dX12_plan_298 rfl ?_
  refine ev_iast (pc := 300) rfl rfl ki_0_3 kn_0 dX12_plan_300 ?_
  refine ev_aload_n (pc := 301) dX12_plan_301 rfl (i := 0) rfl ?_
  refine ev_get (pc := 302) fl_X12_45_12_20 rfl (by decide) rfl rfl dX12_plan_302 ?_
  refine ev_iconst (pc := 305) (v := 1) dX12_plan_305 kc_1 ?_
  refine ev_iload (pc := 306) dX12_plan_306 rfl ?_
  refine ev_nm (fun σ39 q39 => ?_)
  have hf := hf σ39 q39
  refine ev_iast (pc := 308) rfl rfl ki_1_3 kn_1 dX12_plan_308 ?_
  refine ev_aload_n (pc := 309) dX12_plan_309 rfl (i := 0) rfl ?_
  refine ev_get (pc := 310) fl_X12_45_12_20 rfl (by decide) rfl rfl dX12_plan_310 ?_
  refine ev_iconst (pc := 313) (v := 2) dX12_plan_313 kc_2 ?_
  refine ev_iload (pc := 314) dX12_plan_314 rfl ?_
  refine ev_nm (fun σ40 q40 => ?_)
  have hf := hf σ40 q40
  refine ev_iast (pc := 316) rfl rfl ki_2_3 kn_2 dX12_plan_316 ?_
  refine ev_iinc (pc := 317) (v := v12 + 1) (L' := [some (.ref 0), some (.int a1), some (.int a2), some (.int a3), some (.int v4), some (.int ((v7 + v10) + v13)), some (.int v6), some (.int v7), some (.int v8), some (.int v9), some (.int v10), some (.int v11), some (.int (v12 + 1)), some (.int v13)]) dX12_plan_317 rfl (by rw [kc_1]) (by decide) rfl rfl ?_
  refine ev_goto (pc := 320) (tgt := 200) dX12_plan_320 (by decide) ?_
  refine ev_mask [true, true, true, true, true, true, true, true, true, true, true, true, true, false] (L' := [some (.ref 0), some (.int a1), some (.int a2), some (.int a3), some (.int v4), some (.int ((v7 + v10) + v13)), some (.int v6), some (.int v7), some (.int v8), some (.int v9), some (.int v10), some (.int v11), some (.int (v12 + 1)), none]) rfl ?_
  exact hagain200 _ _ _ _ _ _ _ _ _ _ hf
def f_X12_plan_J254_200 (a1 : Int32) (a2 : Int32) (a3 : Int32) (again200 : Int32 → Int32 → Int32 → Int32 → Int32 → Int32 → Int32 → Int32 → Int32 → St → Prop) (k323 : Int32 → Int32 → Int32 → Int32 → Int32 → Int32 → St → Prop) (post : Int32 → St → Prop) (v4 : Int32) (v5 : Int32) (v6 : Int32) (v7 : Int32) (v8 : Int32) (v9 : Int32) (v10 : Int32) (v11 : Int32) (v12 : Int32) (s0 : Int32) (σ : St) : Prop := (((v7 + v10) + s0) ≤ v5 → (again200 v4 v5 v6 v7 v8 v9 v10 v11 (v12 + 1) σ)) ∧ (¬ ((v7 + v10) + s0) ≤ v5 → ((a1 < 3 → (f_X12_plan_J283_200 a1 a2 a3 again200 k323 post v4 v6 v7 v8 v9 v10 v11 v12 s0 σ)) ∧ (¬ a1 < 3 → (f_X12_isFull 3 a2 σ (fun x42 σ41 => (x42 = 0 → (again200 v4 v5 v6 v7 v8 v9 v10 v11 (v12 + 1) σ41)) ∧ (¬ x42 = 0 → (f_X12_plan_J283_200 a1 a2 a3 again200 k323 post v4 v6 v7 v8 v9 v10 v11 v12 s0 σ41)))))))
set_option maxRecDepth 100000 in
set_option maxHeartbeats 4000000 in
theorem p_X12_plan_J254_200 (a1 : Int32) (a2 : Int32) (a3 : Int32) (again200 : Int32 → Int32 → Int32 → Int32 → Int32 → Int32 → Int32 → Int32 → Int32 → St → Prop) (k323 : Int32 → Int32 → Int32 → Int32 → Int32 → Int32 → St → Prop) (post : Int32 → St → Prop) (hagain200 : ∀ (v4 : Int32) (v5 : Int32) (v6 : Int32) (v7 : Int32) (v8 : Int32) (v9 : Int32) (v10 : Int32) (v11 : Int32) (v12 : Int32) (τ : St), again200 v4 v5 v6 v7 v8 v9 v10 v11 v12 τ → Ev SM RX12 cX12_plan 14 (some .int) 3 (EQi SM post) 200 [some (.ref 0), some (.int a1), some (.int a2), some (.int a3), some (.int v4), some (.int v5), some (.int v6), some (.int v7), some (.int v8), some (.int v9), some (.int v10), some (.int v11), some (.int v12), none] [] τ) (hk323 : ∀ (v4 : Int32) (v5 : Int32) (v6 : Int32) (v7 : Int32) (v8 : Int32) (v9 : Int32) (τ : St), k323 v4 v5 v6 v7 v8 v9 τ → Ev SM RX12 cX12_plan 14 (some .int) 3 (EQi SM post) 323 [some (.ref 0), some (.int a1), some (.int a2), some (.int a3), some (.int v4), some (.int v5), some (.int v6), some (.int v7), some (.int v8), some (.int v9), none, none, none, none] [] τ) (v4 : Int32) (v5 : Int32) (v6 : Int32) (v7 : Int32) (v8 : Int32) (v9 : Int32) (v10 : Int32) (v11 : Int32) (v12 : Int32) (s0 : Int32) (σ : St) (hf : f_X12_plan_J254_200 a1 a2 a3 again200 k323 post v4 v5 v6 v7 v8 v9 v10 v11 v12 s0 σ) : Ev SM RX12 cX12_plan 14 (some .int) 3 (EQi SM post) 254 [some (.ref 0), some (.int a1), some (.int a2), some (.int a3), some (.int v4), some (.int v5), some (.int v6), some (.int v7), some (.int v8), some (.int v9), some (.int v10), some (.int v11), some (.int v12), none] [.int s0] σ := by
  rw [f_X12_plan_J254_200] at hf
  refine ev_istore (pc := 254) (L' := [some (.ref 0), some (.int a1), some (.int a2), some (.int a3), some (.int v4), some (.int v5), some (.int v6), some (.int v7), some (.int v8), some (.int v9), some (.int v10), some (.int v11), some (.int v12), some (.int s0)]) dX12_plan_254 (by decide) rfl rfl ?_
  refine ev_iload (pc := 256) dX12_plan_256 rfl ?_
  refine ev_iload (pc := 258) dX12_plan_258 rfl ?_
  refine ev_iadd (pc := 260) dX12_plan_260 ?_
  refine ev_iload (pc := 261) dX12_plan_261 rfl ?_
  refine ev_iadd (pc := 263) dX12_plan_263 ?_
  refine ev_iload (pc := 264) dX12_plan_264 rfl ?_
  refine ev_icmp_le (pc := 266) (tgt := 317) dX12_plan_266 (by decide) (fun c37 => ?_) (fun c37 => ?_)
  · have hf := hf.1 c37
    refine ev_iinc (pc := 317) (v := v12 + 1) (L' := [some (.ref 0), some (.int a1), some (.int a2), some (.int a3), some (.int v4), some (.int v5), some (.int v6), some (.int v7), some (.int v8), some (.int v9), some (.int v10), some (.int v11), some (.int (v12 + 1)), some (.int s0)]) dX12_plan_317 rfl (by rw [kc_1]) (by decide) rfl rfl ?_
    refine ev_goto (pc := 320) (tgt := 200) dX12_plan_320 (by decide) ?_
    refine ev_mask [true, true, true, true, true, true, true, true, true, true, true, true, true, false] (L' := [some (.ref 0), some (.int a1), some (.int a2), some (.int a3), some (.int v4), some (.int v5), some (.int v6), some (.int v7), some (.int v8), some (.int v9), some (.int v10), some (.int v11), some (.int (v12 + 1)), none]) rfl ?_
    exact hagain200 _ _ _ _ _ _ _ _ _ _ hf
  · have hf := hf.2 c37
    refine ev_iload_n (pc := 269) dX12_plan_269 rfl (i := 1) rfl ?_
    refine ev_iconst (pc := 270) (v := 3) dX12_plan_270 kc_3 ?_
    refine ev_icmp_lt (pc := 271) (tgt := 283) dX12_plan_271 (by decide) (fun c38 => ?_) (fun c38 => ?_)
    · have hf := hf.1 c38
      refine ev_mask [true, true, true, true, true, false, true, true, true, true, true, true, true, true] (L' := [some (.ref 0), some (.int a1), some (.int a2), some (.int a3), some (.int v4), none, some (.int v6), some (.int v7), some (.int v8), some (.int v9), some (.int v10), some (.int v11), some (.int v12), some (.int s0)]) rfl ?_
      exact p_X12_plan_J283_200 a1 a2 a3 again200 k323 post hagain200 hk323 _ _ _ _ _ _ _ _ _ _ hf
    · have hf := hf.2 c38
      refine ev_aload_n (pc := 274) dX12_plan_274 rfl (i := 0) rfl ?_
      refine ev_iconst (pc := 275) (v := 3) dX12_plan_275 kc_3 ?_
      refine ev_iload_n (pc := 276) dX12_plan_276 rfl (i := 2) rfl ?_
      refine ev_calli (pc := 277) (stk := []) (ce_V (c_X12_isFull 3 a2 σ _ hf) wv_X12_166_X12_isFull rfl (by decide) rfl (by decide) rfl (Nat.le_of_ble_eq_true rfl) rfl dX12_plan_277) (fun x42 σ41 hf => ?_)
      refine ev_if_eq (pc := 280) (tgt := 317) dX12_plan_280 (by decide) (fun c43 => ?_) (fun c43 => ?_)
      · have hf := hf.1 c43
        refine ev_iinc (pc := 317) (v := v12 + 1) (L' := [some (.ref 0), some (.int a1), some (.int a2), some (.int a3), some (.int v4), some (.int v5), some (.int v6), some (.int v7), some (.int v8), some (.int v9), some (.int v10), some (.int v11), some (.int (v12 + 1)), some (.int s0)]) dX12_plan_317 rfl (by rw [kc_1]) (by decide) rfl rfl ?_
        refine ev_goto (pc := 320) (tgt := 200) dX12_plan_320 (by decide) ?_
        refine ev_mask [true, true, true, true, true, true, true, true, true, true, true, true, true, false] (L' := [some (.ref 0), some (.int a1), some (.int a2), some (.int a3), some (.int v4), some (.int v5), some (.int v6), some (.int v7), some (.int v8), some (.int v9), some (.int v10), some (.int v11), some (.int (v12 + 1)), none]) rfl ?_
        exact hagain200 _ _ _ _ _ _ _ _ _ _ hf
      · have hf := hf.2 c43
        refine ev_mask [true, true, true, true, true, false, true, true, true, true, true, true, true, true] (L' := [some (.ref 0), some (.int a1), some (.int a2), some (.int a3), some (.int v4), none, some (.int v6), some (.int v7), some (.int v8), some (.int v9), some (.int v10), some (.int v11), some (.int v12), some (.int s0)]) rfl ?_
        exact p_X12_plan_J283_200 a1 a2 a3 again200 k323 post hagain200 hk323 _ _ _ _ _ _ _ _ _ _ hf
def f_X12_plan_J231_200 (a1 : Int32) (a2 : Int32) (a3 : Int32) (again200 : Int32 → Int32 → Int32 → Int32 → Int32 → Int32 → Int32 → Int32 → Int32 → St → Prop) (k323 : Int32 → Int32 → Int32 → Int32 → Int32 → Int32 → St → Prop) (post : Int32 → St → Prop) (v4 : Int32) (v5 : Int32) (v6 : Int32) (v7 : Int32) (v8 : Int32) (v9 : Int32) (v10 : Int32) (v11 : Int32) (v12 : Int32) (σ : St) : Prop := (a1 ≤ 2 → (f_X12_plan_J254_200 a1 a2 a3 again200 k323 post v4 v5 v6 v7 v8 v9 v10 v11 v12 0 σ)) ∧ (¬ a1 ≤ 2 → (f_X12_pass 11 36 12 18 v12 σ (fun x45 σ44 => f_X12_plan_J254_200 a1 a2 a3 again200 k323 post v4 v5 v6 v7 v8 v9 v10 v11 v12 x45 σ44)))
set_option maxRecDepth 100000 in
set_option maxHeartbeats 4000000 in
theorem p_X12_plan_J231_200 (a1 : Int32) (a2 : Int32) (a3 : Int32) (again200 : Int32 → Int32 → Int32 → Int32 → Int32 → Int32 → Int32 → Int32 → Int32 → St → Prop) (k323 : Int32 → Int32 → Int32 → Int32 → Int32 → Int32 → St → Prop) (post : Int32 → St → Prop) (hagain200 : ∀ (v4 : Int32) (v5 : Int32) (v6 : Int32) (v7 : Int32) (v8 : Int32) (v9 : Int32) (v10 : Int32) (v11 : Int32) (v12 : Int32) (τ : St), again200 v4 v5 v6 v7 v8 v9 v10 v11 v12 τ → Ev SM RX12 cX12_plan 14 (some .int) 3 (EQi SM post) 200 [some (.ref 0), some (.int a1), some (.int a2), some (.int a3), some (.int v4), some (.int v5), some (.int v6), some (.int v7), some (.int v8), some (.int v9), some (.int v10), some (.int v11), some (.int v12), none] [] τ) (hk323 : ∀ (v4 : Int32) (v5 : Int32) (v6 : Int32) (v7 : Int32) (v8 : Int32) (v9 : Int32) (τ : St), k323 v4 v5 v6 v7 v8 v9 τ → Ev SM RX12 cX12_plan 14 (some .int) 3 (EQi SM post) 323 [some (.ref 0), some (.int a1), some (.int a2), some (.int a3), some (.int v4), some (.int v5), some (.int v6), some (.int v7), some (.int v8), some (.int v9), none, none, none, none] [] τ) (v4 : Int32) (v5 : Int32) (v6 : Int32) (v7 : Int32) (v8 : Int32) (v9 : Int32) (v10 : Int32) (v11 : Int32) (v12 : Int32) (σ : St) (hf : f_X12_plan_J231_200 a1 a2 a3 again200 k323 post v4 v5 v6 v7 v8 v9 v10 v11 v12 σ) : Ev SM RX12 cX12_plan 14 (some .int) 3 (EQi SM post) 231 [some (.ref 0), some (.int a1), some (.int a2), some (.int a3), some (.int v4), some (.int v5), some (.int v6), some (.int v7), some (.int v8), some (.int v9), some (.int v10), some (.int v11), some (.int v12), none] [] σ := by
  rw [f_X12_plan_J231_200] at hf
  refine ev_iload_n (pc := 231) dX12_plan_231 rfl (i := 1) rfl ?_
  refine ev_iconst (pc := 232) (v := 2) dX12_plan_232 kc_2 ?_
  refine ev_icmp_le (pc := 233) (tgt := 253) dX12_plan_233 (by decide) (fun c36 => ?_) (fun c36 => ?_)
  · have hf := hf.1 c36
    refine ev_iconst (pc := 253) (v := 0) dX12_plan_253 kc_0 ?_
    exact p_X12_plan_J254_200 a1 a2 a3 again200 k323 post hagain200 hk323 _ _ _ _ _ _ _ _ _ _ _ hf
  · have hf := hf.2 c36
    refine ev_aload_n (pc := 236) dX12_plan_236 rfl (i := 0) rfl ?_
    refine ev_aload_n (pc := 237) dX12_plan_237 rfl (i := 0) rfl ?_
    refine ev_get (pc := 238) fl_X12_42_12_19 rfl (by decide) rfl rfl dX12_plan_238 ?_
    refine ev_bipush (pc := 241) (v := 12) dX12_plan_241 kb_12 ?_
    refine ev_bipush (pc := 243) (v := 18) dX12_plan_243 kb_18 ?_
    refine ev_iload (pc := 245) dX12_plan_245 rfl ?_
    refine ev_calli (pc := 247) (stk := []) (ce_V (c_X12_pass 11 36 12 18 v12 rfl σ _ hf) wv_X12_159_X12_pass rfl (by decide) rfl (by decide) rfl (Nat.le_of_ble_eq_true rfl) rfl dX12_plan_247) (fun x45 σ44 hf => ?_)
    refine ev_goto (pc := 250) (tgt := 254) dX12_plan_250 (by decide) ?_
    exact p_X12_plan_J254_200 a1 a2 a3 again200 k323 post hagain200 hk323 _ _ _ _ _ _ _ _ _ _ _ hf
def f_X12_plan_L200 (a1 : Int32) (a2 : Int32) (a3 : Int32) (k323 : Int32 → Int32 → Int32 → Int32 → Int32 → Int32 → St → Prop) (post : Int32 → St → Prop) : Nat → Int32 → Int32 → Int32 → Int32 → Int32 → Int32 → Int32 → Int32 → Int32 → St → Prop
  | 0, _, _, _, _, _, _, _, _, _, _ => False
  | n + 1, v4, v5, v6, v7, v8, v9, v10, v11, v12, σ => (v4 ≤ v12 → (k323 v4 v5 v6 v7 v8 v9 σ)) ∧ (¬ v4 ≤ v12 → ((v11 = 0 → (k323 v4 v5 v6 v7 v8 v9 σ)) ∧ (¬ v11 = 0 → (f_X12_isShift v12 σ (fun x33 σ32 => (x33 = 0 → ((f_X12_plan_L200 a1 a2 a3 k323 post n) v4 v5 v6 v7 v8 v9 v10 v11 (v12 + 1) σ32)) ∧ (¬ x33 = 0 → ((2 < a1 → (f_X12_plan_J231_200 a1 a2 a3 (f_X12_plan_L200 a1 a2 a3 k323 post n) k323 post v4 v5 v6 v7 v8 v9 v10 v11 v12 σ32)) ∧ (¬ 2 < a1 → ((¬ v12 = 0 → ((f_X12_plan_L200 a1 a2 a3 k323 post n) v4 v5 v6 v7 v8 v9 v10 v11 (v12 + 1) σ32)) ∧ (v12 = 0 → (f_X12_plan_J231_200 a1 a2 a3 (f_X12_plan_L200 a1 a2 a3 k323 post n) k323 post v4 v5 v6 v7 v8 v9 v10 v11 v12 σ32)))))))))))
set_option maxRecDepth 100000 in
set_option maxHeartbeats 4000000 in
theorem p_X12_plan_L200 (a1 : Int32) (a2 : Int32) (a3 : Int32) (k323 : Int32 → Int32 → Int32 → Int32 → Int32 → Int32 → St → Prop) (post : Int32 → St → Prop) (hk323 : ∀ (v4 : Int32) (v5 : Int32) (v6 : Int32) (v7 : Int32) (v8 : Int32) (v9 : Int32) (τ : St), k323 v4 v5 v6 v7 v8 v9 τ → Ev SM RX12 cX12_plan 14 (some .int) 3 (EQi SM post) 323 [some (.ref 0), some (.int a1), some (.int a2), some (.int a3), some (.int v4), some (.int v5), some (.int v6), some (.int v7), some (.int v8), some (.int v9), none, none, none, none] [] τ) : ∀ (n : Nat) (v4 : Int32) (v5 : Int32) (v6 : Int32) (v7 : Int32) (v8 : Int32) (v9 : Int32) (v10 : Int32) (v11 : Int32) (v12 : Int32) (σ : St), f_X12_plan_L200 a1 a2 a3 k323 post n v4 v5 v6 v7 v8 v9 v10 v11 v12 σ → Ev SM RX12 cX12_plan 14 (some .int) 3 (EQi SM post) 200 [some (.ref 0), some (.int a1), some (.int a2), some (.int a3), some (.int v4), some (.int v5), some (.int v6), some (.int v7), some (.int v8), some (.int v9), some (.int v10), some (.int v11), some (.int v12), none] [] σ := by
  intro n
  induction n with
  | zero =>
    intro v4 v5 v6 v7 v8 v9 v10 v11 v12 σ hf
    exact hf.elim
  | succ n hagain200 =>
    intro v4 v5 v6 v7 v8 v9 v10 v11 v12 σ hf
    rw [f_X12_plan_L200] at hf
    refine ev_iload (pc := 200) dX12_plan_200 rfl ?_
    refine ev_iload (pc := 202) dX12_plan_202 rfl ?_
    refine ev_icmp_ge (pc := 204) (tgt := 323) dX12_plan_204 (by decide) (fun c30 => ?_) (fun c30 => ?_)
    · have hf := hf.1 c30
      refine ev_mask [true, true, true, true, true, true, true, true, true, true, false, false, false, false] (L' := [some (.ref 0), some (.int a1), some (.int a2), some (.int a3), some (.int v4), some (.int v5), some (.int v6), some (.int v7), some (.int v8), some (.int v9), none, none, none, none]) rfl ?_
      exact hk323 _ _ _ _ _ _ _ hf
    · have hf := hf.2 c30
      refine ev_iload (pc := 207) dX12_plan_207 rfl ?_
      refine ev_if_eq (pc := 209) (tgt := 323) dX12_plan_209 (by decide) (fun c31 => ?_) (fun c31 => ?_)
      · have hf := hf.1 c31
        refine ev_mask [true, true, true, true, true, true, true, true, true, true, false, false, false, false] (L' := [some (.ref 0), some (.int a1), some (.int a2), some (.int a3), some (.int v4), some (.int v5), some (.int v6), some (.int v7), some (.int v8), some (.int v9), none, none, none, none]) rfl ?_
        exact hk323 _ _ _ _ _ _ _ hf
      · have hf := hf.2 c31
        refine ev_aload_n (pc := 212) dX12_plan_212 rfl (i := 0) rfl ?_
        refine ev_iload (pc := 213) dX12_plan_213 rfl ?_
        refine ev_calli (pc := 215) (stk := []) (ce_V (c_X12_isShift v12 σ _ hf) wv_X12_150_X12_isShift rfl (by decide) rfl (by decide) rfl (Nat.le_of_ble_eq_true rfl) rfl dX12_plan_215) (fun x33 σ32 hf => ?_)
        refine ev_if_eq (pc := 218) (tgt := 317) dX12_plan_218 (by decide) (fun c34 => ?_) (fun c34 => ?_)
        · have hf := hf.1 c34
          refine ev_iinc (pc := 317) (v := v12 + 1) (L' := [some (.ref 0), some (.int a1), some (.int a2), some (.int a3), some (.int v4), some (.int v5), some (.int v6), some (.int v7), some (.int v8), some (.int v9), some (.int v10), some (.int v11), some (.int (v12 + 1)), none]) dX12_plan_317 rfl (by rw [kc_1]) (by decide) rfl rfl ?_
          refine ev_goto (pc := 320) (tgt := 200) dX12_plan_320 (by decide) ?_
          exact hagain200 _ _ _ _ _ _ _ _ _ _ hf
        · have hf := hf.2 c34
          refine ev_iload_n (pc := 221) dX12_plan_221 rfl (i := 1) rfl ?_
          refine ev_iconst (pc := 222) (v := 2) dX12_plan_222 kc_2 ?_
          refine ev_icmp_gt (pc := 223) (tgt := 231) dX12_plan_223 (by decide) (fun c35 => ?_) (fun c35 => ?_)
          · have hf := hf.1 c35
            exact p_X12_plan_J231_200 a1 a2 a3 (f_X12_plan_L200 a1 a2 a3 k323 post n) k323 post hagain200 hk323 _ _ _ _ _ _ _ _ _ _ hf
          · have hf := hf.2 c35
            refine ev_iload (pc := 226) dX12_plan_226 rfl ?_
            refine ev_if_ne (pc := 228) (tgt := 317) dX12_plan_228 (by decide) (fun c46 => ?_) (fun c46 => ?_)
            · have hf := hf.1 c46
              refine ev_iinc (pc := 317) (v := v12 + 1) (L' := [some (.ref 0), some (.int a1), some (.int a2), some (.int a3), some (.int v4), some (.int v5), some (.int v6), some (.int v7), some (.int v8), some (.int v9), some (.int v10), some (.int v11), some (.int (v12 + 1)), none]) dX12_plan_317 rfl (by rw [kc_1]) (by decide) rfl rfl ?_
              refine ev_goto (pc := 320) (tgt := 200) dX12_plan_320 (by decide) ?_
              exact hagain200 _ _ _ _ _ _ _ _ _ _ hf
            · have hf := hf.2 c46
              exact p_X12_plan_J231_200 a1 a2 a3 (f_X12_plan_L200 a1 a2 a3 k323 post n) k323 post hagain200 hk323 _ _ _ _ _ _ _ _ _ _ hf
def f_X12_plan_J174_120 (a1 : Int32) (a2 : Int32) (a3 : Int32) (again120 : Int32 → Int32 → Int32 → Int32 → Int32 → Int32 → St → Prop) (k329 : Int32 → Int32 → Int32 → St → Prop) (post : Int32 → St → Prop) (v4 : Int32) (v5 : Int32) (v6 : Int32) (v7 : Int32) (v8 : Int32) (v9 : Int32) (s0 : Int32) (σ : St) : Prop := (a1 = 1 → (∃ n54 : Nat, f_X12_plan_L200 a1 a2 a3 (fun x48 x49 x50 x51 x52 x53 σ47 => again120 x48 x49 x50 x51 x52 (x53 + 1) σ47) post n54 v4 v5 v6 v7 v8 v9 s0 1 0 σ)) ∧ (¬ a1 = 1 → (f_X12_isFull 2 a2 σ (fun x56 σ55 => (x56 = 0 → (∃ n65 : Nat, f_X12_plan_L200 a1 a2 a3 (fun x59 x60 x61 x62 x63 x64 σ58 => again120 x59 x60 x61 x62 x63 (x64 + 1) σ58) post n65 v4 v5 v6 v7 v8 v9 s0 0 0 σ55)) ∧ (¬ x56 = 0 → (∃ n73 : Nat, f_X12_plan_L200 a1 a2 a3 (fun x67 x68 x69 x70 x71 x72 σ66 => again120 x67 x68 x69 x70 x71 (x72 + 1) σ66) post n73 v4 v5 v6 v7 v8 v9 s0 1 0 σ55)))))
set_option maxRecDepth 100000 in
set_option maxHeartbeats 4000000 in
theorem p_X12_plan_J174_120 (a1 : Int32) (a2 : Int32) (a3 : Int32) (again120 : Int32 → Int32 → Int32 → Int32 → Int32 → Int32 → St → Prop) (k329 : Int32 → Int32 → Int32 → St → Prop) (post : Int32 → St → Prop) (hagain120 : ∀ (v4 : Int32) (v5 : Int32) (v6 : Int32) (v7 : Int32) (v8 : Int32) (v9 : Int32) (τ : St), again120 v4 v5 v6 v7 v8 v9 τ → Ev SM RX12 cX12_plan 14 (some .int) 3 (EQi SM post) 120 [some (.ref 0), some (.int a1), some (.int a2), some (.int a3), some (.int v4), some (.int v5), some (.int v6), some (.int v7), some (.int v8), some (.int v9), none, none, none, none] [] τ) (hk329 : ∀ (v4 : Int32) (v5 : Int32) (v6 : Int32) (τ : St), k329 v4 v5 v6 τ → Ev SM RX12 cX12_plan 14 (some .int) 3 (EQi SM post) 329 [some (.ref 0), some (.int a1), some (.int a2), some (.int a3), some (.int v4), some (.int v5), some (.int v6), none, none, none, none, none, none, none] [] τ) (v4 : Int32) (v5 : Int32) (v6 : Int32) (v7 : Int32) (v8 : Int32) (v9 : Int32) (s0 : Int32) (σ : St) (hf : f_X12_plan_J174_120 a1 a2 a3 again120 k329 post v4 v5 v6 v7 v8 v9 s0 σ) : Ev SM RX12 cX12_plan 14 (some .int) 3 (EQi SM post) 174 [some (.ref 0), some (.int a1), some (.int a2), some (.int a3), some (.int v4), some (.int v5), some (.int v6), some (.int v7), some (.int v8), some (.int v9), none, none, none, none] [.int s0] σ := by
  rw [f_X12_plan_J174_120] at hf
  refine ev_istore (pc := 174) (L' := [some (.ref 0), some (.int a1), some (.int a2), some (.int a3), some (.int v4), some (.int v5), some (.int v6), some (.int v7), some (.int v8), some (.int v9), some (.int s0), none, none, none]) dX12_plan_174 (by decide) rfl rfl ?_
  refine ev_iload_n (pc := 176) dX12_plan_176 rfl (i := 1) rfl ?_
  refine ev_iconst (pc := 177) (v := 1) dX12_plan_177 kc_1 ?_
  refine ev_icmp_eq (pc := 178) (tgt := 190) dX12_plan_178 (by decide) (fun c29 => ?_) (fun c29 => ?_)
  · have hf := hf.1 c29
    refine ev_iconst (pc := 190) (v := 1) dX12_plan_190 kc_1 ?_
    refine ev_goto (pc := 191) (tgt := 195) dX12_plan_191 (by decide) ?_
    refine ev_istore (pc := 195) (L' := [some (.ref 0), some (.int a1), some (.int a2), some (.int a3), some (.int v4), some (.int v5), some (.int v6), some (.int v7), some (.int v8), some (.int v9), some (.int s0), some (.int 1), none, none]) dX12_plan_195 (by decide) rfl rfl ?_
    refine ev_iconst (pc := 197) (v := 0) dX12_plan_197 kc_0 ?_
    refine ev_istore (pc := 198) (L' := [some (.ref 0), some (.int a1), some (.int a2), some (.int a3), some (.int v4), some (.int v5), some (.int v6), some (.int v7), some (.int v8), some (.int v9), some (.int s0), some (.int 1), some (.int 0), none]) dX12_plan_198 (by decide) rfl rfl ?_
    obtain ⟨n54, hf⟩ := hf
    exact p_X12_plan_L200 a1 a2 a3 _ post (fun x48 x49 x50 x51 x52 x53 σ47 hf => by
      refine ev_iinc (pc := 323) (v := x53 + 1) (L' := [some (.ref 0), some (.int a1), some (.int a2), some (.int a3), some (.int x48), some (.int x49), some (.int x50), some (.int x51), some (.int x52), some (.int (x53 + 1)), none, none, none, none]) dX12_plan_323 rfl (by rw [kc_1]) (by decide) rfl rfl ?_
      refine ev_goto (pc := 326) (tgt := 120) dX12_plan_326 (by decide) ?_
      exact hagain120 _ _ _ _ _ _ _ hf) n54 _ _ _ _ _ _ _ _ _ _ hf
  · have hf := hf.2 c29
    refine ev_aload_n (pc := 181) dX12_plan_181 rfl (i := 0) rfl ?_
    refine ev_iconst (pc := 182) (v := 2) dX12_plan_182 kc_2 ?_
    refine ev_iload_n (pc := 183) dX12_plan_183 rfl (i := 2) rfl ?_
    refine ev_calli (pc := 184) (stk := []) (ce_V (c_X12_isFull 2 a2 σ _ hf) wv_X12_166_X12_isFull rfl (by decide) rfl (by decide) rfl (Nat.le_of_ble_eq_true rfl) rfl dX12_plan_184) (fun x56 σ55 hf => ?_)
    refine ev_if_eq (pc := 187) (tgt := 194) dX12_plan_187 (by decide) (fun c57 => ?_) (fun c57 => ?_)
    · have hf := hf.1 c57
      refine ev_iconst (pc := 194) (v := 0) dX12_plan_194 kc_0 ?_
      refine ev_istore (pc := 195) (L' := [some (.ref 0), some (.int a1), some (.int a2), some (.int a3), some (.int v4), some (.int v5), some (.int v6), some (.int v7), some (.int v8), some (.int v9), some (.int s0), some (.int 0), none, none]) dX12_plan_195 (by decide) rfl rfl ?_
      refine ev_iconst (pc := 197) (v := 0) dX12_plan_197 kc_0 ?_
      refine ev_istore (pc := 198) (L' := [some (.ref 0), some (.int a1), some (.int a2), some (.int a3), some (.int v4), some (.int v5), some (.int v6), some (.int v7), some (.int v8), some (.int v9), some (.int s0), some (.int 0), some (.int 0), none]) dX12_plan_198 (by decide) rfl rfl ?_
      obtain ⟨n65, hf⟩ := hf
      exact p_X12_plan_L200 a1 a2 a3 _ post (fun x59 x60 x61 x62 x63 x64 σ58 hf => by
        refine ev_iinc (pc := 323) (v := x64 + 1) (L' := [some (.ref 0), some (.int a1), some (.int a2), some (.int a3), some (.int x59), some (.int x60), some (.int x61), some (.int x62), some (.int x63), some (.int (x64 + 1)), none, none, none, none]) dX12_plan_323 rfl (by rw [kc_1]) (by decide) rfl rfl ?_
        refine ev_goto (pc := 326) (tgt := 120) dX12_plan_326 (by decide) ?_
        exact hagain120 _ _ _ _ _ _ _ hf) n65 _ _ _ _ _ _ _ _ _ _ hf
    · have hf := hf.2 c57
      refine ev_iconst (pc := 190) (v := 1) dX12_plan_190 kc_1 ?_
      refine ev_goto (pc := 191) (tgt := 195) dX12_plan_191 (by decide) ?_
      refine ev_istore (pc := 195) (L' := [some (.ref 0), some (.int a1), some (.int a2), some (.int a3), some (.int v4), some (.int v5), some (.int v6), some (.int v7), some (.int v8), some (.int v9), some (.int s0), some (.int 1), none, none]) dX12_plan_195 (by decide) rfl rfl ?_
      refine ev_iconst (pc := 197) (v := 0) dX12_plan_197 kc_0 ?_
      refine ev_istore (pc := 198) (L' := [some (.ref 0), some (.int a1), some (.int a2), some (.int a3), some (.int v4), some (.int v5), some (.int v6), some (.int v7), some (.int v8), some (.int v9), some (.int s0), some (.int 1), some (.int 0), none]) dX12_plan_198 (by decide) rfl rfl ?_
      obtain ⟨n73, hf⟩ := hf
      exact p_X12_plan_L200 a1 a2 a3 _ post (fun x67 x68 x69 x70 x71 x72 σ66 hf => by
        refine ev_iinc (pc := 323) (v := x72 + 1) (L' := [some (.ref 0), some (.int a1), some (.int a2), some (.int a3), some (.int x67), some (.int x68), some (.int x69), some (.int x70), some (.int x71), some (.int (x72 + 1)), none, none, none, none]) dX12_plan_323 rfl (by rw [kc_1]) (by decide) rfl rfl ?_
        refine ev_goto (pc := 326) (tgt := 120) dX12_plan_326 (by decide) ?_
        exact hagain120 _ _ _ _ _ _ _ hf) n73 _ _ _ _ _ _ _ _ _ _ hf
def f_X12_plan_J151_120 (a1 : Int32) (a2 : Int32) (a3 : Int32) (again120 : Int32 → Int32 → Int32 → Int32 → Int32 → Int32 → St → Prop) (k329 : Int32 → Int32 → Int32 → St → Prop) (post : Int32 → St → Prop) (v4 : Int32) (v5 : Int32) (v6 : Int32) (v7 : Int32) (v8 : Int32) (v9 : Int32) (σ : St) : Prop := (a1 ≤ 1 → (f_X12_plan_J174_120 a1 a2 a3 again120 k329 post v4 v5 v6 v7 v8 v9 0 σ)) ∧ (¬ a1 ≤ 1 → (f_X12_pass 11 36 6 12 v9 σ (fun x75 σ74 => f_X12_plan_J174_120 a1 a2 a3 again120 k329 post v4 v5 v6 v7 v8 v9 x75 σ74)))
set_option maxRecDepth 100000 in
set_option maxHeartbeats 4000000 in
theorem p_X12_plan_J151_120 (a1 : Int32) (a2 : Int32) (a3 : Int32) (again120 : Int32 → Int32 → Int32 → Int32 → Int32 → Int32 → St → Prop) (k329 : Int32 → Int32 → Int32 → St → Prop) (post : Int32 → St → Prop) (hagain120 : ∀ (v4 : Int32) (v5 : Int32) (v6 : Int32) (v7 : Int32) (v8 : Int32) (v9 : Int32) (τ : St), again120 v4 v5 v6 v7 v8 v9 τ → Ev SM RX12 cX12_plan 14 (some .int) 3 (EQi SM post) 120 [some (.ref 0), some (.int a1), some (.int a2), some (.int a3), some (.int v4), some (.int v5), some (.int v6), some (.int v7), some (.int v8), some (.int v9), none, none, none, none] [] τ) (hk329 : ∀ (v4 : Int32) (v5 : Int32) (v6 : Int32) (τ : St), k329 v4 v5 v6 τ → Ev SM RX12 cX12_plan 14 (some .int) 3 (EQi SM post) 329 [some (.ref 0), some (.int a1), some (.int a2), some (.int a3), some (.int v4), some (.int v5), some (.int v6), none, none, none, none, none, none, none] [] τ) (v4 : Int32) (v5 : Int32) (v6 : Int32) (v7 : Int32) (v8 : Int32) (v9 : Int32) (σ : St) (hf : f_X12_plan_J151_120 a1 a2 a3 again120 k329 post v4 v5 v6 v7 v8 v9 σ) : Ev SM RX12 cX12_plan 14 (some .int) 3 (EQi SM post) 151 [some (.ref 0), some (.int a1), some (.int a2), some (.int a3), some (.int v4), some (.int v5), some (.int v6), some (.int v7), some (.int v8), some (.int v9), none, none, none, none] [] σ := by
  rw [f_X12_plan_J151_120] at hf
  refine ev_iload_n (pc := 151) dX12_plan_151 rfl (i := 1) rfl ?_
  refine ev_iconst (pc := 152) (v := 1) dX12_plan_152 kc_1 ?_
  refine ev_icmp_le (pc := 153) (tgt := 173) dX12_plan_153 (by decide) (fun c28 => ?_) (fun c28 => ?_)
  · have hf := hf.1 c28
    refine ev_iconst (pc := 173) (v := 0) dX12_plan_173 kc_0 ?_
    exact p_X12_plan_J174_120 a1 a2 a3 again120 k329 post hagain120 hk329 _ _ _ _ _ _ _ _ hf
  · have hf := hf.2 c28
    refine ev_aload_n (pc := 156) dX12_plan_156 rfl (i := 0) rfl ?_
    refine ev_aload_n (pc := 157) dX12_plan_157 rfl (i := 0) rfl ?_
    refine ev_get (pc := 158) fl_X12_42_12_19 rfl (by decide) rfl rfl dX12_plan_158 ?_
    refine ev_bipush (pc := 161) (v := 6) dX12_plan_161 kb_6 ?_
    refine ev_bipush (pc := 163) (v := 12) dX12_plan_163 kb_12 ?_
    refine ev_iload (pc := 165) dX12_plan_165 rfl ?_
    refine ev_calli (pc := 167) (stk := []) (ce_V (c_X12_pass 11 36 6 12 v9 rfl σ _ hf) wv_X12_159_X12_pass rfl (by decide) rfl (by decide) rfl (Nat.le_of_ble_eq_true rfl) rfl dX12_plan_167) (fun x75 σ74 hf => ?_)
    refine ev_goto (pc := 170) (tgt := 174) dX12_plan_170 (by decide) ?_
    exact p_X12_plan_J174_120 a1 a2 a3 again120 k329 post hagain120 hk329 _ _ _ _ _ _ _ _ hf
def f_X12_plan_L120 (a1 : Int32) (a2 : Int32) (a3 : Int32) (k329 : Int32 → Int32 → Int32 → St → Prop) (post : Int32 → St → Prop) : Nat → Int32 → Int32 → Int32 → Int32 → Int32 → Int32 → St → Prop
  | 0, _, _, _, _, _, _, _ => False
  | n + 1, v4, v5, v6, v7, v8, v9, σ => (v4 ≤ v9 → (k329 v4 v5 v6 σ)) ∧ (¬ v4 ≤ v9 → ((v8 = 0 → (k329 v4 v5 v6 σ)) ∧ (¬ v8 = 0 → (f_X12_isShift v9 σ (fun x25 σ24 => (x25 = 0 → ((f_X12_plan_L120 a1 a2 a3 k329 post n) v4 v5 v6 v7 v8 (v9 + 1) σ24)) ∧ (¬ x25 = 0 → ((1 < a1 → (f_X12_plan_J151_120 a1 a2 a3 (f_X12_plan_L120 a1 a2 a3 k329 post n) k329 post v4 v5 v6 v7 v8 v9 σ24)) ∧ (¬ 1 < a1 → ((¬ v9 = 0 → ((f_X12_plan_L120 a1 a2 a3 k329 post n) v4 v5 v6 v7 v8 (v9 + 1) σ24)) ∧ (v9 = 0 → (f_X12_plan_J151_120 a1 a2 a3 (f_X12_plan_L120 a1 a2 a3 k329 post n) k329 post v4 v5 v6 v7 v8 v9 σ24)))))))))))
set_option maxRecDepth 100000 in
set_option maxHeartbeats 4000000 in
theorem p_X12_plan_L120 (a1 : Int32) (a2 : Int32) (a3 : Int32) (k329 : Int32 → Int32 → Int32 → St → Prop) (post : Int32 → St → Prop) (hk329 : ∀ (v4 : Int32) (v5 : Int32) (v6 : Int32) (τ : St), k329 v4 v5 v6 τ → Ev SM RX12 cX12_plan 14 (some .int) 3 (EQi SM post) 329 [some (.ref 0), some (.int a1), some (.int a2), some (.int a3), some (.int v4), some (.int v5), some (.int v6), none, none, none, none, none, none, none] [] τ) : ∀ (n : Nat) (v4 : Int32) (v5 : Int32) (v6 : Int32) (v7 : Int32) (v8 : Int32) (v9 : Int32) (σ : St), f_X12_plan_L120 a1 a2 a3 k329 post n v4 v5 v6 v7 v8 v9 σ → Ev SM RX12 cX12_plan 14 (some .int) 3 (EQi SM post) 120 [some (.ref 0), some (.int a1), some (.int a2), some (.int a3), some (.int v4), some (.int v5), some (.int v6), some (.int v7), some (.int v8), some (.int v9), none, none, none, none] [] σ := by
  intro n
  induction n with
  | zero =>
    intro v4 v5 v6 v7 v8 v9 σ hf
    exact hf.elim
  | succ n hagain120 =>
    intro v4 v5 v6 v7 v8 v9 σ hf
    rw [f_X12_plan_L120] at hf
    refine ev_iload (pc := 120) dX12_plan_120 rfl ?_
    refine ev_iload (pc := 122) dX12_plan_122 rfl ?_
    refine ev_icmp_ge (pc := 124) (tgt := 329) dX12_plan_124 (by decide) (fun c22 => ?_) (fun c22 => ?_)
    · have hf := hf.1 c22
      refine ev_mask [true, true, true, true, true, true, true, false, false, false, false, false, false, false] (L' := [some (.ref 0), some (.int a1), some (.int a2), some (.int a3), some (.int v4), some (.int v5), some (.int v6), none, none, none, none, none, none, none]) rfl ?_
      exact hk329 _ _ _ _ hf
    · have hf := hf.2 c22
      refine ev_iload (pc := 127) dX12_plan_127 rfl ?_
      refine ev_if_eq (pc := 129) (tgt := 329) dX12_plan_129 (by decide) (fun c23 => ?_) (fun c23 => ?_)
      · have hf := hf.1 c23
        refine ev_mask [true, true, true, true, true, true, true, false, false, false, false, false, false, false] (L' := [some (.ref 0), some (.int a1), some (.int a2), some (.int a3), some (.int v4), some (.int v5), some (.int v6), none, none, none, none, none, none, none]) rfl ?_
        exact hk329 _ _ _ _ hf
      · have hf := hf.2 c23
        refine ev_aload_n (pc := 132) dX12_plan_132 rfl (i := 0) rfl ?_
        refine ev_iload (pc := 133) dX12_plan_133 rfl ?_
        refine ev_calli (pc := 135) (stk := []) (ce_V (c_X12_isShift v9 σ _ hf) wv_X12_150_X12_isShift rfl (by decide) rfl (by decide) rfl (Nat.le_of_ble_eq_true rfl) rfl dX12_plan_135) (fun x25 σ24 hf => ?_)
        refine ev_if_eq (pc := 138) (tgt := 323) dX12_plan_138 (by decide) (fun c26 => ?_) (fun c26 => ?_)
        · have hf := hf.1 c26
          refine ev_iinc (pc := 323) (v := v9 + 1) (L' := [some (.ref 0), some (.int a1), some (.int a2), some (.int a3), some (.int v4), some (.int v5), some (.int v6), some (.int v7), some (.int v8), some (.int (v9 + 1)), none, none, none, none]) dX12_plan_323 rfl (by rw [kc_1]) (by decide) rfl rfl ?_
          refine ev_goto (pc := 326) (tgt := 120) dX12_plan_326 (by decide) ?_
          exact hagain120 _ _ _ _ _ _ _ hf
        · have hf := hf.2 c26
          refine ev_iload_n (pc := 141) dX12_plan_141 rfl (i := 1) rfl ?_
          refine ev_iconst (pc := 142) (v := 1) dX12_plan_142 kc_1 ?_
          refine ev_icmp_gt (pc := 143) (tgt := 151) dX12_plan_143 (by decide) (fun c27 => ?_) (fun c27 => ?_)
          · have hf := hf.1 c27
            exact p_X12_plan_J151_120 a1 a2 a3 (f_X12_plan_L120 a1 a2 a3 k329 post n) k329 post hagain120 hk329 _ _ _ _ _ _ _ hf
          · have hf := hf.2 c27
            refine ev_iload (pc := 146) dX12_plan_146 rfl ?_
            refine ev_if_ne (pc := 148) (tgt := 323) dX12_plan_148 (by decide) (fun c76 => ?_) (fun c76 => ?_)
            · have hf := hf.1 c76
              refine ev_iinc (pc := 323) (v := v9 + 1) (L' := [some (.ref 0), some (.int a1), some (.int a2), some (.int a3), some (.int v4), some (.int v5), some (.int v6), some (.int v7), some (.int v8), some (.int (v9 + 1)), none, none, none, none]) dX12_plan_323 rfl (by rw [kc_1]) (by decide) rfl rfl ?_
              refine ev_goto (pc := 326) (tgt := 120) dX12_plan_326 (by decide) ?_
              exact hagain120 _ _ _ _ _ _ _ hf
            · have hf := hf.2 c76
              exact p_X12_plan_J151_120 a1 a2 a3 (f_X12_plan_L120 a1 a2 a3 k329 post n) k329 post hagain120 hk329 _ _ _ _ _ _ _ hf
def f_X12_plan_L78 (a1 : Int32) (a2 : Int32) (a3 : Int32) (k335 : Int32 → St → Prop) (post : Int32 → St → Prop) : Nat → Int32 → Int32 → Int32 → St → Prop
  | 0, _, _, _, _ => False
  | n + 1, v4, v5, v6, σ => (v4 ≤ v6 → (k335 v5 σ)) ∧ (¬ v4 ≤ v6 → (f_X12_isShift v6 σ (fun x16 σ15 => (x16 = 0 → ((f_X12_plan_L78 a1 a2 a3 k335 post n) v4 v5 (v6 + 1) σ15)) ∧ (¬ x16 = 0 → (f_X12_pass 11 36 0 6 v6 σ15 (fun x19 σ18 => f_X12_isFull 1 a2 σ18 (fun x21 σ20 => ∃ n81 : Nat, f_X12_plan_L120 a1 a2 a3 (fun x78 x79 x80 σ77 => (f_X12_plan_L78 a1 a2 a3 k335 post n) x78 x79 (x80 + 1) σ77) post n81 v4 v5 v6 x19 x21 0 σ20)))))))
set_option maxRecDepth 100000 in
set_option maxHeartbeats 4000000 in
theorem p_X12_plan_L78 (a1 : Int32) (a2 : Int32) (a3 : Int32) (k335 : Int32 → St → Prop) (post : Int32 → St → Prop) (hk335 : ∀ (v5 : Int32) (τ : St), k335 v5 τ → Ev SM RX12 cX12_plan 14 (some .int) 3 (EQi SM post) 335 [some (.ref 0), some (.int a1), some (.int a2), some (.int a3), none, some (.int v5), none, none, none, none, none, none, none, none] [] τ) : ∀ (n : Nat) (v4 : Int32) (v5 : Int32) (v6 : Int32) (σ : St), f_X12_plan_L78 a1 a2 a3 k335 post n v4 v5 v6 σ → Ev SM RX12 cX12_plan 14 (some .int) 3 (EQi SM post) 78 [some (.ref 0), some (.int a1), some (.int a2), some (.int a3), some (.int v4), some (.int v5), some (.int v6), none, none, none, none, none, none, none] [] σ := by
  intro n
  induction n with
  | zero =>
    intro v4 v5 v6 σ hf
    exact hf.elim
  | succ n hagain78 =>
    intro v4 v5 v6 σ hf
    rw [f_X12_plan_L78] at hf
    refine ev_iload (pc := 78) dX12_plan_78 rfl ?_
    refine ev_iload (pc := 80) dX12_plan_80 rfl ?_
    refine ev_icmp_ge (pc := 82) (tgt := 335) dX12_plan_82 (by decide) (fun c14 => ?_) (fun c14 => ?_)
    · have hf := hf.1 c14
      refine ev_mask [true, true, true, true, false, true, false, false, false, false, false, false, false, false] (L' := [some (.ref 0), some (.int a1), some (.int a2), some (.int a3), none, some (.int v5), none, none, none, none, none, none, none, none]) rfl ?_
      exact hk335 _ _ hf
    · have hf := hf.2 c14
      refine ev_aload_n (pc := 85) dX12_plan_85 rfl (i := 0) rfl ?_
      refine ev_iload (pc := 86) dX12_plan_86 rfl ?_
      refine ev_calli (pc := 88) (stk := []) (ce_V (c_X12_isShift v6 σ _ hf) wv_X12_150_X12_isShift rfl (by decide) rfl (by decide) rfl (Nat.le_of_ble_eq_true rfl) rfl dX12_plan_88) (fun x16 σ15 hf => ?_)
      refine ev_if_eq (pc := 91) (tgt := 329) dX12_plan_91 (by decide) (fun c17 => ?_) (fun c17 => ?_)
      · have hf := hf.1 c17
        refine ev_iinc (pc := 329) (v := v6 + 1) (L' := [some (.ref 0), some (.int a1), some (.int a2), some (.int a3), some (.int v4), some (.int v5), some (.int (v6 + 1)), none, none, none, none, none, none, none]) dX12_plan_329 rfl (by rw [kc_1]) (by decide) rfl rfl ?_
        refine ev_goto (pc := 332) (tgt := 78) dX12_plan_332 (by decide) ?_
        exact hagain78 _ _ _ _ hf
      · have hf := hf.2 c17
        refine ev_aload_n (pc := 94) dX12_plan_94 rfl (i := 0) rfl ?_
        refine ev_aload_n (pc := 95) dX12_plan_95 rfl (i := 0) rfl ?_
        refine ev_get (pc := 96) fl_X12_42_12_19 rfl (by decide) rfl rfl dX12_plan_96 ?_
        refine ev_iconst (pc := 99) (v := 0) dX12_plan_99 kc_0 ?_
        refine ev_bipush (pc := 100) (v := 6) dX12_plan_100 kb_6 ?_
        refine ev_iload (pc := 102) dX12_plan_102 rfl ?_
        refine ev_calli (pc := 104) (stk := []) (ce_V (c_X12_pass 11 36 0 6 v6 rfl σ15 _ hf) wv_X12_159_X12_pass rfl (by decide) rfl (by decide) rfl (Nat.le_of_ble_eq_true rfl) rfl dX12_plan_104) (fun x19 σ18 hf => ?_)
        refine ev_istore (pc := 107) (L' := [some (.ref 0), some (.int a1), some (.int a2), some (.int a3), some (.int v4), some (.int v5), some (.int v6), some (.int x19), none, none, none, none, none, none]) dX12_plan_107 (by decide) rfl rfl ?_
        refine ev_aload_n (pc := 109) dX12_plan_109 rfl (i := 0) rfl ?_
        refine ev_iconst (pc := 110) (v := 1) dX12_plan_110 kc_1 ?_
        refine ev_iload_n (pc := 111) dX12_plan_111 rfl (i := 2) rfl ?_
        refine ev_calli (pc := 112) (stk := []) (ce_V (c_X12_isFull 1 a2 σ18 _ hf) wv_X12_166_X12_isFull rfl (by decide) rfl (by decide) rfl (Nat.le_of_ble_eq_true rfl) rfl dX12_plan_112) (fun x21 σ20 hf => ?_)
        refine ev_istore (pc := 115) (L' := [some (.ref 0), some (.int a1), some (.int a2), some (.int a3), some (.int v4), some (.int v5), some (.int v6), some (.int x19), some (.int x21), none, none, none, none, none]) dX12_plan_115 (by decide) rfl rfl ?_
        refine ev_iconst (pc := 117) (v := 0) dX12_plan_117 kc_0 ?_
        refine ev_istore (pc := 118) (L' := [some (.ref 0), some (.int a1), some (.int a2), some (.int a3), some (.int v4), some (.int v5), some (.int v6), some (.int x19), some (.int x21), some (.int 0), none, none, none, none]) dX12_plan_118 (by decide) rfl rfl ?_
        obtain ⟨n81, hf⟩ := hf
        exact p_X12_plan_L120 a1 a2 a3 _ post (fun x78 x79 x80 σ77 hf => by
          refine ev_iinc (pc := 329) (v := x80 + 1) (L' := [some (.ref 0), some (.int a1), some (.int a2), some (.int a3), some (.int x78), some (.int x79), some (.int (x80 + 1)), none, none, none, none, none, none, none]) dX12_plan_329 rfl (by rw [kc_1]) (by decide) rfl rfl ?_
          refine ev_goto (pc := 332) (tgt := 78) dX12_plan_332 (by decide) ?_
          exact hagain78 _ _ _ _ hf) n81 _ _ _ _ _ _ _ hf
def f_X12_plan (a1 : Int32) (a2 : Int32) (a3 : Int32) (σ : St) (post : Int32 → St → Prop) : Prop := f_X12_in a1 1 3 σ (fun x2 σ1 => (x2 = 0 → (post (-1) σ1)) ∧ (¬ x2 = 0 → (f_X12_in a2 0 99 σ1 (fun x5 σ4 => (x5 = 0 → (post (-1) σ4)) ∧ (¬ x5 = 0 → (f_X12_in a3 (-1) 2 σ4 (fun x8 σ7 => (¬ x8 = 0 → (∃ n88 : Nat, f_X12_plan_L33 a1 a2 a3 (fun σ13 => ∃ n87 : Nat, f_X12_plan_L78 a1 a2 a3 (fun x83 σ82 => (¬ a3 = (-1) → ((a1 ≤ a3 → (post (-9) σ82)) ∧ (¬ a1 ≤ a3 → (vp_in a3 3 ∧ (post (σ82.1 12 a3.toNatClampNeg) σ82))))) ∧ (a3 = (-1) → (post x83 σ82))) post n87 (1 <<< ((σ13.1 2 0) &&& 31)) (-1) 0 σ13) post n88 0 σ7)) ∧ (x8 = 0 → (post (-1) σ7)))))))))
set_option maxRecDepth 100000 in
set_option maxHeartbeats 4000000 in
theorem c_X12_plan (a1 : Int32) (a2 : Int32) (a3 : Int32) (σ : St) (post : Int32 → St → Prop) (hf : f_X12_plan a1 a2 a3 σ post) : Ct SM yX12_plan cX12_plan 14 (some .int) 3 (EQi SM post) [.ref 0, .int a1, .int a2, .int a3] σ := by
  rw [f_X12_plan] at hf
  refine ct_of (by decide) rfl (Nat.le_of_ble_eq_true rfl) ?_
  show Ev SM RX12 cX12_plan 14 (some .int) 3 (EQi SM post) 0 [some (.ref 0), some (.int a1), some (.int a2), some (.int a3), none, none, none, none, none, none, none, none, none, none] [] σ
  refine ev_iload_n (pc := 0) dX12_plan_0 rfl (i := 1) rfl ?_
  refine ev_iconst (pc := 1) (v := 1) dX12_plan_1 kc_1 ?_
  refine ev_iconst (pc := 2) (v := 3) dX12_plan_2 kc_3 ?_
  refine ev_calli (pc := 3) (stk := []) (ce_S (c_X12_in a1 1 3 σ _ hf) wt_X12_69_X12_in  (by decide) rfl (Nat.le_of_ble_eq_true rfl) rfl dX12_plan_3) (fun x2 σ1 hf => ?_)
  refine ev_if_eq (pc := 6) (tgt := 28) dX12_plan_6 (by decide) (fun c3 => ?_) (fun c3 => ?_)
  · have hf := hf.1 c3
    refine ev_iconst (pc := 28) (v := (-1)) dX12_plan_28 kc_m1 ?_
    exact ev_iret (pc := 29) rfl dX12_plan_29 hf
  · have hf := hf.2 c3
    refine ev_iload_n (pc := 9) dX12_plan_9 rfl (i := 2) rfl ?_
    refine ev_iconst (pc := 10) (v := 0) dX12_plan_10 kc_0 ?_
    refine ev_bipush (pc := 11) (v := 99) dX12_plan_11 kb_99 ?_
    refine ev_calli (pc := 13) (stk := []) (ce_S (c_X12_in a2 0 99 σ1 _ hf) wt_X12_69_X12_in  (by decide) rfl (Nat.le_of_ble_eq_true rfl) rfl dX12_plan_13) (fun x5 σ4 hf => ?_)
    refine ev_if_eq (pc := 16) (tgt := 28) dX12_plan_16 (by decide) (fun c6 => ?_) (fun c6 => ?_)
    · have hf := hf.1 c6
      refine ev_iconst (pc := 28) (v := (-1)) dX12_plan_28 kc_m1 ?_
      exact ev_iret (pc := 29) rfl dX12_plan_29 hf
    · have hf := hf.2 c6
      refine ev_iload_n (pc := 19) dX12_plan_19 rfl (i := 3) rfl ?_
      refine ev_iconst (pc := 20) (v := (-1)) dX12_plan_20 kc_m1 ?_
      refine ev_iconst (pc := 21) (v := 2) dX12_plan_21 kc_2 ?_
      refine ev_calli (pc := 22) (stk := []) (ce_S (c_X12_in a3 (-1) 2 σ4 _ hf) wt_X12_69_X12_in  (by decide) rfl (Nat.le_of_ble_eq_true rfl) rfl dX12_plan_22) (fun x8 σ7 hf => ?_)
      refine ev_if_ne (pc := 25) (tgt := 30) dX12_plan_25 (by decide) (fun c9 => ?_) (fun c9 => ?_)
      · have hf := hf.1 c9
        refine ev_iconst (pc := 30) (v := 0) dX12_plan_30 kc_0 ?_
        refine ev_istore (pc := 31) (L' := [some (.ref 0), some (.int a1), some (.int a2), some (.int a3), some (.int 0), none, none, none, none, none, none, none, none, none]) dX12_plan_31 (by decide) rfl rfl ?_
        obtain ⟨n88, hf⟩ := hf
        exact p_X12_plan_L33 a1 a2 a3 _ post (fun σ13 hf => by
          refine ev_iconst (pc := 62) (v := 1) dX12_plan_62 kc_1 ?_
          refine ev_aload_n (pc := 63) dX12_plan_63 rfl (i := 0) rfl ?_
          refine ev_get (pc := 64) fl_X12_13_12_3 rfl (by decide) rfl rfl dX12_plan_64 ?_
          refine ev_iconst (pc := 67) (v := 0) dX12_plan_67 kc_0 ?_
          refine ev_iald (pc := 68) rfl rfl ki_0_2 kn_0 dX12_plan_68 ?_
          refine ev_ishl (pc := 69) dX12_plan_69 ?_
          refine ev_istore (pc := 70) (L' := [some (.ref 0), some (.int a1), some (.int a2), some (.int a3), some (.int (1 <<< ((σ13.1 2 0) &&& 31))), none, none, none, none, none, none, none, none, none]) dX12_plan_70 (by decide) rfl rfl ?_
          refine ev_iconst (pc := 72) (v := (-1)) dX12_plan_72 kc_m1 ?_
          refine ev_istore (pc := 73) (L' := [some (.ref 0), some (.int a1), some (.int a2), some (.int a3), some (.int (1 <<< ((σ13.1 2 0) &&& 31))), some (.int (-1)), none, none, none, none, none, none, none, none]) dX12_plan_73 (by decide) rfl rfl ?_
          refine ev_iconst (pc := 75) (v := 0) dX12_plan_75 kc_0 ?_
          refine ev_istore (pc := 76) (L' := [some (.ref 0), some (.int a1), some (.int a2), some (.int a3), some (.int (1 <<< ((σ13.1 2 0) &&& 31))), some (.int (-1)), some (.int 0), none, none, none, none, none, none, none]) dX12_plan_76 (by decide) rfl rfl ?_
          obtain ⟨n87, hf⟩ := hf
          exact p_X12_plan_L78 a1 a2 a3 _ post (fun x83 σ82 hf => by
            refine ev_iload_n (pc := 335) dX12_plan_335 rfl (i := 3) rfl ?_
            refine ev_iconst (pc := 336) (v := (-1)) dX12_plan_336 kc_m1 ?_
            refine ev_icmp_ne (pc := 337) (tgt := 345) dX12_plan_337 (by decide) (fun c84 => ?_) (fun c84 => ?_)
            · have hf := hf.1 c84
              refine ev_iload_n (pc := 345) dX12_plan_345 rfl (i := 3) rfl ?_
              refine ev_iload_n (pc := 346) dX12_plan_346 rfl (i := 1) rfl ?_
              refine ev_icmp_ge (pc := 347) (tgt := 359) dX12_plan_347 (by decide) (fun c85 => ?_) (fun c85 => ?_)
              · have hf := hf.1 c85
                refine ev_bipush (pc := 359) (v := (-9)) dX12_plan_359 kb_m9 ?_
                exact ev_iret (pc := 361) rfl dX12_plan_361 hf
              · have hf := hf.2 c85
                refine ev_aload_n (pc := 350) dX12_plan_350 rfl (i := 0) rfl ?_
                refine ev_get (pc := 351) fl_X12_45_12_20 rfl (by decide) rfl rfl dX12_plan_351 ?_
                refine ev_iload_n (pc := 354) dX12_plan_354 rfl (i := 3) rfl ?_
                obtain ⟨h86, hf⟩ := hf
                refine ev_iald (pc := 355) rfl rfl h86 rfl dX12_plan_355 ?_
                refine ev_goto (pc := 356) (tgt := 361) dX12_plan_356 (by decide) ?_
                exact ev_iret (pc := 361) rfl dX12_plan_361 hf
            · have hf := hf.2 c84
              refine ev_iload (pc := 340) dX12_plan_340 rfl ?_
              refine ev_goto (pc := 342) (tgt := 361) dX12_plan_342 (by decide) ?_
              exact ev_iret (pc := 361) rfl dX12_plan_361 hf) n87 _ _ _ _ hf) n88 _ _ hf
      · have hf := hf.2 c9
        refine ev_iconst (pc := 28) (v := (-1)) dX12_plan_28 kc_m1 ?_
        exact ev_iret (pc := 29) rfl dX12_plan_29 hf
def f_X12_lean_L27 (a1 : Int32) (a2 : Int32) (post : Int32 → St → Prop) : Nat → Int32 → St → Prop
  | 0, _, _ => False
  | n + 1, v3, σ => (60 < v3 → (post (-9) σ)) ∧ (¬ 60 < v3 → (f_X12_pass 10 24 0 0 a1 σ (fun x11 σ10 => (a2 ≤ x11 → ((f_X12_lean_L27 a1 a2 post n) (v3 + 1) σ10)) ∧ (¬ a2 ≤ x11 → (post v3 σ10)))))
set_option maxRecDepth 100000 in
set_option maxHeartbeats 4000000 in
theorem p_X12_lean_L27 (a1 : Int32) (a2 : Int32) (post : Int32 → St → Prop) : ∀ (n : Nat) (v3 : Int32) (σ : St), f_X12_lean_L27 a1 a2 post n v3 σ → Ev SM RX12 cX12_lean 4 (some .int) 3 (EQi SM post) 27 [some (.ref 0), some (.int a1), some (.int a2), some (.int v3)] [] σ := by
  intro n
  induction n with
  | zero =>
    intro v3 σ hf
    exact hf.elim
  | succ n hagain27 =>
    intro v3 σ hf
    rw [f_X12_lean_L27] at hf
    refine ev_iload_n (pc := 27) dX12_lean_27 rfl (i := 3) rfl ?_
    refine ev_bipush (pc := 28) (v := 60) dX12_lean_28 kb_60 ?_
    refine ev_icmp_gt (pc := 30) (tgt := 56) dX12_lean_30 (by decide) (fun c9 => ?_) (fun c9 => ?_)
    · have hf := hf.1 c9
      refine ev_bipush (pc := 56) (v := (-9)) dX12_lean_56 kb_m9 ?_
      exact ev_iret (pc := 58) rfl dX12_lean_58 hf
    · have hf := hf.2 c9
      refine ev_aload_n (pc := 33) dX12_lean_33 rfl (i := 0) rfl ?_
      refine ev_aload_n (pc := 34) dX12_lean_34 rfl (i := 0) rfl ?_
      refine ev_get (pc := 35) fl_X12_39_12_18 rfl (by decide) rfl rfl dX12_lean_35 ?_
      refine ev_iconst (pc := 38) (v := 0) dX12_lean_38 kc_0 ?_
      refine ev_iconst (pc := 39) (v := 0) dX12_lean_39 kc_0 ?_
      refine ev_iload_n (pc := 40) dX12_lean_40 rfl (i := 1) rfl ?_
      refine ev_calli (pc := 41) (stk := []) (ce_V (c_X12_pass 10 24 0 0 a1 rfl σ _ hf) wv_X12_159_X12_pass rfl (by decide) rfl (by decide) rfl (Nat.le_of_ble_eq_true rfl) rfl dX12_lean_41) (fun x11 σ10 hf => ?_)
      refine ev_iload_n (pc := 44) dX12_lean_44 rfl (i := 2) rfl ?_
      refine ev_icmp_ge (pc := 45) (tgt := 50) dX12_lean_45 (by decide) (fun c12 => ?_) (fun c12 => ?_)
      · have hf := hf.1 c12
        refine ev_iinc (pc := 50) (v := v3 + 1) (L' := [some (.ref 0), some (.int a1), some (.int a2), some (.int (v3 + 1))]) dX12_lean_50 rfl (by rw [kc_1]) (by decide) rfl rfl ?_
        refine ev_goto (pc := 53) (tgt := 27) dX12_lean_53 (by decide) ?_
        exact hagain27 _ _ hf
      · have hf := hf.2 c12
        refine ev_iload_n (pc := 48) dX12_lean_48 rfl (i := 3) rfl ?_
        exact ev_iret (pc := 49) rfl dX12_lean_49 hf
def f_X12_lean (a1 : Int32) (a2 : Int32) (σ : St) (post : Int32 → St → Prop) : Prop := f_X12_isShift a1 σ (fun x2 σ1 => (x2 = 0 → (post (-1) σ1)) ∧ (¬ x2 = 0 → (f_X12_in a2 1 999 σ1 (fun x5 σ4 => (¬ x5 = 0 → (f_X12_take σ4 (fun σ7 => ∃ n13 : Nat, f_X12_lean_L27 a1 a2 post n13 1 σ7))) ∧ (x5 = 0 → (post (-1) σ4))))))
set_option maxRecDepth 100000 in
set_option maxHeartbeats 4000000 in
theorem c_X12_lean (a1 : Int32) (a2 : Int32) (σ : St) (post : Int32 → St → Prop) (hf : f_X12_lean a1 a2 σ post) : Ct SM yX12_lean cX12_lean 4 (some .int) 3 (EQi SM post) [.ref 0, .int a1, .int a2] σ := by
  rw [f_X12_lean] at hf
  refine ct_of (by decide) rfl (Nat.le_of_ble_eq_true rfl) ?_
  show Ev SM RX12 cX12_lean 4 (some .int) 3 (EQi SM post) 0 [some (.ref 0), some (.int a1), some (.int a2), none] [] σ
  refine ev_aload_n (pc := 0) dX12_lean_0 rfl (i := 0) rfl ?_
  refine ev_iload_n (pc := 1) dX12_lean_1 rfl (i := 1) rfl ?_
  refine ev_calli (pc := 2) (stk := []) (ce_V (c_X12_isShift a1 σ _ hf) wv_X12_150_X12_isShift rfl (by decide) rfl (by decide) rfl (Nat.le_of_ble_eq_true rfl) rfl dX12_lean_2) (fun x2 σ1 hf => ?_)
  refine ev_if_eq (pc := 5) (tgt := 19) dX12_lean_5 (by decide) (fun c3 => ?_) (fun c3 => ?_)
  · have hf := hf.1 c3
    refine ev_iconst (pc := 19) (v := (-1)) dX12_lean_19 kc_m1 ?_
    exact ev_iret (pc := 20) rfl dX12_lean_20 hf
  · have hf := hf.2 c3
    refine ev_iload_n (pc := 8) dX12_lean_8 rfl (i := 2) rfl ?_
    refine ev_iconst (pc := 9) (v := 1) dX12_lean_9 kc_1 ?_
    refine ev_sipush (pc := 10) (v := 999) dX12_lean_10 ks_999 ?_
    refine ev_calli (pc := 13) (stk := []) (ce_S (c_X12_in a2 1 999 σ1 _ hf) wt_X12_69_X12_in  (by decide) rfl (Nat.le_of_ble_eq_true rfl) rfl dX12_lean_13) (fun x5 σ4 hf => ?_)
    refine ev_if_ne (pc := 16) (tgt := 21) dX12_lean_16 (by decide) (fun c6 => ?_) (fun c6 => ?_)
    · have hf := hf.1 c6
      refine ev_aload_n (pc := 21) dX12_lean_21 rfl (i := 0) rfl ?_
      refine ev_callv (pc := 22) (stk := []) (ce_V (c_X12_take σ4 _ hf) wv_X12_156_X12_take rfl (by decide) rfl (by decide) rfl (Nat.le_of_ble_eq_true rfl) rfl dX12_lean_22) (fun σ7 hf => ?_)
      refine ev_iconst (pc := 25) (v := 1) dX12_lean_25 kc_1 ?_
      refine ev_istore_n (pc := 26) (L' := [some (.ref 0), some (.int a1), some (.int a2), some (.int 1)]) dX12_lean_26 rfl (by decide) rfl rfl ?_
      obtain ⟨n13, hf⟩ := hf
      exact p_X12_lean_L27 a1 a2 post n13 _ _ hf
    · have hf := hf.2 c6
      refine ev_iconst (pc := 19) (v := (-1)) dX12_lean_19 kc_m1 ?_
      exact ev_iret (pc := 20) rfl dX12_lean_20 hf
def f_X12_still_L35 (a1 : Int32) (a2 : Int32) (a3 : Int32) (post : Int32 → St → Prop) : Nat → Int32 → St → Prop
  | 0, _, _ => False
  | n + 1, v4, σ => (a2 ≤ v4 → (vp_in a3 24 ∧ (post (σ.1 10 a3.toNatClampNeg) σ))) ∧ (¬ a2 ≤ v4 → (f_X12_pass 10 24 0 0 a1 σ (fun x15 σ14 => (f_X12_still_L35 a1 a2 a3 post n) (v4 + 1) σ14)))
set_option maxRecDepth 100000 in
set_option maxHeartbeats 4000000 in
theorem p_X12_still_L35 (a1 : Int32) (a2 : Int32) (a3 : Int32) (post : Int32 → St → Prop) : ∀ (n : Nat) (v4 : Int32) (σ : St), f_X12_still_L35 a1 a2 a3 post n v4 σ → Ev SM RX12 cX12_still 5 (some .int) 3 (EQi SM post) 35 [some (.ref 0), some (.int a1), some (.int a2), some (.int a3), some (.int v4)] [] σ := by
  intro n
  induction n with
  | zero =>
    intro v4 σ hf
    exact hf.elim
  | succ n hagain35 =>
    intro v4 σ hf
    rw [f_X12_still_L35] at hf
    refine ev_iload (pc := 35) dX12_still_35 rfl ?_
    refine ev_iload_n (pc := 37) dX12_still_37 rfl (i := 2) rfl ?_
    refine ev_icmp_ge (pc := 38) (tgt := 59) dX12_still_38 (by decide) (fun c12 => ?_) (fun c12 => ?_)
    · have hf := hf.1 c12
      refine ev_aload_n (pc := 59) dX12_still_59 rfl (i := 0) rfl ?_
      refine ev_get (pc := 60) fl_X12_39_12_18 rfl (by decide) rfl rfl dX12_still_60 ?_
      refine ev_iload_n (pc := 63) dX12_still_63 rfl (i := 3) rfl ?_
      obtain ⟨h13, hf⟩ := hf
      refine ev_iald (pc := 64) rfl rfl h13 rfl dX12_still_64 ?_
      exact ev_iret (pc := 65) rfl dX12_still_65 hf
    · have hf := hf.2 c12
      refine ev_aload_n (pc := 41) dX12_still_41 rfl (i := 0) rfl ?_
      refine ev_aload_n (pc := 42) dX12_still_42 rfl (i := 0) rfl ?_
      refine ev_get (pc := 43) fl_X12_39_12_18 rfl (by decide) rfl rfl dX12_still_43 ?_
      refine ev_iconst (pc := 46) (v := 0) dX12_still_46 kc_0 ?_
      refine ev_iconst (pc := 47) (v := 0) dX12_still_47 kc_0 ?_
      refine ev_iload_n (pc := 48) dX12_still_48 rfl (i := 1) rfl ?_
      refine ev_calli (pc := 49) (stk := []) (ce_V (c_X12_pass 10 24 0 0 a1 rfl σ _ hf) wv_X12_159_X12_pass rfl (by decide) rfl (by decide) rfl (Nat.le_of_ble_eq_true rfl) rfl dX12_still_49) (fun x15 σ14 hf => ?_)
      refine ev_pop (pc := 52) dX12_still_52 rfl ?_
      refine ev_iinc (pc := 53) (v := v4 + 1) (L' := [some (.ref 0), some (.int a1), some (.int a2), some (.int a3), some (.int (v4 + 1))]) dX12_still_53 rfl (by rw [kc_1]) (by decide) rfl rfl ?_
      refine ev_goto (pc := 56) (tgt := 35) dX12_still_56 (by decide) ?_
      exact hagain35 _ _ hf
def f_X12_still (a1 : Int32) (a2 : Int32) (a3 : Int32) (σ : St) (post : Int32 → St → Prop) : Prop := f_X12_isShift a1 σ (fun x2 σ1 => (x2 = 0 → (post (-1) σ1)) ∧ (¬ x2 = 0 → (f_X12_in a2 0 60 σ1 (fun x5 σ4 => (x5 = 0 → (post (-1) σ4)) ∧ (¬ x5 = 0 → (f_X12_isMan a3 σ4 (fun x8 σ7 => (¬ x8 = 0 → (f_X12_take σ7 (fun σ10 => ∃ n16 : Nat, f_X12_still_L35 a1 a2 a3 post n16 0 σ10))) ∧ (x8 = 0 → (post (-1) σ7)))))))))
set_option maxRecDepth 100000 in
set_option maxHeartbeats 4000000 in
theorem c_X12_still (a1 : Int32) (a2 : Int32) (a3 : Int32) (σ : St) (post : Int32 → St → Prop) (hf : f_X12_still a1 a2 a3 σ post) : Ct SM yX12_still cX12_still 5 (some .int) 3 (EQi SM post) [.ref 0, .int a1, .int a2, .int a3] σ := by
  rw [f_X12_still] at hf
  refine ct_of (by decide) rfl (Nat.le_of_ble_eq_true rfl) ?_
  show Ev SM RX12 cX12_still 5 (some .int) 3 (EQi SM post) 0 [some (.ref 0), some (.int a1), some (.int a2), some (.int a3), none] [] σ
  refine ev_aload_n (pc := 0) dX12_still_0 rfl (i := 0) rfl ?_
  refine ev_iload_n (pc := 1) dX12_still_1 rfl (i := 1) rfl ?_
  refine ev_calli (pc := 2) (stk := []) (ce_V (c_X12_isShift a1 σ _ hf) wv_X12_150_X12_isShift rfl (by decide) rfl (by decide) rfl (Nat.le_of_ble_eq_true rfl) rfl dX12_still_2) (fun x2 σ1 hf => ?_)
  refine ev_if_eq (pc := 5) (tgt := 26) dX12_still_5 (by decide) (fun c3 => ?_) (fun c3 => ?_)
  · have hf := hf.1 c3
    refine ev_iconst (pc := 26) (v := (-1)) dX12_still_26 kc_m1 ?_
    exact ev_iret (pc := 27) rfl dX12_still_27 hf
  · have hf := hf.2 c3
    refine ev_iload_n (pc := 8) dX12_still_8 rfl (i := 2) rfl ?_
    refine ev_iconst (pc := 9) (v := 0) dX12_still_9 kc_0 ?_
    refine ev_bipush (pc := 10) (v := 60) dX12_still_10 kb_60 ?_
    refine ev_calli (pc := 12) (stk := []) (ce_S (c_X12_in a2 0 60 σ1 _ hf) wt_X12_69_X12_in  (by decide) rfl (Nat.le_of_ble_eq_true rfl) rfl dX12_still_12) (fun x5 σ4 hf => ?_)
    refine ev_if_eq (pc := 15) (tgt := 26) dX12_still_15 (by decide) (fun c6 => ?_) (fun c6 => ?_)
    · have hf := hf.1 c6
      refine ev_iconst (pc := 26) (v := (-1)) dX12_still_26 kc_m1 ?_
      exact ev_iret (pc := 27) rfl dX12_still_27 hf
    · have hf := hf.2 c6
      refine ev_aload_n (pc := 18) dX12_still_18 rfl (i := 0) rfl ?_
      refine ev_iload_n (pc := 19) dX12_still_19 rfl (i := 3) rfl ?_
      refine ev_calli (pc := 20) (stk := []) (ce_V (c_X12_isMan a3 σ4 _ hf) wv_X12_136_X12_isMan rfl (by decide) rfl (by decide) rfl (Nat.le_of_ble_eq_true rfl) rfl dX12_still_20) (fun x8 σ7 hf => ?_)
      refine ev_if_ne (pc := 23) (tgt := 28) dX12_still_23 (by decide) (fun c9 => ?_) (fun c9 => ?_)
      · have hf := hf.1 c9
        refine ev_aload_n (pc := 28) dX12_still_28 rfl (i := 0) rfl ?_
        refine ev_callv (pc := 29) (stk := []) (ce_V (c_X12_take σ7 _ hf) wv_X12_156_X12_take rfl (by decide) rfl (by decide) rfl (Nat.le_of_ble_eq_true rfl) rfl dX12_still_29) (fun σ10 hf => ?_)
        refine ev_iconst (pc := 32) (v := 0) dX12_still_32 kc_0 ?_
        refine ev_istore (pc := 33) (L' := [some (.ref 0), some (.int a1), some (.int a2), some (.int a3), some (.int 0)]) dX12_still_33 (by decide) rfl rfl ?_
        obtain ⟨n16, hf⟩ := hf
        exact p_X12_still_L35 a1 a2 a3 post n16 _ _ hf
      · have hf := hf.2 c9
        refine ev_iconst (pc := 26) (v := (-1)) dX12_still_26 kc_m1 ?_
        exact ev_iret (pc := 27) rfl dX12_still_27 hf
def f_X12_temper_L28 (a1 : Int32) (k78 : Int32 → Int32 → St → Prop) (post : Int32 → St → Prop) : Nat → Int32 → Int32 → Int32 → St → Prop
  | 0, _, _, _, _ => False
  | n + 1, v2, v3, v4, σ => (v3 ≤ v4 → (k78 v2 v3 σ)) ∧ (¬ v3 ≤ v4 → ((¬ ((a1 >>> (v3 &&& 31)) &&& 1) = 1 → ((f_X12_temper_L28 a1 k78 post n) (v2 + 0) v3 (v4 + 1) σ)) ∧ (((a1 >>> (v3 &&& 31)) &&& 1) = 1 → ((¬ ((a1 >>> (v4 &&& 31)) &&& 1) = 1 → ((f_X12_temper_L28 a1 k78 post n) (v2 + 0) v3 (v4 + 1) σ)) ∧ (((a1 >>> (v4 &&& 31)) &&& 1) = 1 → (vp_in ((6 * v3) + v4) 72 ∧ ((f_X12_temper_L28 a1 k78 post n) (v2 + (σ.1 5 (((6 * v3) + v4).toNatClampNeg))) v3 (v4 + 1) σ)))))))
set_option maxRecDepth 100000 in
set_option maxHeartbeats 4000000 in
theorem p_X12_temper_L28 (a1 : Int32) (k78 : Int32 → Int32 → St → Prop) (post : Int32 → St → Prop) (hk78 : ∀ (v2 : Int32) (v3 : Int32) (τ : St), k78 v2 v3 τ → Ev SM RX12 cX12_temper 5 (some .int) 2 (EQi SM post) 78 [some (.ref 0), some (.int a1), some (.int v2), some (.int v3), none] [] τ) : ∀ (n : Nat) (v2 : Int32) (v3 : Int32) (v4 : Int32) (σ : St), f_X12_temper_L28 a1 k78 post n v2 v3 v4 σ → Ev SM RX12 cX12_temper 5 (some .int) 2 (EQi SM post) 28 [some (.ref 0), some (.int a1), some (.int v2), some (.int v3), some (.int v4)] [] σ := by
  intro n
  induction n with
  | zero =>
    intro v2 v3 v4 σ hf
    exact hf.elim
  | succ n hagain28 =>
    intro v2 v3 v4 σ hf
    rw [f_X12_temper_L28] at hf
    refine ev_iload (pc := 28) dX12_temper_28 rfl ?_
    refine ev_iload_n (pc := 30) dX12_temper_30 rfl (i := 3) rfl ?_
    refine ev_icmp_ge (pc := 31) (tgt := 78) dX12_temper_31 (by decide) (fun c5 => ?_) (fun c5 => ?_)
    · have hf := hf.1 c5
      refine ev_mask [true, true, true, true, false] (L' := [some (.ref 0), some (.int a1), some (.int v2), some (.int v3), none]) rfl ?_
      exact hk78 _ _ _ hf
    · have hf := hf.2 c5
      refine ev_iload_n (pc := 34) dX12_temper_34 rfl (i := 2) rfl ?_
      refine ev_iload_n (pc := 35) dX12_temper_35 rfl (i := 1) rfl ?_
      refine ev_iload_n (pc := 36) dX12_temper_36 rfl (i := 3) rfl ?_
      refine ev_ishr (pc := 37) dX12_temper_37 ?_
      refine ev_iconst (pc := 38) (v := 1) dX12_temper_38 kc_1 ?_
      refine ev_iand (pc := 39) dX12_temper_39 ?_
      refine ev_iconst (pc := 40) (v := 1) dX12_temper_40 kc_1 ?_
      refine ev_icmp_ne (pc := 41) (tgt := 69) dX12_temper_41 (by decide) (fun c6 => ?_) (fun c6 => ?_)
      · have hf := hf.1 c6
        refine ev_iconst (pc := 69) (v := 0) dX12_temper_69 kc_0 ?_
        refine ev_iadd (pc := 70) dX12_temper_70 ?_
        refine ev_istore_n (pc := 71) (L' := [some (.ref 0), some (.int a1), some (.int (v2 + 0)), some (.int v3), some (.int v4)]) dX12_temper_71 rfl (by decide) rfl rfl ?_
        refine ev_iinc (pc := 72) (v := v4 + 1) (L' := [some (.ref 0), some (.int a1), some (.int (v2 + 0)), some (.int v3), some (.int (v4 + 1))]) dX12_temper_72 rfl (by rw [kc_1]) (by decide) rfl rfl ?_
        refine ev_goto (pc := 75) (tgt := 28) dX12_temper_75 (by decide) ?_
        exact hagain28 _ _ _ _ hf
      · have hf := hf.2 c6
        refine ev_iload_n (pc := 44) dX12_temper_44 rfl (i := 1) rfl ?_
        refine ev_iload (pc := 45) dX12_temper_45 rfl ?_
        refine ev_ishr (pc := 47) dX12_temper_47 ?_
        refine ev_iconst (pc := 48) (v := 1) dX12_temper_48 kc_1 ?_
        refine ev_iand (pc := 49) dX12_temper_49 ?_
        refine ev_iconst (pc := 50) (v := 1) dX12_temper_50 kc_1 ?_
        refine ev_icmp_ne (pc := 51) (tgt := 69) dX12_temper_51 (by decide) (fun c7 => ?_) (fun c7 => ?_)
        · have hf := hf.1 c7
          refine ev_iconst (pc := 69) (v := 0) dX12_temper_69 kc_0 ?_
          refine ev_iadd (pc := 70) dX12_temper_70 ?_
          refine ev_istore_n (pc := 71) (L' := [some (.ref 0), some (.int a1), some (.int (v2 + 0)), some (.int v3), some (.int v4)]) dX12_temper_71 rfl (by decide) rfl rfl ?_
          refine ev_iinc (pc := 72) (v := v4 + 1) (L' := [some (.ref 0), some (.int a1), some (.int (v2 + 0)), some (.int v3), some (.int (v4 + 1))]) dX12_temper_72 rfl (by rw [kc_1]) (by decide) rfl rfl ?_
          refine ev_goto (pc := 75) (tgt := 28) dX12_temper_75 (by decide) ?_
          exact hagain28 _ _ _ _ hf
        · have hf := hf.2 c7
          refine ev_aload_n (pc := 54) dX12_temper_54 rfl (i := 0) rfl ?_
          refine ev_get (pc := 55) fl_X12_23_12_6 rfl (by decide) rfl rfl dX12_temper_55 ?_
          refine ev_bipush (pc := 58) (v := 6) dX12_temper_58 kb_6 ?_
          refine ev_iload_n (pc := 60) dX12_temper_60 rfl (i := 3) rfl ?_
          refine ev_imul (pc := 61) dX12_temper_61 ?_
          refine ev_iload (pc := 62) dX12_temper_62 rfl ?_
          refine ev_iadd (pc := 64) dX12_temper_64 ?_
          obtain ⟨h8, hf⟩ := hf
          refine ev_iald (pc := 65) rfl rfl h8 rfl dX12_temper_65 ?_
          refine ev_goto (pc := 66) (tgt := 70) dX12_temper_66 (by decide) ?_
          refine ev_iadd (pc := 70) dX12_temper_70 ?_
          refine ev_istore_n (pc := 71) (L' := [some (.ref 0), some (.int a1), some (.int (v2 + (σ.1 5 (((6 * v3) + v4).toNatClampNeg)))), some (.int v3), some (.int v4)]) dX12_temper_71 rfl (by decide) rfl rfl ?_
          refine ev_iinc (pc := 72) (v := v4 + 1) (L' := [some (.ref 0), some (.int a1), some (.int (v2 + (σ.1 5 (((6 * v3) + v4).toNatClampNeg)))), some (.int v3), some (.int (v4 + 1))]) dX12_temper_72 rfl (by rw [kc_1]) (by decide) rfl rfl ?_
          refine ev_goto (pc := 75) (tgt := 28) dX12_temper_75 (by decide) ?_
          exact hagain28 _ _ _ _ hf
def f_X12_temper_L15 (a1 : Int32) (post : Int32 → St → Prop) : Nat → Int32 → Int32 → St → Prop
  | 0, _, _, _ => False
  | n + 1, v2, v3, σ => ((σ.1 2 0) ≤ v3 → (post v2 σ)) ∧ (¬ (σ.1 2 0) ≤ v3 → (∃ n12 : Nat, f_X12_temper_L28 a1 (fun x10 x11 σ9 => (f_X12_temper_L15 a1 post n) x10 (x11 + 1) σ9) post n12 v2 v3 0 σ))
set_option maxRecDepth 100000 in
set_option maxHeartbeats 4000000 in
theorem p_X12_temper_L15 (a1 : Int32) (post : Int32 → St → Prop) : ∀ (n : Nat) (v2 : Int32) (v3 : Int32) (σ : St), f_X12_temper_L15 a1 post n v2 v3 σ → Ev SM RX12 cX12_temper 5 (some .int) 2 (EQi SM post) 15 [some (.ref 0), some (.int a1), some (.int v2), some (.int v3), none] [] σ := by
  intro n
  induction n with
  | zero =>
    intro v2 v3 σ hf
    exact hf.elim
  | succ n hagain15 =>
    intro v2 v3 σ hf
    rw [f_X12_temper_L15] at hf
    refine ev_iload_n (pc := 15) dX12_temper_15 rfl (i := 3) rfl ?_
    refine ev_aload_n (pc := 16) dX12_temper_16 rfl (i := 0) rfl ?_
    refine ev_get (pc := 17) fl_X12_13_12_3 rfl (by decide) rfl rfl dX12_temper_17 ?_
    refine ev_iconst (pc := 20) (v := 0) dX12_temper_20 kc_0 ?_
    refine ev_iald (pc := 21) rfl rfl ki_0_2 kn_0 dX12_temper_21 ?_
    refine ev_icmp_ge (pc := 22) (tgt := 84) dX12_temper_22 (by decide) (fun c4 => ?_) (fun c4 => ?_)
    · have hf := hf.1 c4
      refine ev_iload_n (pc := 84) dX12_temper_84 rfl (i := 2) rfl ?_
      exact ev_iret (pc := 85) rfl dX12_temper_85 hf
    · have hf := hf.2 c4
      refine ev_iconst (pc := 25) (v := 0) dX12_temper_25 kc_0 ?_
      refine ev_istore (pc := 26) (L' := [some (.ref 0), some (.int a1), some (.int v2), some (.int v3), some (.int 0)]) dX12_temper_26 (by decide) rfl rfl ?_
      obtain ⟨n12, hf⟩ := hf
      exact p_X12_temper_L28 a1 _ post (fun x10 x11 σ9 hf => by
        refine ev_iinc (pc := 78) (v := x11 + 1) (L' := [some (.ref 0), some (.int a1), some (.int x10), some (.int (x11 + 1)), none]) dX12_temper_78 rfl (by rw [kc_1]) (by decide) rfl rfl ?_
        refine ev_goto (pc := 81) (tgt := 15) dX12_temper_81 (by decide) ?_
        exact hagain15 _ _ _ hf) n12 _ _ _ _ hf
def f_X12_temper (a1 : Int32) (σ : St) (post : Int32 → St → Prop) : Prop := f_X12_isShift a1 σ (fun x2 σ1 => (¬ x2 = 0 → (∃ n13 : Nat, f_X12_temper_L15 a1 post n13 0 0 σ1)) ∧ (x2 = 0 → (post (-1000000) σ1)))
set_option maxRecDepth 100000 in
set_option maxHeartbeats 4000000 in
theorem c_X12_temper (a1 : Int32) (σ : St) (post : Int32 → St → Prop) (hf : f_X12_temper a1 σ post) : Ct SM yX12_temper cX12_temper 5 (some .int) 2 (EQi SM post) [.ref 0, .int a1] σ := by
  rw [f_X12_temper] at hf
  refine ct_of (by decide) rfl (Nat.le_of_ble_eq_true rfl) ?_
  show Ev SM RX12 cX12_temper 5 (some .int) 2 (EQi SM post) 0 [some (.ref 0), some (.int a1), none, none, none] [] σ
  refine ev_aload_n (pc := 0) dX12_temper_0 rfl (i := 0) rfl ?_
  refine ev_iload_n (pc := 1) dX12_temper_1 rfl (i := 1) rfl ?_
  refine ev_calli (pc := 2) (stk := []) (ce_V (c_X12_isShift a1 σ _ hf) wv_X12_150_X12_isShift rfl (by decide) rfl (by decide) rfl (Nat.le_of_ble_eq_true rfl) rfl dX12_temper_2) (fun x2 σ1 hf => ?_)
  refine ev_if_ne (pc := 5) (tgt := 11) dX12_temper_5 (by decide) (fun c3 => ?_) (fun c3 => ?_)
  · have hf := hf.1 c3
    refine ev_iconst (pc := 11) (v := 0) dX12_temper_11 kc_0 ?_
    refine ev_istore_n (pc := 12) (L' := [some (.ref 0), some (.int a1), some (.int 0), none, none]) dX12_temper_12 rfl (by decide) rfl rfl ?_
    refine ev_iconst (pc := 13) (v := 0) dX12_temper_13 kc_0 ?_
    refine ev_istore_n (pc := 14) (L' := [some (.ref 0), some (.int a1), some (.int 0), some (.int 0), none]) dX12_temper_14 rfl (by decide) rfl rfl ?_
    obtain ⟨n13, hf⟩ := hf
    exact p_X12_temper_L15 a1 post n13 _ _ _ hf
  · have hf := hf.2 c3
    refine ev_ldc (pc := 8) wk_X12_139 dX12_temper_8 ?_
    exact ev_iret (pc := 10) rfl dX12_temper_10 hf
def f_X12_worth_L11 (a1 : Int32) (k38 : St → Prop) (post : Int32 → St → Prop) : Nat → Int32 → Int32 → St → Prop
  | 0, _, _, _ => False
  | n + 1, v2, v3, σ => (v3 < 0 → (k38 σ)) ∧ (¬ v3 < 0 → (vp_in v3 6 ∧ ((f_X12_worth_L11 a1 k38 post n) (v2 / 7) (v3 + (-1)) (st_up σ 13 v3.toNatClampNeg ((v2 - v2 / 7 * 7) - 1)))))
set_option maxRecDepth 100000 in
set_option maxHeartbeats 4000000 in
theorem p_X12_worth_L11 (a1 : Int32) (k38 : St → Prop) (post : Int32 → St → Prop) (hk38 : ∀ (τ : St), k38 τ → Ev SM RX12 cX12_worth 6 (some .int) 0 (EQi SM post) 38 [some (.ref 0), some (.int a1), none, none, none, none] [] τ) : ∀ (n : Nat) (v2 : Int32) (v3 : Int32) (σ : St), f_X12_worth_L11 a1 k38 post n v2 v3 σ → Ev SM RX12 cX12_worth 6 (some .int) 0 (EQi SM post) 11 [some (.ref 0), some (.int a1), some (.int v2), some (.int v3), none, none] [] σ := by
  intro n
  induction n with
  | zero =>
    intro v2 v3 σ hf
    exact hf.elim
  | succ n hagain11 =>
    intro v2 v3 σ hf
    rw [f_X12_worth_L11] at hf
    refine ev_iload_n (pc := 11) dX12_worth_11 rfl (i := 3) rfl ?_
    refine ev_if_lt (pc := 12) (tgt := 38) dX12_worth_12 (by decide) (fun c1 => ?_) (fun c1 => ?_)
    · have hf := hf.1 c1
      refine ev_mask [true, true, false, false, false, false] (L' := [some (.ref 0), some (.int a1), none, none, none, none]) rfl ?_
      exact hk38 _ hf
    · have hf := hf.2 c1
      refine ev_aload_n (pc := 15) dX12_worth_15 rfl (i := 0) rfl ?_
      refine ev_get (pc := 16) fl_X12_48_12_21 rfl (by decide) rfl rfl dX12_worth_16 ?_
      refine ev_iload_n (pc := 19) dX12_worth_19 rfl (i := 3) rfl ?_
      refine ev_iload_n (pc := 20) dX12_worth_20 rfl (i := 2) rfl ?_
      refine ev_bipush (pc := 21) (v := 7) dX12_worth_21 kb_7 ?_
      refine ev_irem (pc := 23) dX12_worth_23 (by decide) ?_
      refine ev_iconst (pc := 24) (v := 1) dX12_worth_24 kc_1 ?_
      refine ev_isub (pc := 25) dX12_worth_25 ?_
      obtain ⟨h2, hf⟩ := hf
      refine ev_iast (pc := 26) rfl rfl h2 rfl dX12_worth_26 ?_
      refine ev_iload_n (pc := 27) dX12_worth_27 rfl (i := 2) rfl ?_
      refine ev_bipush (pc := 28) (v := 7) dX12_worth_28 kb_7 ?_
      refine ev_idiv (pc := 30) dX12_worth_30 (by decide) ?_
      refine ev_istore_n (pc := 31) (L' := [some (.ref 0), some (.int a1), some (.int (v2 / 7)), some (.int v3), none, none]) dX12_worth_31 rfl (by decide) rfl rfl ?_
      refine ev_iinc (pc := 32) (v := v3 + (-1)) (L' := [some (.ref 0), some (.int a1), some (.int (v2 / 7)), some (.int (v3 + (-1))), none, none]) dX12_worth_32 rfl (by rw [kc_m1]) (by decide) rfl rfl ?_
      refine ev_goto (pc := 35) (tgt := 11) dX12_worth_35 (by decide) ?_
      exact hagain11 _ _ _ hf
def f_X12_worth_J101_43 (a1 : Int32) (again43 : Int32 → Int32 → St → Prop) (post : Int32 → St → Prop) (v3 : Int32) (v4 : Int32) (v5 : Int32) (σ : St) : Prop := (v5 ≤ v4 → (again43 (v3 + 0) (v4 + 1) σ)) ∧ (¬ v5 ≤ v4 → (vp_in ((6 * v4) + v5) 72 ∧ (again43 (v3 + (σ.1 5 (((6 * v4) + v5).toNatClampNeg))) (v4 + 1) σ)))
set_option maxRecDepth 100000 in
set_option maxHeartbeats 4000000 in
theorem p_X12_worth_J101_43 (a1 : Int32) (again43 : Int32 → Int32 → St → Prop) (post : Int32 → St → Prop) (hagain43 : ∀ (v3 : Int32) (v4 : Int32) (τ : St), again43 v3 v4 τ → Ev SM RX12 cX12_worth 6 (some .int) 0 (EQi SM post) 43 [some (.ref 0), some (.int a1), none, some (.int v3), some (.int v4), none] [] τ) (v3 : Int32) (v4 : Int32) (v5 : Int32) (σ : St) (hf : f_X12_worth_J101_43 a1 again43 post v3 v4 v5 σ) : Ev SM RX12 cX12_worth 6 (some .int) 0 (EQi SM post) 101 [some (.ref 0), some (.int a1), none, some (.int v3), some (.int v4), some (.int v5)] [] σ := by
  rw [f_X12_worth_J101_43] at hf
  refine ev_iload_n (pc := 101) dX12_worth_101 rfl (i := 3) rfl ?_
  refine ev_iload (pc := 102) dX12_worth_102 rfl ?_
  refine ev_iload (pc := 104) dX12_worth_104 rfl ?_
  refine ev_icmp_le (pc := 106) (tgt := 125) dX12_worth_106 (by decide) (fun c9 => ?_) (fun c9 => ?_)
  · have hf := hf.1 c9
    refine ev_iconst (pc := 125) (v := 0) dX12_worth_125 kc_0 ?_
    refine ev_iadd (pc := 126) dX12_worth_126 ?_
    refine ev_istore_n (pc := 127) (L' := [some (.ref 0), some (.int a1), none, some (.int (v3 + 0)), some (.int v4), some (.int v5)]) dX12_worth_127 rfl (by decide) rfl rfl ?_
    refine ev_iinc (pc := 128) (v := v4 + 1) (L' := [some (.ref 0), some (.int a1), none, some (.int (v3 + 0)), some (.int (v4 + 1)), some (.int v5)]) dX12_worth_128 rfl (by rw [kc_1]) (by decide) rfl rfl ?_
    refine ev_goto (pc := 131) (tgt := 43) dX12_worth_131 (by decide) ?_
    refine ev_mask [true, true, false, true, true, false] (L' := [some (.ref 0), some (.int a1), none, some (.int (v3 + 0)), some (.int (v4 + 1)), none]) rfl ?_
    exact hagain43 _ _ _ hf
  · have hf := hf.2 c9
    refine ev_aload_n (pc := 109) dX12_worth_109 rfl (i := 0) rfl ?_
    refine ev_get (pc := 110) fl_X12_23_12_6 rfl (by decide) rfl rfl dX12_worth_110 ?_
    refine ev_bipush (pc := 113) (v := 6) dX12_worth_113 kb_6 ?_
    refine ev_iload (pc := 115) dX12_worth_115 rfl ?_
    refine ev_imul (pc := 117) dX12_worth_117 ?_
    refine ev_iload (pc := 118) dX12_worth_118 rfl ?_
    refine ev_iadd (pc := 120) dX12_worth_120 ?_
    obtain ⟨h10, hf⟩ := hf
    refine ev_iald (pc := 121) rfl rfl h10 rfl dX12_worth_121 ?_
    refine ev_goto (pc := 122) (tgt := 126) dX12_worth_122 (by decide) ?_
    refine ev_iadd (pc := 126) dX12_worth_126 ?_
    refine ev_istore_n (pc := 127) (L' := [some (.ref 0), some (.int a1), none, some (.int (v3 + (σ.1 5 (((6 * v4) + v5).toNatClampNeg)))), some (.int v4), some (.int v5)]) dX12_worth_127 rfl (by decide) rfl rfl ?_
    refine ev_iinc (pc := 128) (v := v4 + 1) (L' := [some (.ref 0), some (.int a1), none, some (.int (v3 + (σ.1 5 (((6 * v4) + v5).toNatClampNeg)))), some (.int (v4 + 1)), some (.int v5)]) dX12_worth_128 rfl (by rw [kc_1]) (by decide) rfl rfl ?_
    refine ev_goto (pc := 131) (tgt := 43) dX12_worth_131 (by decide) ?_
    refine ev_mask [true, true, false, true, true, false] (L' := [some (.ref 0), some (.int a1), none, some (.int (v3 + (σ.1 5 (((6 * v4) + v5).toNatClampNeg)))), some (.int (v4 + 1)), none]) rfl ?_
    exact hagain43 _ _ _ hf
def f_X12_worth_L43 (a1 : Int32) (post : Int32 → St → Prop) : Nat → Int32 → Int32 → St → Prop
  | 0, _, _, _ => False
  | n + 1, v3, v4, σ => ((σ.1 2 0) ≤ v4 → (post v3 σ)) ∧ (¬ (σ.1 2 0) ≤ v4 → (vp_in v4 6 ∧ (((σ.1 2 0) ≤ (σ.1 13 v4.toNatClampNeg) → (post (-1000000) σ)) ∧ (¬ (σ.1 2 0) ≤ (σ.1 13 v4.toNatClampNeg) → (((σ.1 13 v4.toNatClampNeg) = v4 → (post (-1000000) σ)) ∧ (¬ (σ.1 13 v4.toNatClampNeg) = v4 → (((σ.1 13 v4.toNatClampNeg) < 0 → (f_X12_worth_J101_43 a1 (f_X12_worth_L43 a1 post n) post v3 v4 (σ.1 13 v4.toNatClampNeg) σ)) ∧ (¬ (σ.1 13 v4.toNatClampNeg) < 0 → (vp_in (σ.1 13 v4.toNatClampNeg) 6 ∧ (((σ.1 13 ((σ.1 13 v4.toNatClampNeg).toNatClampNeg)) = v4 → (f_X12_worth_J101_43 a1 (f_X12_worth_L43 a1 post n) post v3 v4 (σ.1 13 v4.toNatClampNeg) σ)) ∧ (¬ (σ.1 13 ((σ.1 13 v4.toNatClampNeg).toNatClampNeg)) = v4 → (post (-1000000) σ))))))))))))
set_option maxRecDepth 100000 in
set_option maxHeartbeats 4000000 in
theorem p_X12_worth_L43 (a1 : Int32) (post : Int32 → St → Prop) : ∀ (n : Nat) (v3 : Int32) (v4 : Int32) (σ : St), f_X12_worth_L43 a1 post n v3 v4 σ → Ev SM RX12 cX12_worth 6 (some .int) 0 (EQi SM post) 43 [some (.ref 0), some (.int a1), none, some (.int v3), some (.int v4), none] [] σ := by
  intro n
  induction n with
  | zero =>
    intro v3 v4 σ hf
    exact hf.elim
  | succ n hagain43 =>
    intro v3 v4 σ hf
    rw [f_X12_worth_L43] at hf
    refine ev_iload (pc := 43) dX12_worth_43 rfl ?_
    refine ev_aload_n (pc := 45) dX12_worth_45 rfl (i := 0) rfl ?_
    refine ev_get (pc := 46) fl_X12_13_12_3 rfl (by decide) rfl rfl dX12_worth_46 ?_
    refine ev_iconst (pc := 49) (v := 0) dX12_worth_49 kc_0 ?_
    refine ev_iald (pc := 50) rfl rfl ki_0_2 kn_0 dX12_worth_50 ?_
    refine ev_icmp_ge (pc := 51) (tgt := 134) dX12_worth_51 (by decide) (fun c4 => ?_) (fun c4 => ?_)
    · have hf := hf.1 c4
      refine ev_iload_n (pc := 134) dX12_worth_134 rfl (i := 3) rfl ?_
      exact ev_iret (pc := 135) rfl dX12_worth_135 hf
    · have hf := hf.2 c4
      refine ev_aload_n (pc := 54) dX12_worth_54 rfl (i := 0) rfl ?_
      refine ev_get (pc := 55) fl_X12_48_12_21 rfl (by decide) rfl rfl dX12_worth_55 ?_
      refine ev_iload (pc := 58) dX12_worth_58 rfl ?_
      obtain ⟨h5, hf⟩ := hf
      refine ev_iald (pc := 60) rfl rfl h5 rfl dX12_worth_60 ?_
      refine ev_istore (pc := 61) (L' := [some (.ref 0), some (.int a1), none, some (.int v3), some (.int v4), some (.int (σ.1 13 v4.toNatClampNeg))]) dX12_worth_61 (by decide) rfl rfl ?_
      refine ev_iload (pc := 63) dX12_worth_63 rfl ?_
      refine ev_aload_n (pc := 65) dX12_worth_65 rfl (i := 0) rfl ?_
      refine ev_get (pc := 66) fl_X12_13_12_3 rfl (by decide) rfl rfl dX12_worth_66 ?_
      refine ev_iconst (pc := 69) (v := 0) dX12_worth_69 kc_0 ?_
      refine ev_iald (pc := 70) rfl rfl ki_0_2 kn_0 dX12_worth_70 ?_
      refine ev_icmp_ge (pc := 71) (tgt := 98) dX12_worth_71 (by decide) (fun c6 => ?_) (fun c6 => ?_)
      · have hf := hf.1 c6
        refine ev_ldc (pc := 98) wk_X12_139 dX12_worth_98 ?_
        exact ev_iret (pc := 100) rfl dX12_worth_100 hf
      · have hf := hf.2 c6
        refine ev_iload (pc := 74) dX12_worth_74 rfl ?_
        refine ev_iload (pc := 76) dX12_worth_76 rfl ?_
        refine ev_icmp_eq (pc := 78) (tgt := 98) dX12_worth_78 (by decide) (fun c7 => ?_) (fun c7 => ?_)
        · have hf := hf.1 c7
          refine ev_ldc (pc := 98) wk_X12_139 dX12_worth_98 ?_
          exact ev_iret (pc := 100) rfl dX12_worth_100 hf
        · have hf := hf.2 c7
          refine ev_iload (pc := 81) dX12_worth_81 rfl ?_
          refine ev_if_lt (pc := 83) (tgt := 101) dX12_worth_83 (by decide) (fun c8 => ?_) (fun c8 => ?_)
          · have hf := hf.1 c8
            exact p_X12_worth_J101_43 a1 (f_X12_worth_L43 a1 post n) post hagain43 _ _ _ _ hf
          · have hf := hf.2 c8
            refine ev_aload_n (pc := 86) dX12_worth_86 rfl (i := 0) rfl ?_
            refine ev_get (pc := 87) fl_X12_48_12_21 rfl (by decide) rfl rfl dX12_worth_87 ?_
            refine ev_iload (pc := 90) dX12_worth_90 rfl ?_
            obtain ⟨h11, hf⟩ := hf
            refine ev_iald (pc := 92) rfl rfl h11 rfl dX12_worth_92 ?_
            refine ev_iload (pc := 93) dX12_worth_93 rfl ?_
            refine ev_icmp_eq (pc := 95) (tgt := 101) dX12_worth_95 (by decide) (fun c12 => ?_) (fun c12 => ?_)
            · have hf := hf.1 c12
              exact p_X12_worth_J101_43 a1 (f_X12_worth_L43 a1 post n) post hagain43 _ _ _ _ hf
            · have hf := hf.2 c12
              refine ev_ldc (pc := 98) wk_X12_139 dX12_worth_98 ?_
              exact ev_iret (pc := 100) rfl dX12_worth_100 hf
def f_X12_worth (a1 : Int32) (σ : St) (post : Int32 → St → Prop) : Prop := ∃ n14 : Nat, f_X12_worth_L11 a1 (fun σ3 => ∃ n13 : Nat, f_X12_worth_L43 a1 post n13 0 0 σ3) post n14 a1 ((σ.1 2 0) - 1) σ
set_option maxRecDepth 100000 in
set_option maxHeartbeats 4000000 in
theorem c_X12_worth (a1 : Int32) (σ : St) (post : Int32 → St → Prop) (hf : f_X12_worth a1 σ post) : Ct SM yX12_worth cX12_worth 6 (some .int) 0 (EQi SM post) [.ref 0, .int a1] σ := by
  rw [f_X12_worth] at hf
  refine ct_of (by decide) rfl (Nat.le_of_ble_eq_true rfl) ?_
  show Ev SM RX12 cX12_worth 6 (some .int) 0 (EQi SM post) 0 [some (.ref 0), some (.int a1), none, none, none, none] [] σ
  refine ev_iload_n (pc := 0) dX12_worth_0 rfl (i := 1) rfl ?_
  refine ev_istore_n (pc := 1) (L' := [some (.ref 0), some (.int a1), some (.int a1), none, none, none]) dX12_worth_1 rfl (by decide) rfl rfl ?_
  refine ev_aload_n (pc := 2) dX12_worth_2 rfl (i := 0) rfl ?_
  refine ev_get (pc := 3) fl_X12_13_12_3 rfl (by decide) rfl rfl dX12_worth_3 ?_
  refine ev_iconst (pc := 6) (v := 0) dX12_worth_6 kc_0 ?_
  refine ev_iald (pc := 7) rfl rfl ki_0_2 kn_0 dX12_worth_7 ?_
  refine ev_iconst (pc := 8) (v := 1) dX12_worth_8 kc_1 ?_
  refine ev_isub (pc := 9) dX12_worth_9 ?_
  refine ev_istore_n (pc := 10) (L' := [some (.ref 0), some (.int a1), some (.int a1), some (.int ((σ.1 2 0) - 1)), none, none]) dX12_worth_10 rfl (by decide) rfl rfl ?_
  obtain ⟨n14, hf⟩ := hf
  exact p_X12_worth_L11 a1 _ post (fun σ3 hf => by
    refine ev_iconst (pc := 38) (v := 0) dX12_worth_38 kc_0 ?_
    refine ev_istore_n (pc := 39) (L' := [some (.ref 0), some (.int a1), none, some (.int 0), none, none]) dX12_worth_39 rfl (by decide) rfl rfl ?_
    refine ev_iconst (pc := 40) (v := 0) dX12_worth_40 kc_0 ?_
    refine ev_istore (pc := 41) (L' := [some (.ref 0), some (.int a1), none, some (.int 0), some (.int 0), none]) dX12_worth_41 (by decide) rfl rfl ?_
    obtain ⟨n13, hf⟩ := hf
    exact p_X12_worth_L43 a1 post n13 _ _ _ hf) n14 _ _ _ hf
def f_X12_mates_L20 (a1 : Int32) (k41 : Int32 → St → Prop) (post : Int32 → St → Prop) : Nat → Int32 → Int32 → St → Prop
  | 0, _, _, _ => False
  | n + 1, v2, v3, σ => ((σ.1 2 0) ≤ v3 → (k41 v2 σ)) ∧ (¬ (σ.1 2 0) ≤ v3 → ((f_X12_mates_L20 a1 k41 post n) (v2 * 7) (v3 + 1) σ))
set_option maxRecDepth 100000 in
set_option maxHeartbeats 4000000 in
theorem p_X12_mates_L20 (a1 : Int32) (k41 : Int32 → St → Prop) (post : Int32 → St → Prop) (hk41 : ∀ (v2 : Int32) (τ : St), k41 v2 τ → Ev SM RX12 cX12_mates 7 (some .int) 2 (EQi SM post) 41 [some (.ref 0), some (.int a1), some (.int v2), none, none, none, none] [] τ) : ∀ (n : Nat) (v2 : Int32) (v3 : Int32) (σ : St), f_X12_mates_L20 a1 k41 post n v2 v3 σ → Ev SM RX12 cX12_mates 7 (some .int) 2 (EQi SM post) 20 [some (.ref 0), some (.int a1), some (.int v2), some (.int v3), none, none, none] [] σ := by
  intro n
  induction n with
  | zero =>
    intro v2 v3 σ hf
    exact hf.elim
  | succ n hagain20 =>
    intro v2 v3 σ hf
    rw [f_X12_mates_L20] at hf
    refine ev_iload_n (pc := 20) dX12_mates_20 rfl (i := 3) rfl ?_
    refine ev_aload_n (pc := 21) dX12_mates_21 rfl (i := 0) rfl ?_
    refine ev_get (pc := 22) fl_X12_13_12_3 rfl (by decide) rfl rfl dX12_mates_22 ?_
    refine ev_iconst (pc := 25) (v := 0) dX12_mates_25 kc_0 ?_
    refine ev_iald (pc := 26) rfl rfl ki_0_2 kn_0 dX12_mates_26 ?_
    refine ev_icmp_ge (pc := 27) (tgt := 41) dX12_mates_27 (by decide) (fun c2 => ?_) (fun c2 => ?_)
    · have hf := hf.1 c2
      refine ev_mask [true, true, true, false, false, false, false] (L' := [some (.ref 0), some (.int a1), some (.int v2), none, none, none, none]) rfl ?_
      exact hk41 _ _ hf
    · have hf := hf.2 c2
      refine ev_iload_n (pc := 30) dX12_mates_30 rfl (i := 2) rfl ?_
      refine ev_bipush (pc := 31) (v := 7) dX12_mates_31 kb_7 ?_
      refine ev_imul (pc := 33) dX12_mates_33 ?_
      refine ev_istore_n (pc := 34) (L' := [some (.ref 0), some (.int a1), some (.int (v2 * 7)), some (.int v3), none, none, none]) dX12_mates_34 rfl (by decide) rfl rfl ?_
      refine ev_iinc (pc := 35) (v := v3 + 1) (L' := [some (.ref 0), some (.int a1), some (.int (v2 * 7)), some (.int (v3 + 1)), none, none, none]) dX12_mates_35 rfl (by rw [kc_1]) (by decide) rfl rfl ?_
      refine ev_goto (pc := 38) (tgt := 20) dX12_mates_38 (by decide) ?_
      exact hagain20 _ _ _ hf
def f_X12_mates_L49 (a1 : Int32) (k83 : Int32 → St → Prop) (post : Int32 → St → Prop) : Nat → Int32 → Int32 → Int32 → Int32 → St → Prop
  | 0, _, _, _, _, _ => False
  | n + 1, v2, v3, v4, v5, σ => (v2 ≤ v5 → (k83 v3 σ)) ∧ (¬ v2 ≤ v5 → (f_X12_worth v5 σ (fun x7 σ6 => (x7 ≤ v4 → ((f_X12_mates_L49 a1 k83 post n) v2 v3 v4 (v5 + 1) σ6)) ∧ (¬ x7 ≤ v4 → ((f_X12_mates_L49 a1 k83 post n) v2 v5 x7 (v5 + 1) σ6)))))
set_option maxRecDepth 100000 in
set_option maxHeartbeats 4000000 in
theorem p_X12_mates_L49 (a1 : Int32) (k83 : Int32 → St → Prop) (post : Int32 → St → Prop) (hk83 : ∀ (v3 : Int32) (τ : St), k83 v3 τ → Ev SM RX12 cX12_mates 7 (some .int) 2 (EQi SM post) 83 [some (.ref 0), some (.int a1), none, some (.int v3), none, none, none] [] τ) : ∀ (n : Nat) (v2 : Int32) (v3 : Int32) (v4 : Int32) (v5 : Int32) (σ : St), f_X12_mates_L49 a1 k83 post n v2 v3 v4 v5 σ → Ev SM RX12 cX12_mates 7 (some .int) 2 (EQi SM post) 49 [some (.ref 0), some (.int a1), some (.int v2), some (.int v3), some (.int v4), some (.int v5), none] [] σ := by
  intro n
  induction n with
  | zero =>
    intro v2 v3 v4 v5 σ hf
    exact hf.elim
  | succ n hagain49 =>
    intro v2 v3 v4 v5 σ hf
    rw [f_X12_mates_L49] at hf
    refine ev_iload (pc := 49) dX12_mates_49 rfl ?_
    refine ev_iload_n (pc := 51) dX12_mates_51 rfl (i := 2) rfl ?_
    refine ev_icmp_ge (pc := 52) (tgt := 83) dX12_mates_52 (by decide) (fun c5 => ?_) (fun c5 => ?_)
    · have hf := hf.1 c5
      refine ev_mask [true, true, false, true, false, false, false] (L' := [some (.ref 0), some (.int a1), none, some (.int v3), none, none, none]) rfl ?_
      exact hk83 _ _ hf
    · have hf := hf.2 c5
      refine ev_aload_n (pc := 55) dX12_mates_55 rfl (i := 0) rfl ?_
      refine ev_iload (pc := 56) dX12_mates_56 rfl ?_
      refine ev_calli (pc := 58) (stk := []) (ce_V (c_X12_worth v5 σ _ hf) wv_X12_170_X12_worth rfl (by decide) rfl (by decide) rfl (Nat.le_of_ble_eq_true rfl) rfl dX12_mates_58) (fun x7 σ6 hf => ?_)
      refine ev_istore (pc := 61) (L' := [some (.ref 0), some (.int a1), some (.int v2), some (.int v3), some (.int v4), some (.int v5), some (.int x7)]) dX12_mates_61 (by decide) rfl rfl ?_
      refine ev_iload (pc := 63) dX12_mates_63 rfl ?_
      refine ev_iload (pc := 65) dX12_mates_65 rfl ?_
      refine ev_icmp_le (pc := 67) (tgt := 77) dX12_mates_67 (by decide) (fun c8 => ?_) (fun c8 => ?_)
      · have hf := hf.1 c8
        refine ev_iinc (pc := 77) (v := v5 + 1) (L' := [some (.ref 0), some (.int a1), some (.int v2), some (.int v3), some (.int v4), some (.int (v5 + 1)), some (.int x7)]) dX12_mates_77 rfl (by rw [kc_1]) (by decide) rfl rfl ?_
        refine ev_goto (pc := 80) (tgt := 49) dX12_mates_80 (by decide) ?_
        refine ev_mask [true, true, true, true, true, true, false] (L' := [some (.ref 0), some (.int a1), some (.int v2), some (.int v3), some (.int v4), some (.int (v5 + 1)), none]) rfl ?_
        exact hagain49 _ _ _ _ _ hf
      · have hf := hf.2 c8
        refine ev_iload (pc := 70) dX12_mates_70 rfl ?_
        refine ev_istore_n (pc := 72) (L' := [some (.ref 0), some (.int a1), some (.int v2), some (.int v5), some (.int v4), some (.int v5), some (.int x7)]) dX12_mates_72 rfl (by decide) rfl rfl ?_
        refine ev_iload (pc := 73) dX12_mates_73 rfl ?_
        refine ev_istore (pc := 75) (L' := [some (.ref 0), some (.int a1), some (.int v2), some (.int v5), some (.int x7), some (.int v5), some (.int x7)]) dX12_mates_75 (by decide) rfl rfl ?_
        refine ev_iinc (pc := 77) (v := v5 + 1) (L' := [some (.ref 0), some (.int a1), some (.int v2), some (.int v5), some (.int x7), some (.int (v5 + 1)), some (.int x7)]) dX12_mates_77 rfl (by rw [kc_1]) (by decide) rfl rfl ?_
        refine ev_goto (pc := 80) (tgt := 49) dX12_mates_80 (by decide) ?_
        refine ev_mask [true, true, true, true, true, true, false] (L' := [some (.ref 0), some (.int a1), some (.int v2), some (.int v5), some (.int x7), some (.int (v5 + 1)), none]) rfl ?_
        exact hagain49 _ _ _ _ _ hf
def f_X12_mates (a1 : Int32) (σ : St) (post : Int32 → St → Prop) : Prop := (a1 = (-1) → (∃ n18 : Nat, f_X12_mates_L20 a1 (fun x4 σ3 => ∃ n17 : Nat, f_X12_mates_L49 a1 (fun x10 σ9 => f_X12_worth x10 σ9 (fun x12 σ11 => (¬ a1 = (-1) → (vp_in a1 6 ∧ ((0 ≤ (σ11.1 13 a1.toNatClampNeg) → (vp_in a1 6 ∧ (post (σ11.1 13 a1.toNatClampNeg) σ11))) ∧ (¬ 0 ≤ (σ11.1 13 a1.toNatClampNeg) → (post (-9) σ11))))) ∧ (a1 = (-1) → (post x12 σ11)))) post n17 x4 0 0 0 σ3) post n18 1 0 σ)) ∧ (¬ a1 = (-1) → (f_X12_isMan a1 σ (fun x20 σ19 => (¬ x20 = 0 → (∃ n33 : Nat, f_X12_mates_L20 a1 (fun x23 σ22 => ∃ n32 : Nat, f_X12_mates_L49 a1 (fun x25 σ24 => f_X12_worth x25 σ24 (fun x27 σ26 => (¬ a1 = (-1) → (vp_in a1 6 ∧ ((0 ≤ (σ26.1 13 a1.toNatClampNeg) → (vp_in a1 6 ∧ (post (σ26.1 13 a1.toNatClampNeg) σ26))) ∧ (¬ 0 ≤ (σ26.1 13 a1.toNatClampNeg) → (post (-9) σ26))))) ∧ (a1 = (-1) → (post x27 σ26)))) post n32 x23 0 0 0 σ22) post n33 1 0 σ19)) ∧ (x20 = 0 → (post (-1000000) σ19)))))
set_option maxRecDepth 100000 in
set_option maxHeartbeats 4000000 in
theorem c_X12_mates (a1 : Int32) (σ : St) (post : Int32 → St → Prop) (hf : f_X12_mates a1 σ post) : Ct SM yX12_mates cX12_mates 7 (some .int) 2 (EQi SM post) [.ref 0, .int a1] σ := by
  rw [f_X12_mates] at hf
  refine ct_of (by decide) rfl (Nat.le_of_ble_eq_true rfl) ?_
  show Ev SM RX12 cX12_mates 7 (some .int) 2 (EQi SM post) 0 [some (.ref 0), some (.int a1), none, none, none, none, none] [] σ
  refine ev_iload_n (pc := 0) dX12_mates_0 rfl (i := 1) rfl ?_
  refine ev_iconst (pc := 1) (v := (-1)) dX12_mates_1 kc_m1 ?_
  refine ev_icmp_eq (pc := 2) (tgt := 16) dX12_mates_2 (by decide) (fun c1 => ?_) (fun c1 => ?_)
  · have hf := hf.1 c1
    refine ev_iconst (pc := 16) (v := 1) dX12_mates_16 kc_1 ?_
    refine ev_istore_n (pc := 17) (L' := [some (.ref 0), some (.int a1), some (.int 1), none, none, none, none]) dX12_mates_17 rfl (by decide) rfl rfl ?_
    refine ev_iconst (pc := 18) (v := 0) dX12_mates_18 kc_0 ?_
    refine ev_istore_n (pc := 19) (L' := [some (.ref 0), some (.int a1), some (.int 1), some (.int 0), none, none, none]) dX12_mates_19 rfl (by decide) rfl rfl ?_
    obtain ⟨n18, hf⟩ := hf
    exact p_X12_mates_L20 a1 _ post (fun x4 σ3 hf => by
      refine ev_iconst (pc := 41) (v := 0) dX12_mates_41 kc_0 ?_
      refine ev_istore_n (pc := 42) (L' := [some (.ref 0), some (.int a1), some (.int x4), some (.int 0), none, none, none]) dX12_mates_42 rfl (by decide) rfl rfl ?_
      refine ev_iconst (pc := 43) (v := 0) dX12_mates_43 kc_0 ?_
      refine ev_istore (pc := 44) (L' := [some (.ref 0), some (.int a1), some (.int x4), some (.int 0), some (.int 0), none, none]) dX12_mates_44 (by decide) rfl rfl ?_
      refine ev_iconst (pc := 46) (v := 0) dX12_mates_46 kc_0 ?_
      refine ev_istore (pc := 47) (L' := [some (.ref 0), some (.int a1), some (.int x4), some (.int 0), some (.int 0), some (.int 0), none]) dX12_mates_47 (by decide) rfl rfl ?_
      obtain ⟨n17, hf⟩ := hf
      exact p_X12_mates_L49 a1 _ post (fun x10 σ9 hf => by
        refine ev_aload_n (pc := 83) dX12_mates_83 rfl (i := 0) rfl ?_
        refine ev_iload_n (pc := 84) dX12_mates_84 rfl (i := 3) rfl ?_
        refine ev_calli (pc := 85) (stk := []) (ce_V (c_X12_worth x10 σ9 _ hf) wv_X12_170_X12_worth rfl (by decide) rfl (by decide) rfl (Nat.le_of_ble_eq_true rfl) rfl dX12_mates_85) (fun x12 σ11 hf => ?_)
        refine ev_istore (pc := 88) (L' := [some (.ref 0), some (.int a1), none, some (.int x10), none, some (.int x12), none]) dX12_mates_88 (by decide) rfl rfl ?_
        refine ev_iload_n (pc := 90) dX12_mates_90 rfl (i := 1) rfl ?_
        refine ev_iconst (pc := 91) (v := (-1)) dX12_mates_91 kc_m1 ?_
        refine ev_icmp_ne (pc := 92) (tgt := 100) dX12_mates_92 (by decide) (fun c13 => ?_) (fun c13 => ?_)
        · have hf := hf.1 c13
          refine ev_aload_n (pc := 100) dX12_mates_100 rfl (i := 0) rfl ?_
          refine ev_get (pc := 101) fl_X12_48_12_21 rfl (by decide) rfl rfl dX12_mates_101 ?_
          refine ev_iload_n (pc := 104) dX12_mates_104 rfl (i := 1) rfl ?_
          obtain ⟨h14, hf⟩ := hf
          refine ev_iald (pc := 105) rfl rfl h14 rfl dX12_mates_105 ?_
          refine ev_if_ge (pc := 106) (tgt := 114) dX12_mates_106 (by decide) (fun c15 => ?_) (fun c15 => ?_)
          · have hf := hf.1 c15
            refine ev_aload_n (pc := 114) dX12_mates_114 rfl (i := 0) rfl ?_
            refine ev_get (pc := 115) fl_X12_48_12_21 rfl (by decide) rfl rfl dX12_mates_115 ?_
            refine ev_iload_n (pc := 118) dX12_mates_118 rfl (i := 1) rfl ?_
            obtain ⟨h16, hf⟩ := hf
            refine ev_iald (pc := 119) rfl rfl h16 rfl dX12_mates_119 ?_
            exact ev_iret (pc := 120) rfl dX12_mates_120 hf
          · have hf := hf.2 c15
            refine ev_bipush (pc := 109) (v := (-9)) dX12_mates_109 kb_m9 ?_
            refine ev_goto (pc := 111) (tgt := 120) dX12_mates_111 (by decide) ?_
            exact ev_iret (pc := 120) rfl dX12_mates_120 hf
        · have hf := hf.2 c13
          refine ev_iload (pc := 95) dX12_mates_95 rfl ?_
          refine ev_goto (pc := 97) (tgt := 120) dX12_mates_97 (by decide) ?_
          exact ev_iret (pc := 120) rfl dX12_mates_120 hf) n17 _ _ _ _ _ hf) n18 _ _ _ hf
  · have hf := hf.2 c1
    refine ev_aload_n (pc := 5) dX12_mates_5 rfl (i := 0) rfl ?_
    refine ev_iload_n (pc := 6) dX12_mates_6 rfl (i := 1) rfl ?_
    refine ev_calli (pc := 7) (stk := []) (ce_V (c_X12_isMan a1 σ _ hf) wv_X12_136_X12_isMan rfl (by decide) rfl (by decide) rfl (Nat.le_of_ble_eq_true rfl) rfl dX12_mates_7) (fun x20 σ19 hf => ?_)
    refine ev_if_ne (pc := 10) (tgt := 16) dX12_mates_10 (by decide) (fun c21 => ?_) (fun c21 => ?_)
    · have hf := hf.1 c21
      refine ev_iconst (pc := 16) (v := 1) dX12_mates_16 kc_1 ?_
      refine ev_istore_n (pc := 17) (L' := [some (.ref 0), some (.int a1), some (.int 1), none, none, none, none]) dX12_mates_17 rfl (by decide) rfl rfl ?_
      refine ev_iconst (pc := 18) (v := 0) dX12_mates_18 kc_0 ?_
      refine ev_istore_n (pc := 19) (L' := [some (.ref 0), some (.int a1), some (.int 1), some (.int 0), none, none, none]) dX12_mates_19 rfl (by decide) rfl rfl ?_
      obtain ⟨n33, hf⟩ := hf
      exact p_X12_mates_L20 a1 _ post (fun x23 σ22 hf => by
        refine ev_iconst (pc := 41) (v := 0) dX12_mates_41 kc_0 ?_
        refine ev_istore_n (pc := 42) (L' := [some (.ref 0), some (.int a1), some (.int x23), some (.int 0), none, none, none]) dX12_mates_42 rfl (by decide) rfl rfl ?_
        refine ev_iconst (pc := 43) (v := 0) dX12_mates_43 kc_0 ?_
        refine ev_istore (pc := 44) (L' := [some (.ref 0), some (.int a1), some (.int x23), some (.int 0), some (.int 0), none, none]) dX12_mates_44 (by decide) rfl rfl ?_
        refine ev_iconst (pc := 46) (v := 0) dX12_mates_46 kc_0 ?_
        refine ev_istore (pc := 47) (L' := [some (.ref 0), some (.int a1), some (.int x23), some (.int 0), some (.int 0), some (.int 0), none]) dX12_mates_47 (by decide) rfl rfl ?_
        obtain ⟨n32, hf⟩ := hf
        exact p_X12_mates_L49 a1 _ post (fun x25 σ24 hf => by
          refine ev_aload_n (pc := 83) dX12_mates_83 rfl (i := 0) rfl ?_
          refine ev_iload_n (pc := 84) dX12_mates_84 rfl (i := 3) rfl ?_
          refine ev_calli (pc := 85) (stk := []) (ce_V (c_X12_worth x25 σ24 _ hf) wv_X12_170_X12_worth rfl (by decide) rfl (by decide) rfl (Nat.le_of_ble_eq_true rfl) rfl dX12_mates_85) (fun x27 σ26 hf => ?_)
          refine ev_istore (pc := 88) (L' := [some (.ref 0), some (.int a1), none, some (.int x25), none, some (.int x27), none]) dX12_mates_88 (by decide) rfl rfl ?_
          refine ev_iload_n (pc := 90) dX12_mates_90 rfl (i := 1) rfl ?_
          refine ev_iconst (pc := 91) (v := (-1)) dX12_mates_91 kc_m1 ?_
          refine ev_icmp_ne (pc := 92) (tgt := 100) dX12_mates_92 (by decide) (fun c28 => ?_) (fun c28 => ?_)
          · have hf := hf.1 c28
            refine ev_aload_n (pc := 100) dX12_mates_100 rfl (i := 0) rfl ?_
            refine ev_get (pc := 101) fl_X12_48_12_21 rfl (by decide) rfl rfl dX12_mates_101 ?_
            refine ev_iload_n (pc := 104) dX12_mates_104 rfl (i := 1) rfl ?_
            obtain ⟨h29, hf⟩ := hf
            refine ev_iald (pc := 105) rfl rfl h29 rfl dX12_mates_105 ?_
            refine ev_if_ge (pc := 106) (tgt := 114) dX12_mates_106 (by decide) (fun c30 => ?_) (fun c30 => ?_)
            · have hf := hf.1 c30
              refine ev_aload_n (pc := 114) dX12_mates_114 rfl (i := 0) rfl ?_
              refine ev_get (pc := 115) fl_X12_48_12_21 rfl (by decide) rfl rfl dX12_mates_115 ?_
              refine ev_iload_n (pc := 118) dX12_mates_118 rfl (i := 1) rfl ?_
              obtain ⟨h31, hf⟩ := hf
              refine ev_iald (pc := 119) rfl rfl h31 rfl dX12_mates_119 ?_
              exact ev_iret (pc := 120) rfl dX12_mates_120 hf
            · have hf := hf.2 c30
              refine ev_bipush (pc := 109) (v := (-9)) dX12_mates_109 kb_m9 ?_
              refine ev_goto (pc := 111) (tgt := 120) dX12_mates_111 (by decide) ?_
              exact ev_iret (pc := 120) rfl dX12_mates_120 hf
          · have hf := hf.2 c28
            refine ev_iload (pc := 95) dX12_mates_95 rfl ?_
            refine ev_goto (pc := 97) (tgt := 120) dX12_mates_97 (by decide) ?_
            exact ev_iret (pc := 120) rfl dX12_mates_120 hf) n32 _ _ _ _ _ hf) n33 _ _ _ hf
    · have hf := hf.2 c21
      refine ev_ldc (pc := 13) wk_X12_139 dX12_mates_13 ?_
      exact ev_iret (pc := 15) rfl dX12_mates_15 hf
def f_X12_lights (a1 : Int32) (a2 : Int32) (σ : St) (post : Int32 → St → Prop) : Prop := f_X12_isShift a1 σ (fun x2 σ1 => (x2 = 0 → (post (-1) σ1)) ∧ (¬ x2 = 0 → ((a1 = 0 → (post (-1) σ1)) ∧ (¬ a1 = 0 → (f_X12_in a2 0 499 σ1 (fun x6 σ5 => (¬ x6 = 0 → ((¬ (σ5.1 0 24) = 6 → (vp_in (σ5.1 0 24) 6 ∧ (∀ σ10 : St, σ10 = (st_up σ5 14 ((σ5.1 0 24).toNatClampNeg) a1) → (vp_in ((st_up σ5 14 ((σ5.1 0 24).toNatClampNeg) a1).1 0 24) 6 ∧ (∀ σ12 : St, σ12 = (st_up σ10 15 (((st_up σ5 14 ((σ5.1 0 24).toNatClampNeg) a1).1 0 24).toNatClampNeg) a2) → (post ((st_up σ12 0 24 (((st_up σ10 15 (((st_up σ5 14 ((σ5.1 0 24).toNatClampNeg) a1).1 0 24).toNatClampNeg) a2).1 0 24) + 1)).1 0 24) (st_up σ12 0 24 (((st_up σ10 15 (((st_up σ5 14 ((σ5.1 0 24).toNatClampNeg) a1).1 0 24).toNatClampNeg) a2).1 0 24) + 1)))))))) ∧ ((σ5.1 0 24) = 6 → (post (-3) σ5)))) ∧ (x6 = 0 → (post (-1) σ5))))))))
set_option maxRecDepth 100000 in
set_option maxHeartbeats 4000000 in
theorem c_X12_lights (a1 : Int32) (a2 : Int32) (σ : St) (post : Int32 → St → Prop) (hf : f_X12_lights a1 a2 σ post) : Ct SM yX12_lights cX12_lights 3 (some .int) 2 (EQi SM post) [.ref 0, .int a1, .int a2] σ := by
  rw [f_X12_lights] at hf
  refine ct_of (by decide) rfl (Nat.le_of_ble_eq_true rfl) ?_
  show Ev SM RX12 cX12_lights 3 (some .int) 2 (EQi SM post) 0 [some (.ref 0), some (.int a1), some (.int a2)] [] σ
  refine ev_aload_n (pc := 0) dX12_lights_0 rfl (i := 0) rfl ?_
  refine ev_iload_n (pc := 1) dX12_lights_1 rfl (i := 1) rfl ?_
  refine ev_calli (pc := 2) (stk := []) (ce_V (c_X12_isShift a1 σ _ hf) wv_X12_150_X12_isShift rfl (by decide) rfl (by decide) rfl (Nat.le_of_ble_eq_true rfl) rfl dX12_lights_2) (fun x2 σ1 hf => ?_)
  refine ev_if_eq (pc := 5) (tgt := 23) dX12_lights_5 (by decide) (fun c3 => ?_) (fun c3 => ?_)
  · have hf := hf.1 c3
    refine ev_iconst (pc := 23) (v := (-1)) dX12_lights_23 kc_m1 ?_
    exact ev_iret (pc := 24) rfl dX12_lights_24 hf
  · have hf := hf.2 c3
    refine ev_iload_n (pc := 8) dX12_lights_8 rfl (i := 1) rfl ?_
    refine ev_if_eq (pc := 9) (tgt := 23) dX12_lights_9 (by decide) (fun c4 => ?_) (fun c4 => ?_)
    · have hf := hf.1 c4
      refine ev_iconst (pc := 23) (v := (-1)) dX12_lights_23 kc_m1 ?_
      exact ev_iret (pc := 24) rfl dX12_lights_24 hf
    · have hf := hf.2 c4
      refine ev_iload_n (pc := 12) dX12_lights_12 rfl (i := 2) rfl ?_
      refine ev_iconst (pc := 13) (v := 0) dX12_lights_13 kc_0 ?_
      refine ev_sipush (pc := 14) (v := 499) dX12_lights_14 ks_499 ?_
      refine ev_calli (pc := 17) (stk := []) (ce_S (c_X12_in a2 0 499 σ1 _ hf) wt_X12_69_X12_in  (by decide) rfl (Nat.le_of_ble_eq_true rfl) rfl dX12_lights_17) (fun x6 σ5 hf => ?_)
      refine ev_if_ne (pc := 20) (tgt := 25) dX12_lights_20 (by decide) (fun c7 => ?_) (fun c7 => ?_)
      · have hf := hf.1 c7
        refine ev_aload_n (pc := 25) dX12_lights_25 rfl (i := 0) rfl ?_
        refine ev_get (pc := 26) fl_X12_118_12_24 rfl (by decide) rfl rfl dX12_lights_26 ?_
        refine ev_bipush (pc := 29) (v := 6) dX12_lights_29 kb_6 ?_
        refine ev_icmp_ne (pc := 31) (tgt := 37) dX12_lights_31 (by decide) (fun c8 => ?_) (fun c8 => ?_)
        · have hf := hf.1 c8
          refine ev_aload_n (pc := 37) dX12_lights_37 rfl (i := 0) rfl ?_
          refine ev_get (pc := 38) fl_X12_51_12_22 rfl (by decide) rfl rfl dX12_lights_38 ?_
          refine ev_aload_n (pc := 41) dX12_lights_41 rfl (i := 0) rfl ?_
          refine ev_get (pc := 42) fl_X12_118_12_24 rfl (by decide) rfl rfl dX12_lights_42 ?_
          refine ev_iload_n (pc := 45) dX12_lights_45 rfl (i := 1) rfl ?_
          obtain ⟨h9, hf⟩ := hf
          refine ev_iast (pc := 46) rfl rfl h9 rfl dX12_lights_46 ?_
          refine ev_aload_n (pc := 47) dX12_lights_47 rfl (i := 0) rfl ?_
          refine ev_get (pc := 48) fl_X12_54_12_23 rfl (by decide) rfl rfl dX12_lights_48 ?_
          refine ev_aload_n (pc := 51) dX12_lights_51 rfl (i := 0) rfl ?_
          refine ev_get (pc := 52) fl_X12_118_12_24 rfl (by decide) rfl rfl dX12_lights_52 ?_
          refine ev_iload_n (pc := 55) dX12_lights_55 rfl (i := 2) rfl ?_
          refine ev_nm (fun σ10 q10 => ?_)
          have hf := hf σ10 q10
          obtain ⟨h11, hf⟩ := hf
          refine ev_iast (pc := 56) rfl rfl h11 rfl dX12_lights_56 ?_
          refine ev_aload_n (pc := 57) dX12_lights_57 rfl (i := 0) rfl ?_
          refine ev_dup (pc := 58) dX12_lights_58 rfl ?_
          refine ev_get (pc := 59) fl_X12_118_12_24 rfl (by decide) rfl rfl dX12_lights_59 ?_
          refine ev_iconst (pc := 62) (v := 1) dX12_lights_62 kc_1 ?_
          refine ev_iadd (pc := 63) dX12_lights_63 ?_
          refine ev_nm (fun σ12 q12 => ?_)
          have hf := hf σ12 q12
          refine ev_puti (pc := 64) fp_X12_118_12_24 rfl (by decide) rfl rfl rfl dX12_lights_64 ?_
          refine ev_aload_n (pc := 67) dX12_lights_67 rfl (i := 0) rfl ?_
          refine ev_get (pc := 68) fl_X12_118_12_24 rfl (by decide) rfl rfl dX12_lights_68 ?_
          exact ev_iret (pc := 71) rfl dX12_lights_71 hf
        · have hf := hf.2 c8
          refine ev_bipush (pc := 34) (v := (-3)) dX12_lights_34 kb_m3 ?_
          exact ev_iret (pc := 36) rfl dX12_lights_36 hf
      · have hf := hf.2 c7
        refine ev_iconst (pc := 23) (v := (-1)) dX12_lights_23 kc_m1 ?_
        exact ev_iret (pc := 24) rfl dX12_lights_24 hf
def f_X12_forget (σ : St) (post : Int32 → St → Prop) : Prop := ∀ σ1 : St, σ1 = (st_up σ 0 24 0) → (post ((σ.1 0 24) + (σ.1 0 27)) (st_up σ1 0 27 0))
set_option maxRecDepth 100000 in
set_option maxHeartbeats 4000000 in
theorem c_X12_forget (σ : St) (post : Int32 → St → Prop) (hf : f_X12_forget σ post) : Ct SM yX12_forget cX12_forget 2 (some .int) 0 (EQi SM post) [.ref 0] σ := by
  rw [f_X12_forget] at hf
  refine ct_of (by decide) rfl (Nat.le_of_ble_eq_true rfl) ?_
  show Ev SM RX12 cX12_forget 2 (some .int) 0 (EQi SM post) 0 [some (.ref 0), none] [] σ
  refine ev_aload_n (pc := 0) dX12_forget_0 rfl (i := 0) rfl ?_
  refine ev_get (pc := 1) fl_X12_118_12_24 rfl (by decide) rfl rfl dX12_forget_1 ?_
  refine ev_aload_n (pc := 4) dX12_forget_4 rfl (i := 0) rfl ?_
  refine ev_get (pc := 5) fl_X12_121_12_27 rfl (by decide) rfl rfl dX12_forget_5 ?_
  refine ev_iadd (pc := 8) dX12_forget_8 ?_
  refine ev_istore_n (pc := 9) (L' := [some (.ref 0), some (.int ((σ.1 0 24) + (σ.1 0 27)))]) dX12_forget_9 rfl (by decide) rfl rfl ?_
  refine ev_aload_n (pc := 10) dX12_forget_10 rfl (i := 0) rfl ?_
  refine ev_iconst (pc := 11) (v := 0) dX12_forget_11 kc_0 ?_
  refine ev_puti (pc := 12) fp_X12_118_12_24 rfl (by decide) rfl rfl rfl dX12_forget_12 ?_
  refine ev_aload_n (pc := 15) dX12_forget_15 rfl (i := 0) rfl ?_
  refine ev_iconst (pc := 16) (v := 0) dX12_forget_16 kc_0 ?_
  refine ev_nm (fun σ1 q1 => ?_)
  have hf := hf σ1 q1
  refine ev_puti (pc := 17) fp_X12_121_12_27 rfl (by decide) rfl rfl rfl dX12_forget_17 ?_
  refine ev_iload_n (pc := 20) dX12_forget_20 rfl (i := 1) rfl ?_
  exact ev_iret (pc := 21) rfl dX12_forget_21 hf
def f_X12_whose_L23 (k92 : Int32 → Int32 → Int32 → St → Prop) (post : Int32 → St → Prop) : Nat → Int32 → Int32 → Int32 → Int32 → St → Prop
  | 0, _, _, _, _, _ => False
  | n + 1, v1, v2, v3, v4, σ => ((σ.1 0 24) ≤ v4 → (k92 v1 v2 v3 σ)) ∧ (¬ (σ.1 0 24) ≤ v4 → ((v3 = 0 → ((f_X12_whose_L23 k92 post n) v1 v2 0 (v4 + 1) σ)) ∧ (¬ v3 = 0 → (vp_in v4 6 ∧ ((¬ (((σ.1 14 v4.toNatClampNeg) >>> (v2 &&& 31)) &&& 1) = 1 → ((f_X12_whose_L23 k92 post n) v1 v2 0 (v4 + 1) σ)) ∧ ((((σ.1 14 v4.toNatClampNeg) >>> (v2 &&& 31)) &&& 1) = 1 → (vp_in v4 6 ∧ (f_X12_begins 10 24 0 (σ.1 14 v4.toNatClampNeg) v2 σ (fun x10 σ9 => vp_in v4 6 ∧ ((¬ (x10 / 2) = (σ9.1 15 v4.toNatClampNeg) → ((f_X12_whose_L23 k92 post n) v1 v2 0 (v4 + 1) σ9)) ∧ ((x10 / 2) = (σ9.1 15 v4.toNatClampNeg) → ((f_X12_whose_L23 k92 post n) v1 v2 1 (v4 + 1) σ9))))))))))))
set_option maxRecDepth 100000 in
set_option maxHeartbeats 4000000 in
theorem p_X12_whose_L23 (k92 : Int32 → Int32 → Int32 → St → Prop) (post : Int32 → St → Prop) (hk92 : ∀ (v1 : Int32) (v2 : Int32) (v3 : Int32) (τ : St), k92 v1 v2 v3 τ → Ev SM RX12 cX12_whose 5 (some .int) 2 (EQi SM post) 92 [some (.ref 0), some (.int v1), some (.int v2), some (.int v3), none] [] τ) : ∀ (n : Nat) (v1 : Int32) (v2 : Int32) (v3 : Int32) (v4 : Int32) (σ : St), f_X12_whose_L23 k92 post n v1 v2 v3 v4 σ → Ev SM RX12 cX12_whose 5 (some .int) 2 (EQi SM post) 23 [some (.ref 0), some (.int v1), some (.int v2), some (.int v3), some (.int v4)] [] σ := by
  intro n
  induction n with
  | zero =>
    intro v1 v2 v3 v4 σ hf
    exact hf.elim
  | succ n hagain23 =>
    intro v1 v2 v3 v4 σ hf
    rw [f_X12_whose_L23] at hf
    refine ev_iload (pc := 23) dX12_whose_23 rfl ?_
    refine ev_aload_n (pc := 25) dX12_whose_25 rfl (i := 0) rfl ?_
    refine ev_get (pc := 26) fl_X12_118_12_24 rfl (by decide) rfl rfl dX12_whose_26 ?_
    refine ev_icmp_ge (pc := 29) (tgt := 92) dX12_whose_29 (by decide) (fun c4 => ?_) (fun c4 => ?_)
    · have hf := hf.1 c4
      refine ev_mask [true, true, true, true, false] (L' := [some (.ref 0), some (.int v1), some (.int v2), some (.int v3), none]) rfl ?_
      exact hk92 _ _ _ _ hf
    · have hf := hf.2 c4
      refine ev_iload_n (pc := 32) dX12_whose_32 rfl (i := 3) rfl ?_
      refine ev_if_eq (pc := 33) (tgt := 84) dX12_whose_33 (by decide) (fun c5 => ?_) (fun c5 => ?_)
      · have hf := hf.1 c5
        refine ev_iconst (pc := 84) (v := 0) dX12_whose_84 kc_0 ?_
        refine ev_istore_n (pc := 85) (L' := [some (.ref 0), some (.int v1), some (.int v2), some (.int 0), some (.int v4)]) dX12_whose_85 rfl (by decide) rfl rfl ?_
        refine ev_iinc (pc := 86) (v := v4 + 1) (L' := [some (.ref 0), some (.int v1), some (.int v2), some (.int 0), some (.int (v4 + 1))]) dX12_whose_86 rfl (by rw [kc_1]) (by decide) rfl rfl ?_
        refine ev_goto (pc := 89) (tgt := 23) dX12_whose_89 (by decide) ?_
        exact hagain23 _ _ _ _ _ hf
      · have hf := hf.2 c5
        refine ev_aload_n (pc := 36) dX12_whose_36 rfl (i := 0) rfl ?_
        refine ev_get (pc := 37) fl_X12_51_12_22 rfl (by decide) rfl rfl dX12_whose_37 ?_
        refine ev_iload (pc := 40) dX12_whose_40 rfl ?_
        obtain ⟨h6, hf⟩ := hf
        refine ev_iald (pc := 42) rfl rfl h6 rfl dX12_whose_42 ?_
        refine ev_iload_n (pc := 43) dX12_whose_43 rfl (i := 2) rfl ?_
        refine ev_ishr (pc := 44) dX12_whose_44 ?_
        refine ev_iconst (pc := 45) (v := 1) dX12_whose_45 kc_1 ?_
        refine ev_iand (pc := 46) dX12_whose_46 ?_
        refine ev_iconst (pc := 47) (v := 1) dX12_whose_47 kc_1 ?_
        refine ev_icmp_ne (pc := 48) (tgt := 84) dX12_whose_48 (by decide) (fun c7 => ?_) (fun c7 => ?_)
        · have hf := hf.1 c7
          refine ev_iconst (pc := 84) (v := 0) dX12_whose_84 kc_0 ?_
          refine ev_istore_n (pc := 85) (L' := [some (.ref 0), some (.int v1), some (.int v2), some (.int 0), some (.int v4)]) dX12_whose_85 rfl (by decide) rfl rfl ?_
          refine ev_iinc (pc := 86) (v := v4 + 1) (L' := [some (.ref 0), some (.int v1), some (.int v2), some (.int 0), some (.int (v4 + 1))]) dX12_whose_86 rfl (by rw [kc_1]) (by decide) rfl rfl ?_
          refine ev_goto (pc := 89) (tgt := 23) dX12_whose_89 (by decide) ?_
          exact hagain23 _ _ _ _ _ hf
        · have hf := hf.2 c7
          refine ev_aload_n (pc := 51) dX12_whose_51 rfl (i := 0) rfl ?_
          refine ev_aload_n (pc := 52) dX12_whose_52 rfl (i := 0) rfl ?_
          refine ev_get (pc := 53) fl_X12_39_12_18 rfl (by decide) rfl rfl dX12_whose_53 ?_
          refine ev_iconst (pc := 56) (v := 0) dX12_whose_56 kc_0 ?_
          refine ev_aload_n (pc := 57) dX12_whose_57 rfl (i := 0) rfl ?_
          refine ev_get (pc := 58) fl_X12_51_12_22 rfl (by decide) rfl rfl dX12_whose_58 ?_
          refine ev_iload (pc := 61) dX12_whose_61 rfl ?_
          obtain ⟨h8, hf⟩ := hf
          refine ev_iald (pc := 63) rfl rfl h8 rfl dX12_whose_63 ?_
          refine ev_iload_n (pc := 64) dX12_whose_64 rfl (i := 2) rfl ?_
          refine ev_calli (pc := 65) (stk := []) (ce_V (c_X12_begins 10 24 0 (σ.1 14 v4.toNatClampNeg) v2 rfl σ _ hf) wv_X12_143_X12_begins rfl (by decide) rfl (by decide) rfl (Nat.le_of_ble_eq_true rfl) rfl dX12_whose_65) (fun x10 σ9 hf => ?_)
          refine ev_iconst (pc := 68) (v := 2) dX12_whose_68 kc_2 ?_
          refine ev_idiv (pc := 69) dX12_whose_69 (by decide) ?_
          refine ev_aload_n (pc := 70) dX12_whose_70 rfl (i := 0) rfl ?_
          refine ev_get (pc := 71) fl_X12_54_12_23 rfl (by decide) rfl rfl dX12_whose_71 ?_
          refine ev_iload (pc := 74) dX12_whose_74 rfl ?_
          obtain ⟨h11, hf⟩ := hf
          refine ev_iald (pc := 76) rfl rfl h11 rfl dX12_whose_76 ?_
          refine ev_icmp_ne (pc := 77) (tgt := 84) dX12_whose_77 (by decide) (fun c12 => ?_) (fun c12 => ?_)
          · have hf := hf.1 c12
            refine ev_iconst (pc := 84) (v := 0) dX12_whose_84 kc_0 ?_
            refine ev_istore_n (pc := 85) (L' := [some (.ref 0), some (.int v1), some (.int v2), some (.int 0), some (.int v4)]) dX12_whose_85 rfl (by decide) rfl rfl ?_
            refine ev_iinc (pc := 86) (v := v4 + 1) (L' := [some (.ref 0), some (.int v1), some (.int v2), some (.int 0), some (.int (v4 + 1))]) dX12_whose_86 rfl (by rw [kc_1]) (by decide) rfl rfl ?_
            refine ev_goto (pc := 89) (tgt := 23) dX12_whose_89 (by decide) ?_
            exact hagain23 _ _ _ _ _ hf
          · have hf := hf.2 c12
            refine ev_iconst (pc := 80) (v := 1) dX12_whose_80 kc_1 ?_
            refine ev_goto (pc := 81) (tgt := 85) dX12_whose_81 (by decide) ?_
            refine ev_istore_n (pc := 85) (L' := [some (.ref 0), some (.int v1), some (.int v2), some (.int 1), some (.int v4)]) dX12_whose_85 rfl (by decide) rfl rfl ?_
            refine ev_iinc (pc := 86) (v := v4 + 1) (L' := [some (.ref 0), some (.int v1), some (.int v2), some (.int 1), some (.int (v4 + 1))]) dX12_whose_86 rfl (by rw [kc_1]) (by decide) rfl rfl ?_
            refine ev_goto (pc := 89) (tgt := 23) dX12_whose_89 (by decide) ?_
            exact hagain23 _ _ _ _ _ hf
def f_X12_whose_L8 (post : Int32 → St → Prop) : Nat → Int32 → Int32 → St → Prop
  | 0, _, _, _ => False
  | n + 1, v1, v2, σ => ((σ.1 2 0) ≤ v2 → (post v1 σ)) ∧ (¬ (σ.1 2 0) ≤ v2 → (∃ n18 : Nat, f_X12_whose_L23 (fun x14 x15 x16 σ13 => (x16 = 0 → ((f_X12_whose_L8 post n) (x14 ||| 0) (x15 + 1) σ13)) ∧ (¬ x16 = 0 → ((f_X12_whose_L8 post n) (x14 ||| (1 <<< (x15 &&& 31))) (x15 + 1) σ13))) post n18 v1 v2 1 0 σ))
set_option maxRecDepth 100000 in
set_option maxHeartbeats 4000000 in
theorem p_X12_whose_L8 (post : Int32 → St → Prop) : ∀ (n : Nat) (v1 : Int32) (v2 : Int32) (σ : St), f_X12_whose_L8 post n v1 v2 σ → Ev SM RX12 cX12_whose 5 (some .int) 2 (EQi SM post) 8 [some (.ref 0), some (.int v1), some (.int v2), none, none] [] σ := by
  intro n
  induction n with
  | zero =>
    intro v1 v2 σ hf
    exact hf.elim
  | succ n hagain8 =>
    intro v1 v2 σ hf
    rw [f_X12_whose_L8] at hf
    refine ev_iload_n (pc := 8) dX12_whose_8 rfl (i := 2) rfl ?_
    refine ev_aload_n (pc := 9) dX12_whose_9 rfl (i := 0) rfl ?_
    refine ev_get (pc := 10) fl_X12_13_12_3 rfl (by decide) rfl rfl dX12_whose_10 ?_
    refine ev_iconst (pc := 13) (v := 0) dX12_whose_13 kc_0 ?_
    refine ev_iald (pc := 14) rfl rfl ki_0_2 kn_0 dX12_whose_14 ?_
    refine ev_icmp_ge (pc := 15) (tgt := 112) dX12_whose_15 (by decide) (fun c3 => ?_) (fun c3 => ?_)
    · have hf := hf.1 c3
      refine ev_iload_n (pc := 112) dX12_whose_112 rfl (i := 1) rfl ?_
      exact ev_iret (pc := 113) rfl dX12_whose_113 hf
    · have hf := hf.2 c3
      refine ev_iconst (pc := 18) (v := 1) dX12_whose_18 kc_1 ?_
      refine ev_istore_n (pc := 19) (L' := [some (.ref 0), some (.int v1), some (.int v2), some (.int 1), none]) dX12_whose_19 rfl (by decide) rfl rfl ?_
      refine ev_iconst (pc := 20) (v := 0) dX12_whose_20 kc_0 ?_
      refine ev_istore (pc := 21) (L' := [some (.ref 0), some (.int v1), some (.int v2), some (.int 1), some (.int 0)]) dX12_whose_21 (by decide) rfl rfl ?_
      obtain ⟨n18, hf⟩ := hf
      exact p_X12_whose_L23 _ post (fun x14 x15 x16 σ13 hf => by
        refine ev_iload_n (pc := 92) dX12_whose_92 rfl (i := 1) rfl ?_
        refine ev_iload_n (pc := 93) dX12_whose_93 rfl (i := 3) rfl ?_
        refine ev_if_eq (pc := 94) (tgt := 103) dX12_whose_94 (by decide) (fun c17 => ?_) (fun c17 => ?_)
        · have hf := hf.1 c17
          refine ev_iconst (pc := 103) (v := 0) dX12_whose_103 kc_0 ?_
          refine ev_ior (pc := 104) dX12_whose_104 ?_
          refine ev_istore_n (pc := 105) (L' := [some (.ref 0), some (.int (x14 ||| 0)), some (.int x15), some (.int x16), none]) dX12_whose_105 rfl (by decide) rfl rfl ?_
          refine ev_iinc (pc := 106) (v := x15 + 1) (L' := [some (.ref 0), some (.int (x14 ||| 0)), some (.int (x15 + 1)), some (.int x16), none]) dX12_whose_106 rfl (by rw [kc_1]) (by decide) rfl rfl ?_
          refine ev_goto (pc := 109) (tgt := 8) dX12_whose_109 (by decide) ?_
          refine ev_mask [true, true, true, false, false] (L' := [some (.ref 0), some (.int (x14 ||| 0)), some (.int (x15 + 1)), none, none]) rfl ?_
          exact hagain8 _ _ _ hf
        · have hf := hf.2 c17
          refine ev_iconst (pc := 97) (v := 1) dX12_whose_97 kc_1 ?_
          refine ev_iload_n (pc := 98) dX12_whose_98 rfl (i := 2) rfl ?_
          refine ev_ishl (pc := 99) dX12_whose_99 ?_
          refine ev_goto (pc := 100) (tgt := 104) dX12_whose_100 (by decide) ?_
          refine ev_ior (pc := 104) dX12_whose_104 ?_
          refine ev_istore_n (pc := 105) (L' := [some (.ref 0), some (.int (x14 ||| (1 <<< (x15 &&& 31)))), some (.int x15), some (.int x16), none]) dX12_whose_105 rfl (by decide) rfl rfl ?_
          refine ev_iinc (pc := 106) (v := x15 + 1) (L' := [some (.ref 0), some (.int (x14 ||| (1 <<< (x15 &&& 31)))), some (.int (x15 + 1)), some (.int x16), none]) dX12_whose_106 rfl (by rw [kc_1]) (by decide) rfl rfl ?_
          refine ev_goto (pc := 109) (tgt := 8) dX12_whose_109 (by decide) ?_
          refine ev_mask [true, true, true, false, false] (L' := [some (.ref 0), some (.int (x14 ||| (1 <<< (x15 &&& 31)))), some (.int (x15 + 1)), none, none]) rfl ?_
          exact hagain8 _ _ _ hf) n18 _ _ _ _ _ hf
def f_X12_whose (σ : St) (post : Int32 → St → Prop) : Prop := f_X12_take σ (fun σ1 => ∃ n19 : Nat, f_X12_whose_L8 post n19 0 0 σ1)
set_option maxRecDepth 100000 in
set_option maxHeartbeats 4000000 in
theorem c_X12_whose (σ : St) (post : Int32 → St → Prop) (hf : f_X12_whose σ post) : Ct SM yX12_whose cX12_whose 5 (some .int) 2 (EQi SM post) [.ref 0] σ := by
  rw [f_X12_whose] at hf
  refine ct_of (by decide) rfl (Nat.le_of_ble_eq_true rfl) ?_
  show Ev SM RX12 cX12_whose 5 (some .int) 2 (EQi SM post) 0 [some (.ref 0), none, none, none, none] [] σ
  refine ev_iconst (pc := 0) (v := 0) dX12_whose_0 kc_0 ?_
  refine ev_istore_n (pc := 1) (L' := [some (.ref 0), some (.int 0), none, none, none]) dX12_whose_1 rfl (by decide) rfl rfl ?_
  refine ev_aload_n (pc := 2) dX12_whose_2 rfl (i := 0) rfl ?_
  refine ev_callv (pc := 3) (stk := []) (ce_V (c_X12_take σ _ hf) wv_X12_156_X12_take rfl (by decide) rfl (by decide) rfl (Nat.le_of_ble_eq_true rfl) rfl dX12_whose_3) (fun σ1 hf => ?_)
  refine ev_iconst (pc := 6) (v := 0) dX12_whose_6 kc_0 ?_
  refine ev_istore_n (pc := 7) (L' := [some (.ref 0), some (.int 0), some (.int 0), none, none]) dX12_whose_7 rfl (by decide) rfl rfl ?_
  obtain ⟨n19, hf⟩ := hf
  exact p_X12_whose_L8 post n19 _ _ _ hf
