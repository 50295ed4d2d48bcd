def f_X10_adds (a1 : Int32) (σ : St) (post : St → Prop) : Prop := (150 ≤ (σ.1 1 0) → (post σ)) ∧ (¬ 150 ≤ (σ.1 1 0) → (vp_in (σ.1 1 0) 150 ∧ (∀ σ3 : St, σ3 = (st_up σ 2 ((σ.1 1 0).toNatClampNeg) a1) → (post (st_up σ3 1 0 (((st_up σ 2 ((σ.1 1 0).toNatClampNeg) a1).1 1 0) + 1))))))
set_option maxRecDepth 100000 in
set_option maxHeartbeats 4000000 in
theorem c_X10_adds (a1 : Int32) (σ : St) (post : St → Prop) (hf : f_X10_adds a1 σ post) : Ct SX yX10_adds cX10_adds 2 none 0 (EQv SX post) [.ref 1, .int a1] σ := by
  rw [f_X10_adds] at hf
  refine ct_of (by decide) rfl (Nat.le_of_ble_eq_true rfl) ?_
  show Ev SX RX10 cX10_adds 2 none 0 (EQv SX post) 0 [some (.ref 1), some (.int a1)] [] σ
  refine ev_aload_n (pc := 0) dX10_adds_0 rfl (i := 0) rfl ?_
  refine ev_get (pc := 1) fl_X10_15_10_0 rfl (by decide) rfl rfl dX10_adds_1 ?_
  refine ev_sipush (pc := 4) (v := 150) dX10_adds_4 ks_150 ?_
  refine ev_icmp_ge (pc := 7) (tgt := 30) dX10_adds_7 (by decide) (fun c1 => ?_) (fun c1 => ?_)
  · have hf := hf.1 c1
    exact ev_vret (pc := 30) rfl dX10_adds_30 hf
  · have hf := hf.2 c1
    refine ev_aload_n (pc := 10) dX10_adds_10 rfl (i := 0) rfl ?_
    refine ev_get (pc := 11) fl_X10_9_10_1 rfl (by decide) rfl rfl dX10_adds_11 ?_
    refine ev_aload_n (pc := 14) dX10_adds_14 rfl (i := 0) rfl ?_
    refine ev_get (pc := 15) fl_X10_15_10_0 rfl (by decide) rfl rfl dX10_adds_15 ?_
    refine ev_iload_n (pc := 18) dX10_adds_18 rfl (i := 1) rfl ?_
    obtain ⟨h2, hf⟩ := hf
    refine ev_iast (pc := 19) rfl rfl h2 rfl dX10_adds_19 ?_
    refine ev_aload_n (pc := 20) dX10_adds_20 rfl (i := 0) rfl ?_
    refine ev_dup (pc := 21) dX10_adds_21 rfl ?_
    refine ev_get (pc := 22) fl_X10_15_10_0 rfl (by decide) rfl rfl dX10_adds_22 ?_
    refine ev_iconst (pc := 25) (v := 1) dX10_adds_25 kc_1 ?_
    refine ev_iadd (pc := 26) dX10_adds_26 ?_
    refine ev_nm (fun σ3 q3 => ?_)
    have hf := hf σ3 q3
    refine ev_puti (pc := 27) fp_X10_15_10_0 rfl (by decide) rfl rfl rfl dX10_adds_27 ?_
    exact ev_vret (pc := 30) rfl dX10_adds_30 hf
def f_X11_type (a1 : Int32) (σ : St) (post : Int32 → St → Prop) : Prop := (a1 < 0 → (post (-1) σ)) ∧ (¬ a1 < 0 → ((a1 ≤ 255 → (((σ.1 1 0) < 150 → (f_X10_adds a1 σ (fun σ4 => post (σ4.1 1 0) σ4))) ∧ (¬ (σ.1 1 0) < 150 → (post (-3) σ)))) ∧ (¬ a1 ≤ 255 → (post (-1) σ))))
set_option maxRecDepth 100000 in
set_option maxHeartbeats 4000000 in
theorem c_X11_type (a1 : Int32) (σ : St) (post : Int32 → St → Prop) (hf : f_X11_type a1 σ post) : Ct SX yX11_type cX11_type 2 (some .int) 1 (EQi SX post) [.ref 0, .int a1] σ := by
  rw [f_X11_type] at hf
  refine ct_of (by decide) rfl (Nat.le_of_ble_eq_true rfl) ?_
  show Ev SX RX11 cX11_type 2 (some .int) 1 (EQi SX post) 0 [some (.ref 0), some (.int a1)] [] σ
  refine ev_iload_n (pc := 0) dX11_type_0 rfl (i := 1) rfl ?_
  refine ev_if_lt (pc := 1) (tgt := 11) dX11_type_1 (by decide) (fun c1 => ?_) (fun c1 => ?_)
  · have hf := hf.1 c1
    refine ev_iconst (pc := 11) (v := (-1)) dX11_type_11 kc_m1 ?_
    exact ev_iret (pc := 12) rfl dX11_type_12 hf
  · have hf := hf.2 c1
    refine ev_iload_n (pc := 4) dX11_type_4 rfl (i := 1) rfl ?_
    refine ev_sipush (pc := 5) (v := 255) dX11_type_5 ks_255 ?_
    refine ev_icmp_le (pc := 8) (tgt := 13) dX11_type_8 (by decide) (fun c2 => ?_) (fun c2 => ?_)
    · have hf := hf.1 c2
      refine ev_aload_n (pc := 13) dX11_type_13 rfl (i := 0) rfl ?_
      refine ev_get (pc := 14) fl_X11_12_11_0 rfl (by decide) rfl rfl dX11_type_14 ?_
      refine ev_get (pc := 17) fl_X11_99_10_0 rfl (by decide) rfl rfl dX11_type_17 ?_
      refine ev_sipush (pc := 20) (v := 150) dX11_type_20 ks_150 ?_
      refine ev_icmp_lt (pc := 23) (tgt := 29) dX11_type_23 (by decide) (fun c3 => ?_) (fun c3 => ?_)
      · have hf := hf.1 c3
        refine ev_aload_n (pc := 29) dX11_type_29 rfl (i := 0) rfl ?_
        refine ev_get (pc := 30) fl_X11_12_11_0 rfl (by decide) rfl rfl dX11_type_30 ?_
        refine ev_iload_n (pc := 33) dX11_type_33 rfl (i := 1) rfl ?_
        refine ev_callv (pc := 34) (stk := []) (ce_V (c_X10_adds a1 σ _ hf) wv_X11_103_X10_adds rfl (by decide) rfl (by decide) rfl (Nat.le_of_ble_eq_true rfl) rfl dX11_type_34) (fun σ4 hf => ?_)
        refine ev_aload_n (pc := 37) dX11_type_37 rfl (i := 0) rfl ?_
        refine ev_get (pc := 38) fl_X11_12_11_0 rfl (by decide) rfl rfl dX11_type_38 ?_
        refine ev_get (pc := 41) fl_X11_99_10_0 rfl (by decide) rfl rfl dX11_type_41 ?_
        exact ev_iret (pc := 44) rfl dX11_type_44 hf
      · have hf := hf.2 c3
        refine ev_bipush (pc := 26) (v := (-3)) dX11_type_26 kb_m3 ?_
        exact ev_iret (pc := 28) rfl dX11_type_28 hf
    · have hf := hf.2 c2
      refine ev_iconst (pc := 11) (v := (-1)) dX11_type_11 kc_m1 ?_
      exact ev_iret (pc := 12) rfl dX11_type_12 hf
def f_X11_clear (σ : St) (post : Int32 → St → Prop) : Prop := post (σ.1 1 0) (st_up σ 1 0 0)
set_option maxRecDepth 100000 in
set_option maxHeartbeats 4000000 in
theorem c_X11_clear (σ : St) (post : Int32 → St → Prop) (hf : f_X11_clear σ post) : Ct SX yX11_clear cX11_clear 2 (some .int) 0 (EQi SX post) [.ref 0] σ := by
  rw [f_X11_clear] at hf
  refine ct_of (by decide) rfl (Nat.le_of_ble_eq_true rfl) ?_
  show Ev SX RX11 cX11_clear 2 (some .int) 0 (EQi SX post) 0 [some (.ref 0), none] [] σ
  refine ev_aload_n (pc := 0) dX11_clear_0 rfl (i := 0) rfl ?_
  refine ev_get (pc := 1) fl_X11_12_11_0 rfl (by decide) rfl rfl dX11_clear_1 ?_
  refine ev_get (pc := 4) fl_X11_99_10_0 rfl (by decide) rfl rfl dX11_clear_4 ?_
  refine ev_istore_n (pc := 7) (L' := [some (.ref 0), some (.int (σ.1 1 0))]) dX11_clear_7 rfl (by decide) rfl rfl ?_
  refine ev_aload_n (pc := 8) dX11_clear_8 rfl (i := 0) rfl ?_
  refine ev_get (pc := 9) fl_X11_12_11_0 rfl (by decide) rfl rfl dX11_clear_9 ?_
  refine ev_iconst (pc := 12) (v := 0) dX11_clear_12 kc_0 ?_
  refine ev_puti (pc := 13) fp_X11_99_10_0 rfl (by decide) rfl rfl rfl dX11_clear_13 ?_
  refine ev_iload_n (pc := 16) dX11_clear_16 rfl (i := 1) rfl ?_
  exact ev_iret (pc := 17) rfl dX11_clear_17 hf
def f_X5_forgets (σ : St) (post : St → Prop) : Prop := post (st_up σ 53 4 0)
set_option maxRecDepth 100000 in
set_option maxHeartbeats 4000000 in
theorem c_X5_forgets (σ : St) (post : St → Prop) (hf : f_X5_forgets σ post) : Ct SX yX5_forgets cX5_forgets 1 none 0 (EQv SX post) [.ref 53] σ := by
  rw [f_X5_forgets] at hf
  refine ct_of (by decide) rfl (Nat.le_of_ble_eq_true rfl) ?_
  show Ev SX RX5 cX5_forgets 1 none 0 (EQv SX post) 0 [some (.ref 53)] [] σ
  refine ev_aload_n (pc := 0) dX5_forgets_0 rfl (i := 0) rfl ?_
  refine ev_iconst (pc := 1) (v := 0) dX5_forgets_1 kc_0 ?_
  refine ev_puti (pc := 2) fp_X5_23_5_4 rfl (by decide) rfl rfl rfl dX5_forgets_2 ?_
  exact ev_vret (pc := 5) rfl dX5_forgets_5 hf
def f_J6_bitCount_0f7a4 (a0 : Int32) (σ : St) (post : Int32 → St → Prop) : Prop := ∀ y1 : Int32, y1 = (a0 - (((a0.toUInt32 >>> ((1 : Int32).toUInt32 &&& Int32.toUInt32 31)).toInt32) &&& 1431655765)) → (∀ y3 : Int32, y3 = ((y1 &&& 858993459) + (((y1.toUInt32 >>> ((2 : Int32).toUInt32 &&& Int32.toUInt32 31)).toInt32) &&& 858993459)) → (∀ y5 : Int32, y5 = ((y3 + ((y3.toUInt32 >>> ((4 : Int32).toUInt32 &&& Int32.toUInt32 31)).toInt32)) &&& 252645135) → (∀ y7 : Int32, y7 = (y5 + ((y5.toUInt32 >>> ((8 : Int32).toUInt32 &&& Int32.toUInt32 31)).toInt32)) → (∀ y9 : Int32, y9 = (y7 + ((y7.toUInt32 >>> ((16 : Int32).toUInt32 &&& Int32.toUInt32 31)).toInt32)) → (post (y9 &&& 63) σ)))))
set_option maxRecDepth 100000 in
set_option maxHeartbeats 4000000 in
theorem c_J6_bitCount_0f7a4 (a0 : Int32) (σ : St) (post : Int32 → St → Prop) (hf : f_J6_bitCount_0f7a4 a0 σ post) : Ct SX yJ6_bitCount_0f7a4 cJ6_bitCount_0f7a4 1 (some .int) 0 (EQi SX post) [.int a0] σ := by
  rw [f_J6_bitCount_0f7a4] at hf
  refine ct_of (by decide) rfl (Nat.le_of_ble_eq_true rfl) ?_
  show Ev SX RJ6 cJ6_bitCount_0f7a4 1 (some .int) 0 (EQi SX post) 0 [some (.int a0)] [] σ
  refine ev_iload_n (pc := 0) dJ6_bitCount_0f7a4_0 rfl (i := 0) rfl ?_
  refine ev_iload_n (pc := 1) dJ6_bitCount_0f7a4_1 rfl (i := 0) rfl ?_
  refine ev_iconst (pc := 2) (v := 1) dJ6_bitCount_0f7a4_2 kc_1 ?_
  refine ev_iushr (pc := 3) dJ6_bitCount_0f7a4_3 ?_
  refine ev_ldcw (pc := 4) wk_J6_265 dJ6_bitCount_0f7a4_4 ?_
  refine ev_iand (pc := 7) dJ6_bitCount_0f7a4_7 ?_
  refine ev_isub (pc := 8) dJ6_bitCount_0f7a4_8 ?_
  refine ev_nmi (fun y1 qy2 => ?_)
  have hf := hf y1 qy2
  refine ev_istore_n (pc := 9) (L' := [some (.int y1)]) dJ6_bitCount_0f7a4_9 rfl (by decide) rfl rfl ?_
  refine ev_iload_n (pc := 10) dJ6_bitCount_0f7a4_10 rfl (i := 0) rfl ?_
  refine ev_ldcw (pc := 11) wk_J6_266 dJ6_bitCount_0f7a4_11 ?_
  refine ev_iand (pc := 14) dJ6_bitCount_0f7a4_14 ?_
  refine ev_iload_n (pc := 15) dJ6_bitCount_0f7a4_15 rfl (i := 0) rfl ?_
  refine ev_iconst (pc := 16) (v := 2) dJ6_bitCount_0f7a4_16 kc_2 ?_
  refine ev_iushr (pc := 17) dJ6_bitCount_0f7a4_17 ?_
  refine ev_ldcw (pc := 18) wk_J6_266 dJ6_bitCount_0f7a4_18 ?_
  refine ev_iand (pc := 21) dJ6_bitCount_0f7a4_21 ?_
  refine ev_iadd (pc := 22) dJ6_bitCount_0f7a4_22 ?_
  refine ev_nmi (fun y3 qy4 => ?_)
  have hf := hf y3 qy4
  refine ev_istore_n (pc := 23) (L' := [some (.int y3)]) dJ6_bitCount_0f7a4_23 rfl (by decide) rfl rfl ?_
  refine ev_iload_n (pc := 24) dJ6_bitCount_0f7a4_24 rfl (i := 0) rfl ?_
  refine ev_iload_n (pc := 25) dJ6_bitCount_0f7a4_25 rfl (i := 0) rfl ?_
  refine ev_iconst (pc := 26) (v := 4) dJ6_bitCount_0f7a4_26 kc_4 ?_
  refine ev_iushr (pc := 27) dJ6_bitCount_0f7a4_27 ?_
  refine ev_iadd (pc := 28) dJ6_bitCount_0f7a4_28 ?_
  refine ev_ldcw (pc := 29) wk_J6_267 dJ6_bitCount_0f7a4_29 ?_
  refine ev_iand (pc := 32) dJ6_bitCount_0f7a4_32 ?_
  refine ev_nmi (fun y5 qy6 => ?_)
  have hf := hf y5 qy6
  refine ev_istore_n (pc := 33) (L' := [some (.int y5)]) dJ6_bitCount_0f7a4_33 rfl (by decide) rfl rfl ?_
  refine ev_iload_n (pc := 34) dJ6_bitCount_0f7a4_34 rfl (i := 0) rfl ?_
  refine ev_iload_n (pc := 35) dJ6_bitCount_0f7a4_35 rfl (i := 0) rfl ?_
  refine ev_bipush (pc := 36) (v := 8) dJ6_bitCount_0f7a4_36 kb_8 ?_
  refine ev_iushr (pc := 38) dJ6_bitCount_0f7a4_38 ?_
  refine ev_iadd (pc := 39) dJ6_bitCount_0f7a4_39 ?_
  refine ev_nmi (fun y7 qy8 => ?_)
  have hf := hf y7 qy8
  refine ev_istore_n (pc := 40) (L' := [some (.int y7)]) dJ6_bitCount_0f7a4_40 rfl (by decide) rfl rfl ?_
  refine ev_iload_n (pc := 41) dJ6_bitCount_0f7a4_41 rfl (i := 0) rfl ?_
  refine ev_iload_n (pc := 42) dJ6_bitCount_0f7a4_42 rfl (i := 0) rfl ?_
  refine ev_bipush (pc := 43) (v := 16) dJ6_bitCount_0f7a4_43 kb_16 ?_
  refine ev_iushr (pc := 45) dJ6_bitCount_0f7a4_45 ?_
  refine ev_iadd (pc := 46) dJ6_bitCount_0f7a4_46 ?_
  refine ev_nmi (fun y9 qy10 => ?_)
  have hf := hf y9 qy10
  refine ev_istore_n (pc := 47) (L' := [some (.int y9)]) dJ6_bitCount_0f7a4_47 rfl (by decide) rfl rfl ?_
  refine ev_iload_n (pc := 48) dJ6_bitCount_0f7a4_48 rfl (i := 0) rfl ?_
  refine ev_bipush (pc := 49) (v := 63) dJ6_bitCount_0f7a4_49 kb_63 ?_
  refine ev_iand (pc := 51) dJ6_bitCount_0f7a4_51 ?_
  exact ev_iret (pc := 52) rfl dJ6_bitCount_0f7a4_52 hf
def f_X0_isShift (a1 : Int32) (σ : St) (post : Int32 → St → Prop) : Prop := (a1 < 0 → (post 0 σ)) ∧ (¬ a1 < 0 → (((1 <<< ((σ.1 21 0) &&& 31)) ≤ a1 → (post 0 σ)) ∧ (¬ (1 <<< ((σ.1 21 0) &&& 31)) ≤ a1 → (f_J6_bitCount_0f7a4 a1 σ (fun x4 σ3 => ((σ3.1 21 1) < x4 → (post 0 σ3)) ∧ (¬ (σ3.1 21 1) < x4 → (post 1 σ3)))))))
set_option maxRecDepth 100000 in
set_option maxHeartbeats 4000000 in
theorem c_X0_isShift (a1 : Int32) (σ : St) (post : Int32 → St → Prop) (hf : f_X0_isShift a1 σ post) : Ct SX yX0_isShift cX0_isShift 2 (some .boolean) 1 (EQi SX post) [.ref 21, .int a1] σ := by
  rw [f_X0_isShift] at hf
  refine ct_of (by decide) rfl (Nat.le_of_ble_eq_true rfl) ?_
  show Ev SX RX0 cX0_isShift 2 (some .boolean) 1 (EQi SX post) 0 [some (.ref 21), some (.int a1)] [] σ
  refine ev_iload_n (pc := 0) dX0_isShift_0 rfl (i := 1) rfl ?_
  refine ev_if_lt (pc := 1) (tgt := 29) dX0_isShift_1 (by decide) (fun c1 => ?_) (fun c1 => ?_)
  · have hf := hf.1 c1
    refine ev_iconst (pc := 29) (v := 0) dX0_isShift_29 kc_0 ?_
    exact ev_zret (pc := 30) rfl dX0_isShift_30 rfl hf
  · have hf := hf.2 c1
    refine ev_iload_n (pc := 4) dX0_isShift_4 rfl (i := 1) rfl ?_
    refine ev_iconst (pc := 5) (v := 1) dX0_isShift_5 kc_1 ?_
    refine ev_aload_n (pc := 6) dX0_isShift_6 rfl (i := 0) rfl ?_
    refine ev_get (pc := 7) fl_X0_36_0_0 rfl (by decide) rfl rfl dX0_isShift_7 ?_
    refine ev_ishl (pc := 10) dX0_isShift_10 ?_
    refine ev_icmp_ge (pc := 11) (tgt := 29) dX0_isShift_11 (by decide) (fun c2 => ?_) (fun c2 => ?_)
    · have hf := hf.1 c2
      refine ev_iconst (pc := 29) (v := 0) dX0_isShift_29 kc_0 ?_
      exact ev_zret (pc := 30) rfl dX0_isShift_30 rfl hf
    · have hf := hf.2 c2
      refine ev_iload_n (pc := 14) dX0_isShift_14 rfl (i := 1) rfl ?_
      refine ev_calli (pc := 15) (stk := []) (ce_S (c_J6_bitCount_0f7a4 a1 σ _ hf) wt_X0_68_J6_bitCount_0f7a4  (by decide) rfl (Nat.le_of_ble_eq_true rfl) rfl dX0_isShift_15) (fun x4 σ3 hf => ?_)
      refine ev_aload_n (pc := 18) dX0_isShift_18 rfl (i := 0) rfl ?_
      refine ev_get (pc := 19) fl_X0_9_0_1 rfl (by decide) rfl rfl dX0_isShift_19 ?_
      refine ev_icmp_gt (pc := 22) (tgt := 29) dX0_isShift_22 (by decide) (fun c5 => ?_) (fun c5 => ?_)
      · have hf := hf.1 c5
        refine ev_iconst (pc := 29) (v := 0) dX0_isShift_29 kc_0 ?_
        exact ev_zret (pc := 30) rfl dX0_isShift_30 rfl hf
      · have hf := hf.2 c5
        refine ev_iconst (pc := 25) (v := 1) dX0_isShift_25 kc_1 ?_
        refine ev_goto (pc := 26) (tgt := 30) dX0_isShift_26 (by decide) ?_
        exact ev_zret (pc := 30) rfl dX0_isShift_30 rfl hf
def f_X0_measures_L24 (a1 : Int32) (k65 : Int32 → Int32 → St → Prop) (post : St → Prop) : Nat → Int32 → Int32 → Int32 → St → Prop
  | 0, _, _, _, _ => False
  | n + 1, v2, v3, v4, σ => ((σ.1 21 0) ≤ v4 → (k65 v2 v3 σ)) ∧ (¬ (σ.1 21 0) ≤ v4 → ((¬ ((v2 >>> (v4 &&& 31)) &&& 1) = 1 → ((f_X0_measures_L24 a1 k65 post n) v2 (v3 + 0) (v4 + 1) σ)) ∧ (((v2 >>> (v4 &&& 31)) &&& 1) = 1 → (vp_in a1 6 ∧ (vp_in v4 6 ∧ (∀ y7 : Int32, y7 = (v3 + (σ.1 (25 + a1.toNatClampNeg) v4.toNatClampNeg)) → ((f_X0_measures_L24 a1 k65 post n) v2 y7 (v4 + 1) σ)))))))
set_option maxRecDepth 100000 in
set_option maxHeartbeats 4000000 in
theorem p_X0_measures_L24 (a1 : Int32) (k65 : Int32 → Int32 → St → Prop) (post : St → Prop) (hk65 : ∀ (v2 : Int32) (v3 : Int32) (τ : St), k65 v2 v3 τ → Ev SX RX0 cX0_measures 5 none 2 (EQv SX post) 65 [some (.ref 21), some (.int a1), some (.int v2), some (.int v3), none] [] τ) : ∀ (n : Nat) (v2 : Int32) (v3 : Int32) (v4 : Int32) (σ : St), f_X0_measures_L24 a1 k65 post n v2 v3 v4 σ → Ev SX RX0 cX0_measures 5 none 2 (EQv SX post) 24 [some (.ref 21), some (.int a1), some (.int v2), some (.int v3), some (.int v4)] [] σ := by
  intro n
  induction n with
  | zero =>
    intro v2 v3 v4 σ hf
    exact hf.elim
  | succ n hagain24 =>
    intro v2 v3 v4 σ hf
    rw [f_X0_measures_L24] at hf
    refine ev_iload (pc := 24) dX0_measures_24 rfl ?_
    refine ev_aload_n (pc := 26) dX0_measures_26 rfl (i := 0) rfl ?_
    refine ev_get (pc := 27) fl_X0_36_0_0 rfl (by decide) rfl rfl dX0_measures_27 ?_
    refine ev_icmp_ge (pc := 30) (tgt := 65) dX0_measures_30 (by decide) (fun c3 => ?_) (fun c3 => ?_)
    · have hf := hf.1 c3
      refine ev_mask [true, true, true, true, false] (L' := [some (.ref 21), some (.int a1), some (.int v2), some (.int v3), none]) rfl ?_
      exact hk65 _ _ _ hf
    · have hf := hf.2 c3
      refine ev_iload_n (pc := 33) dX0_measures_33 rfl (i := 3) rfl ?_
      refine ev_iload_n (pc := 34) dX0_measures_34 rfl (i := 2) rfl ?_
      refine ev_iload (pc := 35) dX0_measures_35 rfl ?_
      refine ev_ishr (pc := 37) dX0_measures_37 ?_
      refine ev_iconst (pc := 38) (v := 1) dX0_measures_38 kc_1 ?_
      refine ev_iand (pc := 39) dX0_measures_39 ?_
      refine ev_iconst (pc := 40) (v := 1) dX0_measures_40 kc_1 ?_
      refine ev_icmp_ne (pc := 41) (tgt := 56) dX0_measures_41 (by decide) (fun c4 => ?_) (fun c4 => ?_)
      · have hf := hf.1 c4
        refine ev_iconst (pc := 56) (v := 0) dX0_measures_56 kc_0 ?_
        refine ev_iadd (pc := 57) dX0_measures_57 ?_
        refine ev_istore_n (pc := 58) (L' := [some (.ref 21), some (.int a1), some (.int v2), some (.int (v3 + 0)), some (.int v4)]) dX0_measures_58 rfl (by decide) rfl rfl ?_
        refine ev_iinc (pc := 59) (v := v4 + 1) (L' := [some (.ref 21), some (.int a1), some (.int v2), some (.int (v3 + 0)), some (.int (v4 + 1))]) dX0_measures_59 rfl (by rw [kc_1]) (by decide) rfl rfl ?_
        refine ev_goto (pc := 62) (tgt := 24) dX0_measures_62 (by decide) ?_
        exact hagain24 _ _ _ _ hf
      · have hf := hf.2 c4
        refine ev_aload_n (pc := 44) dX0_measures_44 rfl (i := 0) rfl ?_
        refine ev_get (pc := 45) fl_X0_27_0_5 rfl (by decide) rfl rfl dX0_measures_45 ?_
        refine ev_iload_n (pc := 48) dX0_measures_48 rfl (i := 1) rfl ?_
        obtain ⟨h5, hf⟩ := hf
        refine ev_aald (pc := 49) (t := 4) rfl rfl rfl rfl h5 rfl dX0_measures_49 ?_
        refine ev_iload (pc := 50) dX0_measures_50 rfl ?_
        obtain ⟨h6, hf⟩ := hf
        refine ev_iald (pc := 52) (kr_X_24 h5) rfl h6 rfl dX0_measures_52 ?_
        refine ev_goto (pc := 53) (tgt := 57) dX0_measures_53 (by decide) ?_
        refine ev_iadd (pc := 57) dX0_measures_57 ?_
        refine ev_nmi (fun y7 qy8 => ?_)
        have hf := hf y7 qy8
        refine ev_istore_n (pc := 58) (L' := [some (.ref 21), some (.int a1), some (.int v2), some (.int y7), some (.int v4)]) dX0_measures_58 rfl (by decide) rfl rfl ?_
        refine ev_iinc (pc := 59) (v := v4 + 1) (L' := [some (.ref 21), some (.int a1), some (.int v2), some (.int y7), some (.int (v4 + 1))]) dX0_measures_59 rfl (by rw [kc_1]) (by decide) rfl rfl ?_
        refine ev_goto (pc := 62) (tgt := 24) dX0_measures_62 (by decide) ?_
        exact hagain24 _ _ _ _ hf
def f_X0_measures_L9 (a1 : Int32) (post : St → Prop) : Nat → Int32 → St → Prop
  | 0, _, _ => False
  | n + 1, v2, σ => ((1 <<< ((σ.1 21 0) &&& 31)) ≤ v2 → (post σ)) ∧ (¬ (1 <<< ((σ.1 21 0) &&& 31)) ≤ v2 → (∃ n19 : Nat, f_X0_measures_L24 a1 (fun x10 x11 σ9 => vp_in a1 6 ∧ (vp_in x10 64 ∧ (f_X0_isShift (x10 ||| (1 <<< (a1 &&& 31))) (st_up σ9 (32 + a1.toNatClampNeg) x10.toNatClampNeg x11) (fun x15 σ14 => (x15 = 0 → ((f_X0_measures_L9 a1 post n) (x10 + 1) σ14)) ∧ (¬ x15 = 0 → (vp_in a1 6 ∧ (vp_in a1 6 ∧ ((f_X0_measures_L9 a1 post n) (x10 + 1) (st_up σ14 38 a1.toNatClampNeg (if (σ14.1 38 a1.toNatClampNeg) < x11 then x11 else (σ14.1 38 a1.toNatClampNeg))))))))))) post n19 v2 0 0 σ))
set_option maxRecDepth 100000 in
set_option maxHeartbeats 4000000 in
theorem p_X0_measures_L9 (a1 : Int32) (post : St → Prop) : ∀ (n : Nat) (v2 : Int32) (σ : St), f_X0_measures_L9 a1 post n v2 σ → Ev SX RX0 cX0_measures 5 none 2 (EQv SX post) 9 [some (.ref 21), some (.int a1), some (.int v2), none, none] [] σ := by
  intro n
  induction n with
  | zero =>
    intro v2 σ hf
    exact hf.elim
  | succ n hagain9 =>
    intro v2 σ hf
    rw [f_X0_measures_L9] at hf
    refine ev_iload_n (pc := 9) dX0_measures_9 rfl (i := 2) rfl ?_
    refine ev_iconst (pc := 10) (v := 1) dX0_measures_10 kc_1 ?_
    refine ev_aload_n (pc := 11) dX0_measures_11 rfl (i := 0) rfl ?_
    refine ev_get (pc := 12) fl_X0_36_0_0 rfl (by decide) rfl rfl dX0_measures_12 ?_
    refine ev_ishl (pc := 15) dX0_measures_15 ?_
    refine ev_icmp_ge (pc := 16) (tgt := 108) dX0_measures_16 (by decide) (fun c2 => ?_) (fun c2 => ?_)
    · have hf := hf.1 c2
      exact ev_vret (pc := 108) rfl dX0_measures_108 hf
    · have hf := hf.2 c2
      refine ev_iconst (pc := 19) (v := 0) dX0_measures_19 kc_0 ?_
      refine ev_istore_n (pc := 20) (L' := [some (.ref 21), some (.int a1), some (.int v2), some (.int 0), none]) dX0_measures_20 rfl (by decide) rfl rfl ?_
      refine ev_iconst (pc := 21) (v := 0) dX0_measures_21 kc_0 ?_
      refine ev_istore (pc := 22) (L' := [some (.ref 21), some (.int a1), some (.int v2), some (.int 0), some (.int 0)]) dX0_measures_22 (by decide) rfl rfl ?_
      obtain ⟨n19, hf⟩ := hf
      exact p_X0_measures_L24 a1 _ post (fun x10 x11 σ9 hf => by
        refine ev_aload_n (pc := 65) dX0_measures_65 rfl (i := 0) rfl ?_
        refine ev_get (pc := 66) fl_X0_30_0_6 rfl (by decide) rfl rfl dX0_measures_66 ?_
        refine ev_iload_n (pc := 69) dX0_measures_69 rfl (i := 1) rfl ?_
        obtain ⟨h12, hf⟩ := hf
        refine ev_aald (pc := 70) (t := 4) rfl rfl rfl rfl h12 rfl dX0_measures_70 ?_
        refine ev_iload_n (pc := 71) dX0_measures_71 rfl (i := 2) rfl ?_
        refine ev_iload_n (pc := 72) dX0_measures_72 rfl (i := 3) rfl ?_
        obtain ⟨h13, hf⟩ := hf
        refine ev_iast (pc := 73) (kr_X_31 h12) rfl h13 rfl dX0_measures_73 ?_
        refine ev_aload_n (pc := 74) dX0_measures_74 rfl (i := 0) rfl ?_
        refine ev_iload_n (pc := 75) dX0_measures_75 rfl (i := 2) rfl ?_
        refine ev_iconst (pc := 76) (v := 1) dX0_measures_76 kc_1 ?_
        refine ev_iload_n (pc := 77) dX0_measures_77 rfl (i := 1) rfl ?_
        refine ev_ishl (pc := 78) dX0_measures_78 ?_
        refine ev_ior (pc := 79) dX0_measures_79 ?_
        refine ev_calli (pc := 80) (stk := []) (ce_V (c_X0_isShift (x10 ||| (1 <<< (a1 &&& 31))) (st_up σ9 (32 + a1.toNatClampNeg) x10.toNatClampNeg x11) _ hf) wv_X0_55_X0_isShift rfl (by decide) rfl (by decide) rfl (Nat.le_of_ble_eq_true rfl) rfl dX0_measures_80) (fun x15 σ14 hf => ?_)
        refine ev_if_eq (pc := 83) (tgt := 102) dX0_measures_83 (by decide) (fun c16 => ?_) (fun c16 => ?_)
        · have hf := hf.1 c16
          refine ev_iinc (pc := 102) (v := x10 + 1) (L' := [some (.ref 21), some (.int a1), some (.int (x10 + 1)), some (.int x11), none]) dX0_measures_102 rfl (by rw [kc_1]) (by decide) rfl rfl ?_
          refine ev_goto (pc := 105) (tgt := 9) dX0_measures_105 (by decide) ?_
          refine ev_mask [true, true, true, false, false] (L' := [some (.ref 21), some (.int a1), some (.int (x10 + 1)), none, none]) rfl ?_
          exact hagain9 _ _ hf
        · have hf := hf.2 c16
          refine ev_aload_n (pc := 86) dX0_measures_86 rfl (i := 0) rfl ?_
          refine ev_get (pc := 87) fl_X0_33_0_7 rfl (by decide) rfl rfl dX0_measures_87 ?_
          refine ev_iload_n (pc := 90) dX0_measures_90 rfl (i := 1) rfl ?_
          refine ev_aload_n (pc := 91) dX0_measures_91 rfl (i := 0) rfl ?_
          refine ev_get (pc := 92) fl_X0_33_0_7 rfl (by decide) rfl rfl dX0_measures_92 ?_
          refine ev_iload_n (pc := 95) dX0_measures_95 rfl (i := 1) rfl ?_
          obtain ⟨h17, hf⟩ := hf
          refine ev_iald (pc := 96) rfl rfl h17 rfl dX0_measures_96 ?_
          refine ev_iload_n (pc := 97) dX0_measures_97 rfl (i := 3) rfl ?_
          refine ev_max (pc := 98) wmax_X0_59 (by omega) (Nat.le_of_ble_eq_true rfl) dX0_measures_98 ?_
          obtain ⟨h18, hf⟩ := hf
          refine ev_iast (pc := 101) rfl rfl h18 rfl dX0_measures_101 ?_
          refine ev_iinc (pc := 102) (v := x10 + 1) (L' := [some (.ref 21), some (.int a1), some (.int (x10 + 1)), some (.int x11), none]) dX0_measures_102 rfl (by rw [kc_1]) (by decide) rfl rfl ?_
          refine ev_goto (pc := 105) (tgt := 9) dX0_measures_105 (by decide) ?_
          refine ev_mask [true, true, true, false, false] (L' := [some (.ref 21), some (.int a1), some (.int (x10 + 1)), none, none]) rfl ?_
          exact hagain9 _ _ hf) n19 _ _ _ _ hf
def f_X0_measures (a1 : Int32) (σ : St) (post : St → Prop) : Prop := vp_in a1 6 ∧ (∃ n20 : Nat, f_X0_measures_L9 a1 post n20 0 (st_up σ 38 a1.toNatClampNeg 0))
set_option maxRecDepth 100000 in
set_option maxHeartbeats 4000000 in
theorem c_X0_measures (a1 : Int32) (σ : St) (post : St → Prop) (hf : f_X0_measures a1 σ post) : Ct SX yX0_measures cX0_measures 5 none 2 (EQv SX post) [.ref 21, .int a1] σ := by
  rw [f_X0_measures] at hf
  refine ct_of (by decide) rfl (Nat.le_of_ble_eq_true rfl) ?_
  show Ev SX RX0 cX0_measures 5 none 2 (EQv SX post) 0 [some (.ref 21), some (.int a1), none, none, none] [] σ
  refine ev_aload_n (pc := 0) dX0_measures_0 rfl (i := 0) rfl ?_
  refine ev_get (pc := 1) fl_X0_33_0_7 rfl (by decide) rfl rfl dX0_measures_1 ?_
  refine ev_iload_n (pc := 4) dX0_measures_4 rfl (i := 1) rfl ?_
  refine ev_iconst (pc := 5) (v := 0) dX0_measures_5 kc_0 ?_
  obtain ⟨h1, hf⟩ := hf
  refine ev_iast (pc := 6) rfl rfl h1 rfl dX0_measures_6 ?_
  refine ev_iconst (pc := 7) (v := 0) dX0_measures_7 kc_0 ?_
  refine ev_istore_n (pc := 8) (L' := [some (.ref 21), some (.int a1), some (.int 0), none, none]) dX0_measures_8 rfl (by decide) rfl rfl ?_
  obtain ⟨n20, hf⟩ := hf
  exact p_X0_measures_L9 a1 post n20 _ _ hf
def f_X0_becomes_L56 (post : St → Prop) : Nat → Int32 → St → Prop
  | 0, _, _ => False
  | n + 1, v2, σ => (6 ≤ v2 → (post σ)) ∧ (¬ 6 ≤ v2 → (vp_in v2 6 ∧ (vp_in v2 6 ∧ (f_X0_measures v2 (st_row σ (25 + v2.toNatClampNeg) (va_cpy (σ.1 (7 + v2.toNatClampNeg)) (σ.1 (25 + v2.toNatClampNeg)) 0 0 6)) (fun σ8 => (f_X0_becomes_L56 post n) (v2 + 1) σ8)))))
set_option maxRecDepth 100000 in
set_option maxHeartbeats 4000000 in
theorem p_X0_becomes_L56 (post : St → Prop) : ∀ (n : Nat) (v2 : Int32) (σ : St), f_X0_becomes_L56 post n v2 σ → Ev SX RX0 cX0_becomes 3 none 3 (EQv SX post) 56 [some (.ref 21), some (.ref 3), some (.int v2)] [] σ := by
  intro n
  induction n with
  | zero =>
    intro v2 σ hf
    exact hf.elim
  | succ n hagain56 =>
    intro v2 σ hf
    rw [f_X0_becomes_L56] at hf
    refine ev_iload_n (pc := 56) dX0_becomes_56 rfl (i := 2) rfl ?_
    refine ev_bipush (pc := 57) (v := 6) dX0_becomes_57 kb_6 ?_
    refine ev_icmp_ge (pc := 59) (tgt := 92) dX0_becomes_59 (by decide) (fun c5 => ?_) (fun c5 => ?_)
    · have hf := hf.1 c5
      exact ev_vret (pc := 92) rfl dX0_becomes_92 hf
    · have hf := hf.2 c5
      refine ev_aload_n (pc := 62) dX0_becomes_62 rfl (i := 1) rfl ?_
      refine ev_get (pc := 63) fl_X0_27_0_5 rfl (by decide) rfl rfl dX0_becomes_63 ?_
      refine ev_iload_n (pc := 66) dX0_becomes_66 rfl (i := 2) rfl ?_
      obtain ⟨h6, hf⟩ := hf
      refine ev_aald (pc := 67) (t := 4) rfl rfl rfl rfl h6 rfl dX0_becomes_67 ?_
      refine ev_iconst (pc := 68) (v := 0) dX0_becomes_68 kc_0 ?_
      refine ev_aload_n (pc := 69) dX0_becomes_69 rfl (i := 0) rfl ?_
      refine ev_get (pc := 70) fl_X0_27_0_5 rfl (by decide) rfl rfl dX0_becomes_70 ?_
      refine ev_iload_n (pc := 73) dX0_becomes_73 rfl (i := 2) rfl ?_
      obtain ⟨h7, hf⟩ := hf
      refine ev_aald (pc := 74) (t := 4) rfl rfl rfl rfl h7 rfl dX0_becomes_74 ?_
      refine ev_iconst (pc := 75) (v := 0) dX0_becomes_75 kc_0 ?_
      refine ev_bipush (pc := 76) (v := 6) dX0_becomes_76 kb_6 ?_
      refine ev_copy (pc := 78) wcp_X0_45 (kr_X_6 h6) (kr_X_24 h7) rfl (by decide) kn_0 kn_0 kn_6 (by omega) (Nat.le_of_ble_eq_true rfl) dX0_becomes_78 ?_
      refine ev_aload_n (pc := 81) dX0_becomes_81 rfl (i := 0) rfl ?_
      refine ev_iload_n (pc := 82) dX0_becomes_82 rfl (i := 2) rfl ?_
      refine ev_callv (pc := 83) (stk := []) (ce_V (c_X0_measures v2 (st_row σ (25 + v2.toNatClampNeg) (va_cpy (σ.1 (7 + v2.toNatClampNeg)) (σ.1 (25 + v2.toNatClampNeg)) 0 0 6)) _ hf) wv_X0_51_X0_measures rfl (by decide) rfl (by decide) rfl (Nat.le_of_ble_eq_true rfl) rfl dX0_becomes_83) (fun σ8 hf => ?_)
      refine ev_iinc (pc := 86) (v := v2 + 1) (L' := [some (.ref 21), some (.ref 3), some (.int (v2 + 1))]) dX0_becomes_86 rfl (by rw [kc_1]) (by decide) rfl rfl ?_
      refine ev_goto (pc := 89) (tgt := 56) dX0_becomes_89 (by decide) ?_
      exact hagain56 _ _ hf
def f_X0_becomes (σ : St) (post : St → Prop) : Prop := ∀ σ1 : St, σ1 = (st_up σ 21 0 (σ.1 3 0)) → (∀ σ2 : St, σ2 = (st_up σ1 21 1 ((st_up σ 21 0 (σ.1 3 0)).1 3 1)) → (∀ σ3 : St, σ3 = (st_up σ2 21 2 ((st_up σ1 21 1 ((st_up σ 21 0 (σ.1 3 0)).1 3 1)).1 3 2)) → (∀ σ4 : St, σ4 = (st_row σ3 22 (va_cpy (σ3.1 4) (σ3.1 22) 0 0 6)) → (∃ n10 : Nat, f_X0_becomes_L56 post n10 0 (st_row σ4 23 (va_cpy (σ4.1 5) (σ4.1 23) 0 0 6))))))
set_option maxRecDepth 100000 in
set_option maxHeartbeats 4000000 in
theorem c_X0_becomes (σ : St) (post : St → Prop) (hf : f_X0_becomes σ post) : Ct SX yX0_becomes cX0_becomes 3 none 3 (EQv SX post) [.ref 21, .ref 3] σ := by
  rw [f_X0_becomes] at hf
  refine ct_of (by decide) rfl (Nat.le_of_ble_eq_true rfl) ?_
  show Ev SX RX0 cX0_becomes 3 none 3 (EQv SX post) 0 [some (.ref 21), some (.ref 3), none] [] σ
  refine ev_aload_n (pc := 0) dX0_becomes_0 rfl (i := 0) rfl ?_
  refine ev_aload_n (pc := 1) dX0_becomes_1 rfl (i := 1) rfl ?_
  refine ev_get (pc := 2) fl_X0_36_0_0 rfl (by decide) rfl rfl dX0_becomes_2 ?_
  refine ev_puti (pc := 5) fp_X0_36_0_0 rfl (by decide) rfl rfl rfl dX0_becomes_5 ?_
  refine ev_aload_n (pc := 8) dX0_becomes_8 rfl (i := 0) rfl ?_
  refine ev_aload_n (pc := 9) dX0_becomes_9 rfl (i := 1) rfl ?_
  refine ev_get (pc := 10) fl_X0_9_0_1 rfl (by decide) rfl rfl dX0_becomes_10 ?_
  refine ev_nm (fun σ1 q1 => ?_)
  have hf := hf σ1 q1
  refine ev_puti (pc := 13) fp_X0_9_0_1 rfl (by decide) rfl rfl rfl dX0_becomes_13 ?_
  refine ev_aload_n (pc := 16) dX0_becomes_16 rfl (i := 0) rfl ?_
  refine ev_aload_n (pc := 17) dX0_becomes_17 rfl (i := 1) rfl ?_
  refine ev_get (pc := 18) fl_X0_15_0_2 rfl (by decide) rfl rfl dX0_becomes_18 ?_
  refine ev_nm (fun σ2 q2 => ?_)
  have hf := hf σ2 q2
  refine ev_puti (pc := 21) fp_X0_15_0_2 rfl (by decide) rfl rfl rfl dX0_becomes_21 ?_
  refine ev_aload_n (pc := 24) dX0_becomes_24 rfl (i := 1) rfl ?_
  refine ev_get (pc := 25) fl_X0_18_0_3 rfl (by decide) rfl rfl dX0_becomes_25 ?_
  refine ev_iconst (pc := 28) (v := 0) dX0_becomes_28 kc_0 ?_
  refine ev_aload_n (pc := 29) dX0_becomes_29 rfl (i := 0) rfl ?_
  refine ev_get (pc := 30) fl_X0_18_0_3 rfl (by decide) rfl rfl dX0_becomes_30 ?_
  refine ev_iconst (pc := 33) (v := 0) dX0_becomes_33 kc_0 ?_
  refine ev_bipush (pc := 34) (v := 6) dX0_becomes_34 kb_6 ?_
  refine ev_nm (fun σ3 q3 => ?_)
  have hf := hf σ3 q3
  refine ev_copy (pc := 36) wcp_X0_45 rfl rfl rfl (by decide) kn_0 kn_0 kn_6 (by omega) (Nat.le_of_ble_eq_true rfl) dX0_becomes_36 ?_
  refine ev_aload_n (pc := 39) dX0_becomes_39 rfl (i := 1) rfl ?_
  refine ev_get (pc := 40) fl_X0_22_0_4 rfl (by decide) rfl rfl dX0_becomes_40 ?_
  refine ev_iconst (pc := 43) (v := 0) dX0_becomes_43 kc_0 ?_
  refine ev_aload_n (pc := 44) dX0_becomes_44 rfl (i := 0) rfl ?_
  refine ev_get (pc := 45) fl_X0_22_0_4 rfl (by decide) rfl rfl dX0_becomes_45 ?_
  refine ev_iconst (pc := 48) (v := 0) dX0_becomes_48 kc_0 ?_
  refine ev_bipush (pc := 49) (v := 6) dX0_becomes_49 kb_6 ?_
  refine ev_nm (fun σ4 q4 => ?_)
  have hf := hf σ4 q4
  refine ev_copy (pc := 51) wcp_X0_45 rfl rfl rfl (by decide) kn_0 kn_0 kn_6 (by omega) (Nat.le_of_ble_eq_true rfl) dX0_becomes_51 ?_
  refine ev_iconst (pc := 54) (v := 0) dX0_becomes_54 kc_0 ?_
  refine ev_istore_n (pc := 55) (L' := [some (.ref 21), some (.ref 3), some (.int 0)]) dX0_becomes_55 rfl (by decide) rfl rfl ?_
  obtain ⟨n10, hf⟩ := hf
  exact p_X0_becomes_L56 post n10 _ _ hf
def f_X10_readsValue (a1 : Int32) (σ : St) (post : St → Prop) : Prop := (¬ (σ.1 1 4) = 1 → ((¬ a1 = 1 → ((¬ a1 = 2 → (post (st_up σ 1 4 4))) ∧ (a1 = 2 → (vp_in (σ.1 1 2) 150 ∧ (((σ.1 2 ((σ.1 1 2).toNatClampNeg)) = 48 → (post (st_up σ 1 4 4))) ∧ (¬ (σ.1 2 ((σ.1 1 2).toNatClampNeg)) = 48 → (vp_in (σ.1 1 2) 150 ∧ (vp_in ((σ.1 1 2) + 1) 150 ∧ (post (st_up σ 1 5 (((((σ.1 2 ((σ.1 1 2).toNatClampNeg)) - 48) * 10) + (σ.1 2 (((σ.1 1 2) + 1).toNatClampNeg))) - 48))))))))))) ∧ (a1 = 1 → (vp_in (σ.1 1 2) 150 ∧ (post (st_up σ 1 5 ((σ.1 2 ((σ.1 1 2).toNatClampNeg)) - 48))))))) ∧ ((σ.1 1 4) = 1 → ((¬ a1 = 1 → (post (st_up σ 1 5 0))) ∧ (a1 = 1 → (vp_in (σ.1 1 2) 150 ∧ (post (st_up σ 1 5 (σ.1 2 ((σ.1 1 2).toNatClampNeg))))))))
set_option maxRecDepth 100000 in
set_option maxHeartbeats 4000000 in
theorem c_X10_readsValue (a1 : Int32) (σ : St) (post : St → Prop) (hf : f_X10_readsValue a1 σ post) : Ct SX yX10_readsValue cX10_readsValue 2 none 0 (EQv SX post) [.ref 1, .int a1] σ := by
  rw [f_X10_readsValue] at hf
  refine ct_of (by decide) rfl (Nat.le_of_ble_eq_true rfl) ?_
  show Ev SX RX10 cX10_readsValue 2 none 0 (EQv SX post) 0 [some (.ref 1), some (.int a1)] [] σ
  refine ev_aload_n (pc := 0) dX10_readsValue_0 rfl (i := 0) rfl ?_
  refine ev_get (pc := 1) fl_X10_40_10_4 rfl (by decide) rfl rfl dX10_readsValue_1 ?_
  refine ev_iconst (pc := 4) (v := 1) dX10_readsValue_4 kc_1 ?_
  refine ev_icmp_ne (pc := 5) (tgt := 33) dX10_readsValue_5 (by decide) (fun c1 => ?_) (fun c1 => ?_)
  · have hf := hf.1 c1
    refine ev_iload_n (pc := 33) dX10_readsValue_33 rfl (i := 1) rfl ?_
    refine ev_iconst (pc := 34) (v := 1) dX10_readsValue_34 kc_1 ?_
    refine ev_icmp_ne (pc := 35) (tgt := 57) dX10_readsValue_35 (by decide) (fun c2 => ?_) (fun c2 => ?_)
    · have hf := hf.1 c2
      refine ev_iload_n (pc := 57) dX10_readsValue_57 rfl (i := 1) rfl ?_
      refine ev_iconst (pc := 58) (v := 2) dX10_readsValue_58 kc_2 ?_
      refine ev_icmp_ne (pc := 59) (tgt := 113) dX10_readsValue_59 (by decide) (fun c3 => ?_) (fun c3 => ?_)
      · have hf := hf.1 c3
        refine ev_aload_n (pc := 113) dX10_readsValue_113 rfl (i := 0) rfl ?_
        refine ev_iconst (pc := 114) (v := 4) dX10_readsValue_114 kc_4 ?_
        refine ev_puti (pc := 115) fp_X10_40_10_4 rfl (by decide) rfl rfl rfl dX10_readsValue_115 ?_
        exact ev_vret (pc := 118) rfl dX10_readsValue_118 hf
      · have hf := hf.2 c3
        refine ev_aload_n (pc := 62) dX10_readsValue_62 rfl (i := 0) rfl ?_
        refine ev_get (pc := 63) fl_X10_9_10_1 rfl (by decide) rfl rfl dX10_readsValue_63 ?_
        refine ev_aload_n (pc := 66) dX10_readsValue_66 rfl (i := 0) rfl ?_
        refine ev_get (pc := 67) fl_X10_47_10_2 rfl (by decide) rfl rfl dX10_readsValue_67 ?_
        obtain ⟨h4, hf⟩ := hf
        refine ev_iald (pc := 70) rfl rfl h4 rfl dX10_readsValue_70 ?_
        refine ev_bipush (pc := 71) (v := 48) dX10_readsValue_71 kb_48 ?_
        refine ev_icmp_eq (pc := 73) (tgt := 113) dX10_readsValue_73 (by decide) (fun c5 => ?_) (fun c5 => ?_)
        · have hf := hf.1 c5
          refine ev_aload_n (pc := 113) dX10_readsValue_113 rfl (i := 0) rfl ?_
          refine ev_iconst (pc := 114) (v := 4) dX10_readsValue_114 kc_4 ?_
          refine ev_puti (pc := 115) fp_X10_40_10_4 rfl (by decide) rfl rfl rfl dX10_readsValue_115 ?_
          exact ev_vret (pc := 118) rfl dX10_readsValue_118 hf
        · have hf := hf.2 c5
          refine ev_aload_n (pc := 76) dX10_readsValue_76 rfl (i := 0) rfl ?_
          refine ev_aload_n (pc := 77) dX10_readsValue_77 rfl (i := 0) rfl ?_
          refine ev_get (pc := 78) fl_X10_9_10_1 rfl (by decide) rfl rfl dX10_readsValue_78 ?_
          refine ev_aload_n (pc := 81) dX10_readsValue_81 rfl (i := 0) rfl ?_
          refine ev_get (pc := 82) fl_X10_47_10_2 rfl (by decide) rfl rfl dX10_readsValue_82 ?_
          obtain ⟨h6, hf⟩ := hf
          refine ev_iald (pc := 85) rfl rfl h6 rfl dX10_readsValue_85 ?_
          refine ev_bipush (pc := 86) (v := 48) dX10_readsValue_86 kb_48 ?_
          refine ev_isub (pc := 88) dX10_readsValue_88 ?_
          refine ev_bipush (pc := 89) (v := 10) dX10_readsValue_89 kb_10 ?_
          refine ev_imul (pc := 91) dX10_readsValue_91 ?_
          refine ev_aload_n (pc := 92) dX10_readsValue_92 rfl (i := 0) rfl ?_
          refine ev_get (pc := 93) fl_X10_9_10_1 rfl (by decide) rfl rfl dX10_readsValue_93 ?_
          refine ev_aload_n (pc := 96) dX10_readsValue_96 rfl (i := 0) rfl ?_
          refine ev_get (pc := 97) fl_X10_47_10_2 rfl (by decide) rfl rfl dX10_readsValue_97 ?_
          refine ev_iconst (pc := 100) (v := 1) dX10_readsValue_100 kc_1 ?_
          refine ev_iadd (pc := 101) dX10_readsValue_101 ?_
          obtain ⟨h7, hf⟩ := hf
          refine ev_iald (pc := 102) rfl rfl h7 rfl dX10_readsValue_102 ?_
          refine ev_iadd (pc := 103) dX10_readsValue_103 ?_
          refine ev_bipush (pc := 104) (v := 48) dX10_readsValue_104 kb_48 ?_
          refine ev_isub (pc := 106) dX10_readsValue_106 ?_
          refine ev_puti (pc := 107) fp_X10_50_10_5 rfl (by decide) rfl rfl rfl dX10_readsValue_107 ?_
          refine ev_goto (pc := 110) (tgt := 118) dX10_readsValue_110 (by decide) ?_
          exact ev_vret (pc := 118) rfl dX10_readsValue_118 hf
    · have hf := hf.2 c2
      refine ev_aload_n (pc := 38) dX10_readsValue_38 rfl (i := 0) rfl ?_
      refine ev_aload_n (pc := 39) dX10_readsValue_39 rfl (i := 0) rfl ?_
      refine ev_get (pc := 40) fl_X10_9_10_1 rfl (by decide) rfl rfl dX10_readsValue_40 ?_
      refine ev_aload_n (pc := 43) dX10_readsValue_43 rfl (i := 0) rfl ?_
      refine ev_get (pc := 44) fl_X10_47_10_2 rfl (by decide) rfl rfl dX10_readsValue_44 ?_
      obtain ⟨h8, hf⟩ := hf
      refine ev_iald (pc := 47) rfl rfl h8 rfl dX10_readsValue_47 ?_
      refine ev_bipush (pc := 48) (v := 48) dX10_readsValue_48 kb_48 ?_
      refine ev_isub (pc := 50) dX10_readsValue_50 ?_
      refine ev_puti (pc := 51) fp_X10_50_10_5 rfl (by decide) rfl rfl rfl dX10_readsValue_51 ?_
      refine ev_goto (pc := 54) (tgt := 118) dX10_readsValue_54 (by decide) ?_
      exact ev_vret (pc := 118) rfl dX10_readsValue_118 hf
  · have hf := hf.2 c1
    refine ev_aload_n (pc := 8) dX10_readsValue_8 rfl (i := 0) rfl ?_
    refine ev_iload_n (pc := 9) dX10_readsValue_9 rfl (i := 1) rfl ?_
    refine ev_iconst (pc := 10) (v := 1) dX10_readsValue_10 kc_1 ?_
    refine ev_icmp_ne (pc := 11) (tgt := 26) dX10_readsValue_11 (by decide) (fun c9 => ?_) (fun c9 => ?_)
    · have hf := hf.1 c9
      refine ev_iconst (pc := 26) (v := 0) dX10_readsValue_26 kc_0 ?_
      refine ev_puti (pc := 27) fp_X10_50_10_5 rfl (by decide) rfl rfl rfl dX10_readsValue_27 ?_
      refine ev_goto (pc := 30) (tgt := 118) dX10_readsValue_30 (by decide) ?_
      exact ev_vret (pc := 118) rfl dX10_readsValue_118 hf
    · have hf := hf.2 c9
      refine ev_aload_n (pc := 14) dX10_readsValue_14 rfl (i := 0) rfl ?_
      refine ev_get (pc := 15) fl_X10_9_10_1 rfl (by decide) rfl rfl dX10_readsValue_15 ?_
      refine ev_aload_n (pc := 18) dX10_readsValue_18 rfl (i := 0) rfl ?_
      refine ev_get (pc := 19) fl_X10_47_10_2 rfl (by decide) rfl rfl dX10_readsValue_19 ?_
      obtain ⟨h10, hf⟩ := hf
      refine ev_iald (pc := 22) rfl rfl h10 rfl dX10_readsValue_22 ?_
      refine ev_goto (pc := 23) (tgt := 27) dX10_readsValue_23 (by decide) ?_
      refine ev_puti (pc := 27) fp_X10_50_10_5 rfl (by decide) rfl rfl rfl dX10_readsValue_27 ?_
      refine ev_goto (pc := 30) (tgt := 118) dX10_readsValue_30 (by decide) ?_
      exact ev_vret (pc := 118) rfl dX10_readsValue_118 hf
def f_X10_signAt_J45 (a1 : Int32) (post : Int32 → St → Prop) (v2 : Int32) (σ : St) : Prop := (¬ v2 = 59 → (post 4 σ)) ∧ (v2 = 59 → (post 3 σ))
set_option maxRecDepth 100000 in
set_option maxHeartbeats 4000000 in
theorem p_X10_signAt_J45 (a1 : Int32) (post : Int32 → St → Prop) (v2 : Int32) (σ : St) (hf : f_X10_signAt_J45 a1 post v2 σ) : Ev SX RX10 cX10_signAt 3 (some .int) 0 (EQi SX post) 45 [some (.ref 1), some (.int a1), some (.int v2)] [] σ := by
  rw [f_X10_signAt_J45] at hf
  refine ev_iload_n (pc := 45) dX10_signAt_45 rfl (i := 2) rfl ?_
  refine ev_bipush (pc := 46) (v := 59) dX10_signAt_46 kb_59 ?_
  refine ev_icmp_ne (pc := 48) (tgt := 55) dX10_signAt_48 (by decide) (fun c5 => ?_) (fun c5 => ?_)
  · have hf := hf.1 c5
    refine ev_iconst (pc := 55) (v := 4) dX10_signAt_55 kc_4 ?_
    exact ev_iret (pc := 56) rfl dX10_signAt_56 hf
  · have hf := hf.2 c5
    refine ev_iconst (pc := 51) (v := 3) dX10_signAt_51 kc_3 ?_
    refine ev_goto (pc := 52) (tgt := 56) dX10_signAt_52 (by decide) ?_
    exact ev_iret (pc := 56) rfl dX10_signAt_56 hf
def f_X10_signAt_J31 (a1 : Int32) (post : Int32 → St → Prop) (v2 : Int32) (σ : St) : Prop := (v2 < 48 → (f_X10_signAt_J45 a1 post v2 σ)) ∧ (¬ v2 < 48 → ((57 < v2 → (f_X10_signAt_J45 a1 post v2 σ)) ∧ (¬ 57 < v2 → (post 2 σ))))
set_option maxRecDepth 100000 in
set_option maxHeartbeats 4000000 in
theorem p_X10_signAt_J31 (a1 : Int32) (post : Int32 → St → Prop) (v2 : Int32) (σ : St) (hf : f_X10_signAt_J31 a1 post v2 σ) : Ev SX RX10 cX10_signAt 3 (some .int) 0 (EQi SX post) 31 [some (.ref 1), some (.int a1), some (.int v2)] [] σ := by
  rw [f_X10_signAt_J31] at hf
  refine ev_iload_n (pc := 31) dX10_signAt_31 rfl (i := 2) rfl ?_
  refine ev_bipush (pc := 32) (v := 48) dX10_signAt_32 kb_48 ?_
  refine ev_icmp_lt (pc := 34) (tgt := 45) dX10_signAt_34 (by decide) (fun c4 => ?_) (fun c4 => ?_)
  · have hf := hf.1 c4
    exact p_X10_signAt_J45 a1 post _ _ hf
  · have hf := hf.2 c4
    refine ev_iload_n (pc := 37) dX10_signAt_37 rfl (i := 2) rfl ?_
    refine ev_bipush (pc := 38) (v := 57) dX10_signAt_38 kb_57 ?_
    refine ev_icmp_gt (pc := 40) (tgt := 45) dX10_signAt_40 (by decide) (fun c6 => ?_) (fun c6 => ?_)
    · have hf := hf.1 c6
      exact p_X10_signAt_J45 a1 post _ _ hf
    · have hf := hf.2 c6
      refine ev_iconst (pc := 43) (v := 2) dX10_signAt_43 kc_2 ?_
      exact ev_iret (pc := 44) rfl dX10_signAt_44 hf
def f_X10_signAt (a1 : Int32) (σ : St) (post : Int32 → St → Prop) : Prop := (a1 < (σ.1 1 0) → (vp_in a1 150 ∧ (((σ.1 2 a1.toNatClampNeg) < 97 → (f_X10_signAt_J31 a1 post (σ.1 2 a1.toNatClampNeg) σ)) ∧ (¬ (σ.1 2 a1.toNatClampNeg) < 97 → ((122 < (σ.1 2 a1.toNatClampNeg) → (f_X10_signAt_J31 a1 post (σ.1 2 a1.toNatClampNeg) σ)) ∧ (¬ 122 < (σ.1 2 a1.toNatClampNeg) → (post 1 σ))))))) ∧ (¬ a1 < (σ.1 1 0) → (post 0 σ))
set_option maxRecDepth 100000 in
set_option maxHeartbeats 4000000 in
theorem c_X10_signAt (a1 : Int32) (σ : St) (post : Int32 → St → Prop) (hf : f_X10_signAt a1 σ post) : Ct SX yX10_signAt cX10_signAt 3 (some .int) 0 (EQi SX post) [.ref 1, .int a1] σ := by
  rw [f_X10_signAt] at hf
  refine ct_of (by decide) rfl (Nat.le_of_ble_eq_true rfl) ?_
  show Ev SX RX10 cX10_signAt 3 (some .int) 0 (EQi SX post) 0 [some (.ref 1), some (.int a1), none] [] σ
  refine ev_iload_n (pc := 0) dX10_signAt_0 rfl (i := 1) rfl ?_
  refine ev_aload_n (pc := 1) dX10_signAt_1 rfl (i := 0) rfl ?_
  refine ev_get (pc := 2) fl_X10_15_10_0 rfl (by decide) rfl rfl dX10_signAt_2 ?_
  refine ev_icmp_lt (pc := 5) (tgt := 10) dX10_signAt_5 (by decide) (fun c1 => ?_) (fun c1 => ?_)
  · have hf := hf.1 c1
    refine ev_aload_n (pc := 10) dX10_signAt_10 rfl (i := 0) rfl ?_
    refine ev_get (pc := 11) fl_X10_9_10_1 rfl (by decide) rfl rfl dX10_signAt_11 ?_
    refine ev_iload_n (pc := 14) dX10_signAt_14 rfl (i := 1) rfl ?_
    obtain ⟨h2, hf⟩ := hf
    refine ev_iald (pc := 15) rfl rfl h2 rfl dX10_signAt_15 ?_
    refine ev_istore_n (pc := 16) (L' := [some (.ref 1), some (.int a1), some (.int (σ.1 2 a1.toNatClampNeg))]) dX10_signAt_16 rfl (by decide) rfl rfl ?_
    refine ev_iload_n (pc := 17) dX10_signAt_17 rfl (i := 2) rfl ?_
    refine ev_bipush (pc := 18) (v := 97) dX10_signAt_18 kb_97 ?_
    refine ev_icmp_lt (pc := 20) (tgt := 31) dX10_signAt_20 (by decide) (fun c3 => ?_) (fun c3 => ?_)
    · have hf := hf.1 c3
      exact p_X10_signAt_J31 a1 post _ _ hf
    · have hf := hf.2 c3
      refine ev_iload_n (pc := 23) dX10_signAt_23 rfl (i := 2) rfl ?_
      refine ev_bipush (pc := 24) (v := 122) dX10_signAt_24 kb_122 ?_
      refine ev_icmp_gt (pc := 26) (tgt := 31) dX10_signAt_26 (by decide) (fun c7 => ?_) (fun c7 => ?_)
      · have hf := hf.1 c7
        exact p_X10_signAt_J31 a1 post _ _ hf
      · have hf := hf.2 c7
        refine ev_iconst (pc := 29) (v := 1) dX10_signAt_29 kc_1 ?_
        exact ev_iret (pc := 30) rfl dX10_signAt_30 hf
  · have hf := hf.2 c1
    refine ev_iconst (pc := 8) (v := 0) dX10_signAt_8 kc_0 ?_
    exact ev_iret (pc := 9) rfl dX10_signAt_9 hf
def f_X10_readsToken_L0 (k38 : St → Prop) (post : St → Prop) : Nat → St → Prop
  | 0, _ => False
  | n + 1, σ => ((σ.1 1 0) ≤ (σ.1 1 3) → (k38 σ)) ∧ (¬ (σ.1 1 0) ≤ (σ.1 1 3) → (vp_in (σ.1 1 3) 150 ∧ ((¬ (σ.1 2 ((σ.1 1 3).toNatClampNeg)) = 32 → (k38 σ)) ∧ ((σ.1 2 ((σ.1 1 3).toNatClampNeg)) = 32 → ((f_X10_readsToken_L0 k38 post n) (st_up σ 1 3 ((σ.1 1 3) + 1)))))))
set_option maxRecDepth 100000 in
set_option maxHeartbeats 4000000 in
theorem p_X10_readsToken_L0 (k38 : St → Prop) (post : St → Prop) (hk38 : ∀ (τ : St), k38 τ → Ev SX RX10 cX10_readsToken 1 none 1 (EQv SX post) 38 [some (.ref 1)] [] τ) : ∀ (n : Nat) (σ : St), f_X10_readsToken_L0 k38 post n σ → Ev SX RX10 cX10_readsToken 1 none 1 (EQv SX post) 0 [some (.ref 1)] [] σ := by
  intro n
  induction n with
  | zero =>
    intro σ hf
    exact hf.elim
  | succ n hagain0 =>
    intro σ hf
    rw [f_X10_readsToken_L0] at hf
    refine ev_aload_n (pc := 0) dX10_readsToken_0 rfl (i := 0) rfl ?_
    refine ev_get (pc := 1) fl_X10_24_10_3 rfl (by decide) rfl rfl dX10_readsToken_1 ?_
    refine ev_aload_n (pc := 4) dX10_readsToken_4 rfl (i := 0) rfl ?_
    refine ev_get (pc := 5) fl_X10_15_10_0 rfl (by decide) rfl rfl dX10_readsToken_5 ?_
    refine ev_icmp_ge (pc := 8) (tgt := 38) dX10_readsToken_8 (by decide) (fun c1 => ?_) (fun c1 => ?_)
    · have hf := hf.1 c1
      exact hk38 _ hf
    · have hf := hf.2 c1
      refine ev_aload_n (pc := 11) dX10_readsToken_11 rfl (i := 0) rfl ?_
      refine ev_get (pc := 12) fl_X10_9_10_1 rfl (by decide) rfl rfl dX10_readsToken_12 ?_
      refine ev_aload_n (pc := 15) dX10_readsToken_15 rfl (i := 0) rfl ?_
      refine ev_get (pc := 16) fl_X10_24_10_3 rfl (by decide) rfl rfl dX10_readsToken_16 ?_
      obtain ⟨h2, hf⟩ := hf
      refine ev_iald (pc := 19) rfl rfl h2 rfl dX10_readsToken_19 ?_
      refine ev_bipush (pc := 20) (v := 32) dX10_readsToken_20 kb_32 ?_
      refine ev_icmp_ne (pc := 22) (tgt := 38) dX10_readsToken_22 (by decide) (fun c3 => ?_) (fun c3 => ?_)
      · have hf := hf.1 c3
        exact hk38 _ hf
      · have hf := hf.2 c3
        refine ev_aload_n (pc := 25) dX10_readsToken_25 rfl (i := 0) rfl ?_
        refine ev_dup (pc := 26) dX10_readsToken_26 rfl ?_
        refine ev_get (pc := 27) fl_X10_24_10_3 rfl (by decide) rfl rfl dX10_readsToken_27 ?_
        refine ev_iconst (pc := 30) (v := 1) dX10_readsToken_30 kc_1 ?_
        refine ev_iadd (pc := 31) dX10_readsToken_31 ?_
        refine ev_puti (pc := 32) fp_X10_24_10_3 rfl (by decide) rfl rfl rfl dX10_readsToken_32 ?_
        refine ev_goto (pc := 35) (tgt := 0) dX10_readsToken_35 (by decide) ?_
        exact hagain0 _ hf
def f_X10_readsToken_L95 (k134 : St → Prop) (post : St → Prop) : Nat → St → Prop
  | 0, _ => False
  | n + 1, σ => ((σ.1 1 0) ≤ (σ.1 1 3) → (k134 σ)) ∧ (¬ (σ.1 1 0) ≤ (σ.1 1 3) → (f_X10_signAt (σ.1 1 3) σ (fun x11 σ10 => (¬ x11 = (σ10.1 1 4) → (k134 σ10)) ∧ (x11 = (σ10.1 1 4) → ((f_X10_readsToken_L95 k134 post n) (st_up σ10 1 3 ((σ10.1 1 3) + 1)))))))
set_option maxRecDepth 100000 in
set_option maxHeartbeats 4000000 in
theorem p_X10_readsToken_L95 (k134 : St → Prop) (post : St → Prop) (hk134 : ∀ (τ : St), k134 τ → Ev SX RX10 cX10_readsToken 1 none 1 (EQv SX post) 134 [some (.ref 1)] [] τ) : ∀ (n : Nat) (σ : St), f_X10_readsToken_L95 k134 post n σ → Ev SX RX10 cX10_readsToken 1 none 1 (EQv SX post) 95 [some (.ref 1)] [] σ := by
  intro n
  induction n with
  | zero =>
    intro σ hf
    exact hf.elim
  | succ n hagain95 =>
    intro σ hf
    rw [f_X10_readsToken_L95] at hf
    refine ev_aload_n (pc := 95) dX10_readsToken_95 rfl (i := 0) rfl ?_
    refine ev_get (pc := 96) fl_X10_24_10_3 rfl (by decide) rfl rfl dX10_readsToken_96 ?_
    refine ev_aload_n (pc := 99) dX10_readsToken_99 rfl (i := 0) rfl ?_
    refine ev_get (pc := 100) fl_X10_15_10_0 rfl (by decide) rfl rfl dX10_readsToken_100 ?_
    refine ev_icmp_ge (pc := 103) (tgt := 134) dX10_readsToken_103 (by decide) (fun c9 => ?_) (fun c9 => ?_)
    · have hf := hf.1 c9
      exact hk134 _ hf
    · have hf := hf.2 c9
      refine ev_aload_n (pc := 106) dX10_readsToken_106 rfl (i := 0) rfl ?_
      refine ev_aload_n (pc := 107) dX10_readsToken_107 rfl (i := 0) rfl ?_
      refine ev_get (pc := 108) fl_X10_24_10_3 rfl (by decide) rfl rfl dX10_readsToken_108 ?_
      refine ev_calli (pc := 111) (stk := []) (ce_V (c_X10_signAt (σ.1 1 3) σ _ hf) wv_X10_83_X10_signAt rfl (by decide) rfl (by decide) rfl (Nat.le_of_ble_eq_true rfl) rfl dX10_readsToken_111) (fun x11 σ10 hf => ?_)
      refine ev_aload_n (pc := 114) dX10_readsToken_114 rfl (i := 0) rfl ?_
      refine ev_get (pc := 115) fl_X10_40_10_4 rfl (by decide) rfl rfl dX10_readsToken_115 ?_
      refine ev_icmp_ne (pc := 118) (tgt := 134) dX10_readsToken_118 (by decide) (fun c12 => ?_) (fun c12 => ?_)
      · have hf := hf.1 c12
        exact hk134 _ hf
      · have hf := hf.2 c12
        refine ev_aload_n (pc := 121) dX10_readsToken_121 rfl (i := 0) rfl ?_
        refine ev_dup (pc := 122) dX10_readsToken_122 rfl ?_
        refine ev_get (pc := 123) fl_X10_24_10_3 rfl (by decide) rfl rfl dX10_readsToken_123 ?_
        refine ev_iconst (pc := 126) (v := 1) dX10_readsToken_126 kc_1 ?_
        refine ev_iadd (pc := 127) dX10_readsToken_127 ?_
        refine ev_puti (pc := 128) fp_X10_24_10_3 rfl (by decide) rfl rfl rfl dX10_readsToken_128 ?_
        refine ev_goto (pc := 131) (tgt := 95) dX10_readsToken_131 (by decide) ?_
        exact hagain95 _ hf
def f_X10_readsToken_J134 (post : St → Prop) (σ : St) : Prop := f_X10_readsValue ((σ.1 1 3) - (σ.1 1 2)) σ (fun σ14 => post σ14)
set_option maxRecDepth 100000 in
set_option maxHeartbeats 4000000 in
theorem p_X10_readsToken_J134 (post : St → Prop) (σ : St) (hf : f_X10_readsToken_J134 post σ) : Ev SX RX10 cX10_readsToken 1 none 1 (EQv SX post) 134 [some (.ref 1)] [] σ := by
  rw [f_X10_readsToken_J134] at hf
  refine ev_aload_n (pc := 134) dX10_readsToken_134 rfl (i := 0) rfl ?_
  refine ev_aload_n (pc := 135) dX10_readsToken_135 rfl (i := 0) rfl ?_
  refine ev_get (pc := 136) fl_X10_24_10_3 rfl (by decide) rfl rfl dX10_readsToken_136 ?_
  refine ev_aload_n (pc := 139) dX10_readsToken_139 rfl (i := 0) rfl ?_
  refine ev_get (pc := 140) fl_X10_47_10_2 rfl (by decide) rfl rfl dX10_readsToken_140 ?_
  refine ev_isub (pc := 143) dX10_readsToken_143 ?_
  refine ev_callv (pc := 144) (stk := []) (ce_V (c_X10_readsValue ((σ.1 1 3) - (σ.1 1 2)) σ _ hf) wv_X10_87_X10_readsValue rfl (by decide) rfl (by decide) rfl (Nat.le_of_ble_eq_true rfl) rfl dX10_readsToken_144) (fun σ14 hf => ?_)
  exact ev_vret (pc := 147) rfl dX10_readsToken_147 hf
def f_X10_readsToken_J38 (post : St → Prop) (σ : St) : Prop := f_X10_signAt ((st_up σ 1 2 (σ.1 1 3)).1 1 2) (st_up σ 1 2 (σ.1 1 3)) (fun x6 σ5 => (¬ ((st_up σ5 1 4 x6).1 1 4) = 3 → ((((st_up σ5 1 4 x6).1 1 4) = 1 → (∃ n16 : Nat, f_X10_readsToken_L95 (fun σ13 => f_X10_readsToken_J134 post σ13) post n16 (st_up σ5 1 4 x6))) ∧ (¬ ((st_up σ5 1 4 x6).1 1 4) = 1 → ((¬ ((st_up σ5 1 4 x6).1 1 4) = 2 → (post (st_up σ5 1 4 x6))) ∧ (((st_up σ5 1 4 x6).1 1 4) = 2 → (∃ n19 : Nat, f_X10_readsToken_L95 (fun σ18 => f_X10_readsToken_J134 post σ18) post n19 (st_up σ5 1 4 x6))))))) ∧ (((st_up σ5 1 4 x6).1 1 4) = 3 → (∀ σ20 : St, σ20 = (st_up σ5 1 4 x6) → (post (st_up σ20 1 3 (((st_up σ5 1 4 x6).1 1 3) + 1))))))
set_option maxRecDepth 100000 in
set_option maxHeartbeats 4000000 in
theorem p_X10_readsToken_J38 (post : St → Prop) (σ : St) (hf : f_X10_readsToken_J38 post σ) : Ev SX RX10 cX10_readsToken 1 none 1 (EQv SX post) 38 [some (.ref 1)] [] σ := by
  rw [f_X10_readsToken_J38] at hf
  refine ev_aload_n (pc := 38) dX10_readsToken_38 rfl (i := 0) rfl ?_
  refine ev_aload_n (pc := 39) dX10_readsToken_39 rfl (i := 0) rfl ?_
  refine ev_get (pc := 40) fl_X10_24_10_3 rfl (by decide) rfl rfl dX10_readsToken_40 ?_
  refine ev_puti (pc := 43) fp_X10_47_10_2 rfl (by decide) rfl rfl rfl dX10_readsToken_43 ?_
  refine ev_aload_n (pc := 46) dX10_readsToken_46 rfl (i := 0) rfl ?_
  refine ev_aload_n (pc := 47) dX10_readsToken_47 rfl (i := 0) rfl ?_
  refine ev_aload_n (pc := 48) dX10_readsToken_48 rfl (i := 0) rfl ?_
  refine ev_get (pc := 49) fl_X10_47_10_2 rfl (by decide) rfl rfl dX10_readsToken_49 ?_
  refine ev_calli (pc := 52) (stk := [.ref 1]) (ce_V (c_X10_signAt ((st_up σ 1 2 (σ.1 1 3)).1 1 2) (st_up σ 1 2 (σ.1 1 3)) _ hf) wv_X10_83_X10_signAt rfl (by decide) rfl (by decide) rfl (Nat.le_of_ble_eq_true rfl) rfl dX10_readsToken_52) (fun x6 σ5 hf => ?_)
  refine ev_puti (pc := 55) fp_X10_40_10_4 rfl (by decide) rfl rfl rfl dX10_readsToken_55 ?_
  refine ev_aload_n (pc := 58) dX10_readsToken_58 rfl (i := 0) rfl ?_
  refine ev_get (pc := 59) fl_X10_40_10_4 rfl (by decide) rfl rfl dX10_readsToken_59 ?_
  refine ev_iconst (pc := 62) (v := 3) dX10_readsToken_62 kc_3 ?_
  refine ev_icmp_ne (pc := 63) (tgt := 79) dX10_readsToken_63 (by decide) (fun c7 => ?_) (fun c7 => ?_)
  · have hf := hf.1 c7
    refine ev_aload_n (pc := 79) dX10_readsToken_79 rfl (i := 0) rfl ?_
    refine ev_get (pc := 80) fl_X10_40_10_4 rfl (by decide) rfl rfl dX10_readsToken_80 ?_
    refine ev_iconst (pc := 83) (v := 1) dX10_readsToken_83 kc_1 ?_
    refine ev_icmp_eq (pc := 84) (tgt := 95) dX10_readsToken_84 (by decide) (fun c8 => ?_) (fun c8 => ?_)
    · have hf := hf.1 c8
      obtain ⟨n16, hf⟩ := hf
      exact p_X10_readsToken_L95 _ post (fun σ13 hf => by
        exact p_X10_readsToken_J134 post _ hf) n16 _ hf
    · have hf := hf.2 c8
      refine ev_aload_n (pc := 87) dX10_readsToken_87 rfl (i := 0) rfl ?_
      refine ev_get (pc := 88) fl_X10_40_10_4 rfl (by decide) rfl rfl dX10_readsToken_88 ?_
      refine ev_iconst (pc := 91) (v := 2) dX10_readsToken_91 kc_2 ?_
      refine ev_icmp_ne (pc := 92) (tgt := 147) dX10_readsToken_92 (by decide) (fun c17 => ?_) (fun c17 => ?_)
      · have hf := hf.1 c17
        exact ev_vret (pc := 147) rfl dX10_readsToken_147 hf
      · have hf := hf.2 c17
        obtain ⟨n19, hf⟩ := hf
        exact p_X10_readsToken_L95 _ post (fun σ18 hf => by
          exact p_X10_readsToken_J134 post _ hf) n19 _ hf
  · have hf := hf.2 c7
    refine ev_aload_n (pc := 66) dX10_readsToken_66 rfl (i := 0) rfl ?_
    refine ev_dup (pc := 67) dX10_readsToken_67 rfl ?_
    refine ev_get (pc := 68) fl_X10_24_10_3 rfl (by decide) rfl rfl dX10_readsToken_68 ?_
    refine ev_iconst (pc := 71) (v := 1) dX10_readsToken_71 kc_1 ?_
    refine ev_iadd (pc := 72) dX10_readsToken_72 ?_
    refine ev_nm (fun σ20 q20 => ?_)
    have hf := hf σ20 q20
    refine ev_puti (pc := 73) fp_X10_24_10_3 rfl (by decide) rfl rfl rfl dX10_readsToken_73 ?_
    refine ev_goto (pc := 76) (tgt := 147) dX10_readsToken_76 (by decide) ?_
    exact ev_vret (pc := 147) rfl dX10_readsToken_147 hf
def f_X10_readsToken (σ : St) (post : St → Prop) : Prop := ∃ n21 : Nat, f_X10_readsToken_L0 (fun σ4 => f_X10_readsToken_J38 post σ4) post n21 σ
set_option maxRecDepth 100000 in
set_option maxHeartbeats 4000000 in
theorem c_X10_readsToken (σ : St) (post : St → Prop) (hf : f_X10_readsToken σ post) : Ct SX yX10_readsToken cX10_readsToken 1 none 1 (EQv SX post) [.ref 1] σ := by
  rw [f_X10_readsToken] at hf
  refine ct_of (by decide) rfl (Nat.le_of_ble_eq_true rfl) ?_
  show Ev SX RX10 cX10_readsToken 1 none 1 (EQv SX post) 0 [some (.ref 1)] [] σ
  obtain ⟨n21, hf⟩ := hf
  exact p_X10_readsToken_L0 _ post (fun σ4 hf => by
    exact p_X10_readsToken_J38 post _ hf) n21 _ hf
def f_J7_fill_53178_L5 (r0 : Nat) (n0 : Nat) (a1 : Int32) (post : St → Prop) : Nat → Int32 → Int32 → St → Prop
  | 0, _, _, _ => False
  | n + 1, v2, v3, σ => (v3 ≤ v2 → (post σ)) ∧ (¬ v3 ≤ v2 → (vp_in v2 n0 ∧ ((f_J7_fill_53178_L5 r0 n0 a1 post n) (v2 + 1) v3 (st_up σ r0 v2.toNatClampNeg a1))))
set_option maxRecDepth 100000 in
set_option maxHeartbeats 4000000 in
theorem p_J7_fill_53178_L5 (r0 : Nat) (n0 : Nat) (a1 : Int32) (hr0 : SX.1[r0]? = some (20, n0, [])) (post : St → Prop) : ∀ (n : Nat) (v2 : Int32) (v3 : Int32) (σ : St), f_J7_fill_53178_L5 r0 n0 a1 post n v2 v3 σ → Ev SX RJ7 cJ7_fill_53178 4 none 0 (EQv SX post) 5 [some (.ref r0), some (.int a1), some (.int v2), some (.int v3)] [] σ := by
  intro n
  induction n with
  | zero =>
    intro v2 v3 σ hf
    exact hf.elim
  | succ n hagain5 =>
    intro v2 v3 σ hf
    rw [f_J7_fill_53178_L5] at hf
    refine ev_iload_n (pc := 5) dJ7_fill_53178_5 rfl (i := 2) rfl ?_
    refine ev_iload_n (pc := 6) dJ7_fill_53178_6 rfl (i := 3) rfl ?_
    refine ev_icmp_ge (pc := 7) (tgt := 20) dJ7_fill_53178_7 (by decide) (fun c1 => ?_) (fun c1 => ?_)
    · have hf := hf.1 c1
      exact ev_vret (pc := 20) rfl dJ7_fill_53178_20 hf
    · have hf := hf.2 c1
      refine ev_aload_n (pc := 10) dJ7_fill_53178_10 rfl (i := 0) rfl ?_
      refine ev_iload_n (pc := 11) dJ7_fill_53178_11 rfl (i := 2) rfl ?_
      refine ev_iload_n (pc := 12) dJ7_fill_53178_12 rfl (i := 1) rfl ?_
      obtain ⟨h2, hf⟩ := hf
      refine ev_iast (pc := 13) hr0 rfl h2 rfl dJ7_fill_53178_13 ?_
      refine ev_iinc (pc := 14) (v := v2 + 1) (L' := [some (.ref r0), some (.int a1), some (.int (v2 + 1)), some (.int v3)]) dJ7_fill_53178_14 rfl (by rw [kc_1]) (by decide) rfl rfl ?_
      refine ev_goto (pc := 17) (tgt := 5) dJ7_fill_53178_17 (by decide) ?_
      exact hagain5 _ _ _ hf
def f_J7_fill_53178 (r0 : Nat) (n0 : Nat) (a1 : Int32) (σ : St) (post : St → Prop) : Prop := ∃ n3 : Nat, f_J7_fill_53178_L5 r0 n0 a1 post n3 0 (Int32.ofNat n0) σ
set_option maxRecDepth 100000 in
set_option maxHeartbeats 4000000 in
theorem c_J7_fill_53178 (r0 : Nat) (n0 : Nat) (a1 : Int32) (hr0 : SX.1[r0]? = some (20, n0, [])) (σ : St) (post : St → Prop) (hf : f_J7_fill_53178 r0 n0 a1 σ post) : Ct SX yJ7_fill_53178 cJ7_fill_53178 4 none 0 (EQv SX post) [.ref r0, .int a1] σ := by
  rw [f_J7_fill_53178] at hf
  refine ct_of (by decide) rfl (Nat.le_of_ble_eq_true rfl) ?_
  show Ev SX RJ7 cJ7_fill_53178 4 none 0 (EQv SX post) 0 [some (.ref r0), some (.int a1), none, none] [] σ
  refine ev_iconst (pc := 0) (v := 0) dJ7_fill_53178_0 kc_0 ?_
  refine ev_istore_n (pc := 1) (L' := [some (.ref r0), some (.int a1), some (.int 0), none]) dJ7_fill_53178_1 rfl (by decide) rfl rfl ?_
  refine ev_aload_n (pc := 2) dJ7_fill_53178_2 rfl (i := 0) rfl ?_
  refine ev_alen (pc := 3) hr0 (t := 0) rfl rfl rfl dJ7_fill_53178_3 ?_
  refine ev_istore_n (pc := 4) (L' := [some (.ref r0), some (.int a1), some (.int 0), some (.int (Int32.ofNat n0))]) dJ7_fill_53178_4 rfl (by decide) rfl rfl ?_
  obtain ⟨n3, hf⟩ := hf
  exact p_J7_fill_53178_L5 r0 n0 a1 hr0 post n3 _ _ _ hf
def f_X0_empties_L17 (post : St → Prop) : Nat → Int32 → St → Prop
  | 0, _, _ => False
  | n + 1, v1, σ => (6 ≤ v1 → (post σ)) ∧ (¬ 6 ≤ v1 → (vp_in v1 6 ∧ (f_J7_fill_53178 (7 + v1.toNatClampNeg) 6 0 σ (fun σ5 => (f_X0_empties_L17 post n) (v1 + 1) σ5))))
set_option maxRecDepth 100000 in
set_option maxHeartbeats 4000000 in
theorem p_X0_empties_L17 (post : St → Prop) : ∀ (n : Nat) (v1 : Int32) (σ : St), f_X0_empties_L17 post n v1 σ → Ev SX RX0 cX0_empties 2 none 1 (EQv SX post) 17 [some (.ref 3), some (.int v1)] [] σ := by
  intro n
  induction n with
  | zero =>
    intro v1 σ hf
    exact hf.elim
  | succ n hagain17 =>
    intro v1 σ hf
    rw [f_X0_empties_L17] at hf
    refine ev_iload_n (pc := 17) dX0_empties_17 rfl (i := 1) rfl ?_
    refine ev_bipush (pc := 18) (v := 6) dX0_empties_18 kb_6 ?_
    refine ev_icmp_ge (pc := 20) (tgt := 39) dX0_empties_20 (by decide) (fun c3 => ?_) (fun c3 => ?_)
    · have hf := hf.1 c3
      exact ev_vret (pc := 39) rfl dX0_empties_39 hf
    · have hf := hf.2 c3
      refine ev_aload_n (pc := 23) dX0_empties_23 rfl (i := 0) rfl ?_
      refine ev_get (pc := 24) fl_X0_27_0_5 rfl (by decide) rfl rfl dX0_empties_24 ?_
      refine ev_iload_n (pc := 27) dX0_empties_27 rfl (i := 1) rfl ?_
      obtain ⟨h4, hf⟩ := hf
      refine ev_aald (pc := 28) (t := 4) rfl rfl rfl rfl h4 rfl dX0_empties_28 ?_
      refine ev_iconst (pc := 29) (v := 0) dX0_empties_29 kc_0 ?_
      refine ev_callv (pc := 30) (stk := []) (ce_S (c_J7_fill_53178 (7 + v1.toNatClampNeg) 6 0 (kr_X_6 h4) σ _ hf) wt_X0_39_J7_fill_53178  (by decide) rfl (Nat.le_of_ble_eq_true rfl) rfl dX0_empties_30) (fun σ5 hf => ?_)
      refine ev_iinc (pc := 33) (v := v1 + 1) (L' := [some (.ref 3), some (.int (v1 + 1))]) dX0_empties_33 rfl (by rw [kc_1]) (by decide) rfl rfl ?_
      refine ev_goto (pc := 36) (tgt := 17) dX0_empties_36 (by decide) ?_
      exact hagain17 _ _ hf
def f_X0_empties (σ : St) (post : St → Prop) : Prop := ∀ σ1 : St, σ1 = (st_up σ 3 0 0) → (∀ σ2 : St, σ2 = (st_up σ1 3 1 3) → (∃ n7 : Nat, f_X0_empties_L17 post n7 0 (st_up σ2 3 2 5)))
set_option maxRecDepth 100000 in
set_option maxHeartbeats 4000000 in
theorem c_X0_empties (σ : St) (post : St → Prop) (hf : f_X0_empties σ post) : Ct SX yX0_empties cX0_empties 2 none 1 (EQv SX post) [.ref 3] σ := by
  rw [f_X0_empties] at hf
  refine ct_of (by decide) rfl (Nat.le_of_ble_eq_true rfl) ?_
  show Ev SX RX0 cX0_empties 2 none 1 (EQv SX post) 0 [some (.ref 3), none] [] σ
  refine ev_aload_n (pc := 0) dX0_empties_0 rfl (i := 0) rfl ?_
  refine ev_iconst (pc := 1) (v := 0) dX0_empties_1 kc_0 ?_
  refine ev_puti (pc := 2) fp_X0_36_0_0 rfl (by decide) rfl rfl rfl dX0_empties_2 ?_
  refine ev_aload_n (pc := 5) dX0_empties_5 rfl (i := 0) rfl ?_
  refine ev_iconst (pc := 6) (v := 3) dX0_empties_6 kc_3 ?_
  refine ev_nm (fun σ1 q1 => ?_)
  have hf := hf σ1 q1
  refine ev_puti (pc := 7) fp_X0_9_0_1 rfl (by decide) rfl rfl rfl dX0_empties_7 ?_
  refine ev_aload_n (pc := 10) dX0_empties_10 rfl (i := 0) rfl ?_
  refine ev_iconst (pc := 11) (v := 5) dX0_empties_11 kc_5 ?_
  refine ev_nm (fun σ2 q2 => ?_)
  have hf := hf σ2 q2
  refine ev_puti (pc := 12) fp_X0_15_0_2 rfl (by decide) rfl rfl rfl dX0_empties_12 ?_
  refine ev_iconst (pc := 15) (v := 0) dX0_empties_15 kc_0 ?_
  refine ev_istore_n (pc := 16) (L' := [some (.ref 3), some (.int 0)]) dX0_empties_16 rfl (by decide) rfl rfl ?_
  obtain ⟨n7, hf⟩ := hf
  exact p_X0_empties_L17 post n7 _ _ hf
def f_X10_readsNumber (a1 : Int32) (a2 : Int32) (σ : St) (post : Int32 → St → Prop) : Prop := ((σ.1 1 6) = 0 → (f_X10_readsToken σ (fun σ2 => (¬ (σ2.1 1 4) = 2 → (post ((st_up σ2 1 6 1).1 1 5) (st_up σ2 1 6 1))) ∧ ((σ2.1 1 4) = 2 → (((σ2.1 1 5) < a1 → (post ((st_up σ2 1 6 1).1 1 5) (st_up σ2 1 6 1))) ∧ (¬ (σ2.1 1 5) < a1 → (((σ2.1 1 5) ≤ a2 → (post ((st_up σ2 1 6 0).1 1 5) (st_up σ2 1 6 0))) ∧ (¬ (σ2.1 1 5) ≤ a2 → (post ((st_up σ2 1 6 1).1 1 5) (st_up σ2 1 6 1)))))))))) ∧ (¬ (σ.1 1 6) = 0 → (post a1 σ))
set_option maxRecDepth 100000 in
set_option maxHeartbeats 4000000 in
theorem c_X10_readsNumber (a1 : Int32) (a2 : Int32) (σ : St) (post : Int32 → St → Prop) (hf : f_X10_readsNumber a1 a2 σ post) : Ct SX yX10_readsNumber cX10_readsNumber 3 (some .int) 2 (EQi SX post) [.ref 1, .int a1, .int a2] σ := by
  rw [f_X10_readsNumber] at hf
  refine ct_of (by decide) rfl (Nat.le_of_ble_eq_true rfl) ?_
  show Ev SX RX10 cX10_readsNumber 3 (some .int) 2 (EQi SX post) 0 [some (.ref 1), some (.int a1), some (.int a2)] [] σ
  refine ev_aload_n (pc := 0) dX10_readsNumber_0 rfl (i := 0) rfl ?_
  refine ev_get (pc := 1) fl_X10_27_10_6 rfl (by decide) rfl rfl dX10_readsNumber_1 ?_
  refine ev_if_eq (pc := 4) (tgt := 9) dX10_readsNumber_4 (by decide) (fun c1 => ?_) (fun c1 => ?_)
  · have hf := hf.1 c1
    refine ev_aload_n (pc := 9) dX10_readsNumber_9 rfl (i := 0) rfl ?_
    refine ev_callv (pc := 10) (stk := []) (ce_V (c_X10_readsToken σ _ hf) wv_X10_37_X10_readsToken rfl (by decide) rfl (by decide) rfl (Nat.le_of_ble_eq_true rfl) rfl dX10_readsNumber_10) (fun σ2 hf => ?_)
    refine ev_aload_n (pc := 13) dX10_readsNumber_13 rfl (i := 0) rfl ?_
    refine ev_aload_n (pc := 14) dX10_readsNumber_14 rfl (i := 0) rfl ?_
    refine ev_get (pc := 15) fl_X10_40_10_4 rfl (by decide) rfl rfl dX10_readsNumber_15 ?_
    refine ev_iconst (pc := 18) (v := 2) dX10_readsNumber_18 kc_2 ?_
    refine ev_icmp_ne (pc := 19) (tgt := 38) dX10_readsNumber_19 (by decide) (fun c4 => ?_) (fun c4 => ?_)
    · have hf := hf.1 c4
      refine ev_iconst (pc := 38) (v := 1) dX10_readsNumber_38 kc_1 ?_
      refine ev_goto (pc := 39) (tgt := 43) dX10_readsNumber_39 (by decide) ?_
      refine ev_puti (pc := 43) fp_X10_27_10_6 rfl (by decide) rfl rfl rfl dX10_readsNumber_43 ?_
      refine ev_aload_n (pc := 46) dX10_readsNumber_46 rfl (i := 0) rfl ?_
      refine ev_get (pc := 47) fl_X10_50_10_5 rfl (by decide) rfl rfl dX10_readsNumber_47 ?_
      exact ev_iret (pc := 50) rfl dX10_readsNumber_50 hf
    · have hf := hf.2 c4
      refine ev_aload_n (pc := 22) dX10_readsNumber_22 rfl (i := 0) rfl ?_
      refine ev_get (pc := 23) fl_X10_50_10_5 rfl (by decide) rfl rfl dX10_readsNumber_23 ?_
      refine ev_iload_n (pc := 26) dX10_readsNumber_26 rfl (i := 1) rfl ?_
      refine ev_icmp_lt (pc := 27) (tgt := 38) dX10_readsNumber_27 (by decide) (fun c5 => ?_) (fun c5 => ?_)
      · have hf := hf.1 c5
        refine ev_iconst (pc := 38) (v := 1) dX10_readsNumber_38 kc_1 ?_
        refine ev_goto (pc := 39) (tgt := 43) dX10_readsNumber_39 (by decide) ?_
        refine ev_puti (pc := 43) fp_X10_27_10_6 rfl (by decide) rfl rfl rfl dX10_readsNumber_43 ?_
        refine ev_aload_n (pc := 46) dX10_readsNumber_46 rfl (i := 0) rfl ?_
        refine ev_get (pc := 47) fl_X10_50_10_5 rfl (by decide) rfl rfl dX10_readsNumber_47 ?_
        exact ev_iret (pc := 50) rfl dX10_readsNumber_50 hf
      · have hf := hf.2 c5
        refine ev_aload_n (pc := 30) dX10_readsNumber_30 rfl (i := 0) rfl ?_
        refine ev_get (pc := 31) fl_X10_50_10_5 rfl (by decide) rfl rfl dX10_readsNumber_31 ?_
        refine ev_iload_n (pc := 34) dX10_readsNumber_34 rfl (i := 2) rfl ?_
        refine ev_icmp_le (pc := 35) (tgt := 42) dX10_readsNumber_35 (by decide) (fun c6 => ?_) (fun c6 => ?_)
        · have hf := hf.1 c6
          refine ev_iconst (pc := 42) (v := 0) dX10_readsNumber_42 kc_0 ?_
          refine ev_puti (pc := 43) fp_X10_27_10_6 rfl (by decide) rfl rfl rfl dX10_readsNumber_43 ?_
          refine ev_aload_n (pc := 46) dX10_readsNumber_46 rfl (i := 0) rfl ?_
          refine ev_get (pc := 47) fl_X10_50_10_5 rfl (by decide) rfl rfl dX10_readsNumber_47 ?_
          exact ev_iret (pc := 50) rfl dX10_readsNumber_50 hf
        · have hf := hf.2 c6
          refine ev_iconst (pc := 38) (v := 1) dX10_readsNumber_38 kc_1 ?_
          refine ev_goto (pc := 39) (tgt := 43) dX10_readsNumber_39 (by decide) ?_
          refine ev_puti (pc := 43) fp_X10_27_10_6 rfl (by decide) rfl rfl rfl dX10_readsNumber_43 ?_
          refine ev_aload_n (pc := 46) dX10_readsNumber_46 rfl (i := 0) rfl ?_
          refine ev_get (pc := 47) fl_X10_50_10_5 rfl (by decide) rfl rfl dX10_readsNumber_47 ?_
          exact ev_iret (pc := 50) rfl dX10_readsNumber_50 hf
  · have hf := hf.2 c1
    refine ev_iload_n (pc := 7) dX10_readsNumber_7 rfl (i := 1) rfl ?_
    exact ev_iret (pc := 8) rfl dX10_readsNumber_8 hf
def f_X10_readsMan_J15 (post : St → Prop) (s0 : Int32) (σ : St) : Prop := (s0 = 0 ∨ s0 = 1) ∧ (f_X10_readsNumber 0 99 (st_up σ 1 6 s0) (fun x4 σ3 => f_X10_readsNumber 0 9 σ3 (fun x6 σ5 => (¬ (σ5.1 1 6) = 0 → (post σ5)) ∧ ((σ5.1 1 6) = 0 → (vp_in (σ5.1 3 0) 6 ∧ (∀ σ9 : St, σ9 = (st_up σ5 4 ((σ5.1 3 0).toNatClampNeg) x4) → (vp_in ((st_up σ5 4 ((σ5.1 3 0).toNatClampNeg) x4).1 3 0) 6 ∧ (∀ σ11 : St, σ11 = (st_up σ9 5 (((st_up σ5 4 ((σ5.1 3 0).toNatClampNeg) x4).1 3 0).toNatClampNeg) x6) → (post (st_up σ11 3 0 (((st_up σ9 5 (((st_up σ5 4 ((σ5.1 3 0).toNatClampNeg) x4).1 3 0).toNatClampNeg) x6).1 3 0) + 1)))))))))))
set_option maxRecDepth 100000 in
set_option maxHeartbeats 4000000 in
theorem p_X10_readsMan_J15 (post : St → Prop) (s0 : Int32) (σ : St) (hf : f_X10_readsMan_J15 post s0 σ) : Ev SX RX10 cX10_readsMan 4 none 3 (EQv SX post) 15 [some (.ref 1), some (.ref 3), none, none] [.int s0, .ref 1] σ := by
  rw [f_X10_readsMan_J15] at hf
  obtain ⟨h2, hf⟩ := hf
  refine ev_puti (pc := 15) fp_X10_27_10_6 rfl (by decide) rfl (nb_n h2) (nb_f h2) dX10_readsMan_15 ?_
  refine ev_aload_n (pc := 18) dX10_readsMan_18 rfl (i := 0) rfl ?_
  refine ev_iconst (pc := 19) (v := 0) dX10_readsMan_19 kc_0 ?_
  refine ev_bipush (pc := 20) (v := 99) dX10_readsMan_20 kb_99 ?_
  refine ev_calli (pc := 22) (stk := []) (ce_V (c_X10_readsNumber 0 99 (st_up σ 1 6 s0) _ hf) wv_X10_60_X10_readsNumber rfl (by decide) rfl (by decide) rfl (Nat.le_of_ble_eq_true rfl) rfl dX10_readsMan_22) (fun x4 σ3 hf => ?_)
  refine ev_istore_n (pc := 25) (L' := [some (.ref 1), some (.ref 3), some (.int x4), none]) dX10_readsMan_25 rfl (by decide) rfl rfl ?_
  refine ev_aload_n (pc := 26) dX10_readsMan_26 rfl (i := 0) rfl ?_
  refine ev_iconst (pc := 27) (v := 0) dX10_readsMan_27 kc_0 ?_
  refine ev_bipush (pc := 28) (v := 9) dX10_readsMan_28 kb_9 ?_
  refine ev_calli (pc := 30) (stk := []) (ce_V (c_X10_readsNumber 0 9 σ3 _ hf) wv_X10_60_X10_readsNumber rfl (by decide) rfl (by decide) rfl (Nat.le_of_ble_eq_true rfl) rfl dX10_readsMan_30) (fun x6 σ5 hf => ?_)
  refine ev_istore_n (pc := 33) (L' := [some (.ref 1), some (.ref 3), some (.int x4), some (.int x6)]) dX10_readsMan_33 rfl (by decide) rfl rfl ?_
  refine ev_aload_n (pc := 34) dX10_readsMan_34 rfl (i := 0) rfl ?_
  refine ev_get (pc := 35) fl_X10_27_10_6 rfl (by decide) rfl rfl dX10_readsMan_35 ?_
  refine ev_if_ne (pc := 38) (tgt := 71) dX10_readsMan_38 (by decide) (fun c7 => ?_) (fun c7 => ?_)
  · have hf := hf.1 c7
    exact ev_vret (pc := 71) rfl dX10_readsMan_71 hf
  · have hf := hf.2 c7
    refine ev_aload_n (pc := 41) dX10_readsMan_41 rfl (i := 1) rfl ?_
    refine ev_get (pc := 42) fl_X10_73_0_3 rfl (by decide) rfl rfl dX10_readsMan_42 ?_
    refine ev_aload_n (pc := 45) dX10_readsMan_45 rfl (i := 1) rfl ?_
    refine ev_get (pc := 46) fl_X10_70_0_0 rfl (by decide) rfl rfl dX10_readsMan_46 ?_
    refine ev_iload_n (pc := 49) dX10_readsMan_49 rfl (i := 2) rfl ?_
    obtain ⟨h8, hf⟩ := hf
    refine ev_iast (pc := 50) rfl rfl h8 rfl dX10_readsMan_50 ?_
    refine ev_aload_n (pc := 51) dX10_readsMan_51 rfl (i := 1) rfl ?_
    refine ev_get (pc := 52) fl_X10_76_0_4 rfl (by decide) rfl rfl dX10_readsMan_52 ?_
    refine ev_aload_n (pc := 55) dX10_readsMan_55 rfl (i := 1) rfl ?_
    refine ev_get (pc := 56) fl_X10_70_0_0 rfl (by decide) rfl rfl dX10_readsMan_56 ?_
    refine ev_iload_n (pc := 59) dX10_readsMan_59 rfl (i := 3) rfl ?_
    refine ev_nm (fun σ9 q9 => ?_)
    have hf := hf σ9 q9
    obtain ⟨h10, hf⟩ := hf
    refine ev_iast (pc := 60) rfl rfl h10 rfl dX10_readsMan_60 ?_
    refine ev_aload_n (pc := 61) dX10_readsMan_61 rfl (i := 1) rfl ?_
    refine ev_dup (pc := 62) dX10_readsMan_62 rfl ?_
    refine ev_get (pc := 63) fl_X10_70_0_0 rfl (by decide) rfl rfl dX10_readsMan_63 ?_
    refine ev_iconst (pc := 66) (v := 1) dX10_readsMan_66 kc_1 ?_
    refine ev_iadd (pc := 67) dX10_readsMan_67 ?_
    refine ev_nm (fun σ11 q11 => ?_)
    have hf := hf σ11 q11
    refine ev_puti (pc := 68) fp_X10_70_0_0 rfl (by decide) rfl rfl rfl dX10_readsMan_68 ?_
    exact ev_vret (pc := 71) rfl dX10_readsMan_71 hf
def f_X10_readsMan (σ : St) (post : St → Prop) : Prop := ((σ.1 3 0) < 6 → (f_X10_readsMan_J15 post 0 σ)) ∧ (¬ (σ.1 3 0) < 6 → (f_X10_readsMan_J15 post 1 σ))
set_option maxRecDepth 100000 in
set_option maxHeartbeats 4000000 in
theorem c_X10_readsMan (σ : St) (post : St → Prop) (hf : f_X10_readsMan σ post) : Ct SX yX10_readsMan cX10_readsMan 4 none 3 (EQv SX post) [.ref 1, .ref 3] σ := by
  rw [f_X10_readsMan] at hf
  refine ct_of (by decide) rfl (Nat.le_of_ble_eq_true rfl) ?_
  show Ev SX RX10 cX10_readsMan 4 none 3 (EQv SX post) 0 [some (.ref 1), some (.ref 3), none, none] [] σ
  refine ev_aload_n (pc := 0) dX10_readsMan_0 rfl (i := 0) rfl ?_
  refine ev_aload_n (pc := 1) dX10_readsMan_1 rfl (i := 1) rfl ?_
  refine ev_get (pc := 2) fl_X10_70_0_0 rfl (by decide) rfl rfl dX10_readsMan_2 ?_
  refine ev_bipush (pc := 5) (v := 6) dX10_readsMan_5 kb_6 ?_
  refine ev_icmp_lt (pc := 7) (tgt := 14) dX10_readsMan_7 (by decide) (fun c1 => ?_) (fun c1 => ?_)
  · have hf := hf.1 c1
    refine ev_iconst (pc := 14) (v := 0) dX10_readsMan_14 kc_0 ?_
    exact p_X10_readsMan_J15 post _ _ hf
  · have hf := hf.2 c1
    refine ev_iconst (pc := 10) (v := 1) dX10_readsMan_10 kc_1 ?_
    refine ev_goto (pc := 11) (tgt := 15) dX10_readsMan_11 (by decide) ?_
    exact p_X10_readsMan_J15 post _ _ hf
def f_X10_readsTwo_J44 (a2 : Int32) (post : St → Prop) (v3 : Int32) (v4 : Int32) (s0 : Int32) (σ : St) : Prop := (s0 = 0 ∨ s0 = 1) ∧ (f_X10_readsNumber 0 9 (st_up σ 1 6 s0) (fun x8 σ7 => (¬ (σ7.1 1 6) = 0 → (post σ7)) ∧ ((σ7.1 1 6) = 0 → (vp_in v3 6 ∧ (vp_in v4 6 ∧ (vp_in v4 6 ∧ (∀ σ13 : St, σ13 = (st_up σ7 (7 + v3.toNatClampNeg) v4.toNatClampNeg (a2 * x8)) → (vp_in v3 6 ∧ (post (st_up σ13 (7 + v4.toNatClampNeg) v3.toNatClampNeg (a2 * x8)))))))))))
set_option maxRecDepth 100000 in
set_option maxHeartbeats 4000000 in
theorem p_X10_readsTwo_J44 (a2 : Int32) (post : St → Prop) (v3 : Int32) (v4 : Int32) (s0 : Int32) (σ : St) (hf : f_X10_readsTwo_J44 a2 post v3 v4 s0 σ) : Ev SX RX10 cX10_readsTwo 6 none 3 (EQv SX post) 44 [some (.ref 1), some (.ref 3), some (.int a2), some (.int v3), some (.int v4), none] [.int s0, .ref 1] σ := by
  rw [f_X10_readsTwo_J44] at hf
  obtain ⟨h6, hf⟩ := hf
  refine ev_puti (pc := 44) fp_X10_27_10_6 rfl (by decide) rfl (nb_n h6) (nb_f h6) dX10_readsTwo_44 ?_
  refine ev_iload_n (pc := 47) dX10_readsTwo_47 rfl (i := 2) rfl ?_
  refine ev_aload_n (pc := 48) dX10_readsTwo_48 rfl (i := 0) rfl ?_
  refine ev_iconst (pc := 49) (v := 0) dX10_readsTwo_49 kc_0 ?_
  refine ev_bipush (pc := 50) (v := 9) dX10_readsTwo_50 kb_9 ?_
  refine ev_calli (pc := 52) (stk := [.int a2]) (ce_V (c_X10_readsNumber 0 9 (st_up σ 1 6 s0) _ hf) wv_X10_60_X10_readsNumber rfl (by decide) rfl (by decide) rfl (Nat.le_of_ble_eq_true rfl) rfl dX10_readsTwo_52) (fun x8 σ7 hf => ?_)
  refine ev_imul (pc := 55) dX10_readsTwo_55 ?_
  refine ev_istore (pc := 56) (L' := [some (.ref 1), some (.ref 3), some (.int a2), some (.int v3), some (.int v4), some (.int (a2 * x8))]) dX10_readsTwo_56 (by decide) rfl rfl ?_
  refine ev_aload_n (pc := 58) dX10_readsTwo_58 rfl (i := 0) rfl ?_
  refine ev_get (pc := 59) fl_X10_27_10_6 rfl (by decide) rfl rfl dX10_readsTwo_59 ?_
  refine ev_if_ne (pc := 62) (tgt := 87) dX10_readsTwo_62 (by decide) (fun c9 => ?_) (fun c9 => ?_)
  · have hf := hf.1 c9
    exact ev_vret (pc := 87) rfl dX10_readsTwo_87 hf
  · have hf := hf.2 c9
    refine ev_aload_n (pc := 65) dX10_readsTwo_65 rfl (i := 1) rfl ?_
    refine ev_get (pc := 66) fl_X10_79_0_5 rfl (by decide) rfl rfl dX10_readsTwo_66 ?_
    refine ev_iload_n (pc := 69) dX10_readsTwo_69 rfl (i := 3) rfl ?_
    obtain ⟨h10, hf⟩ := hf
    refine ev_aald (pc := 70) (t := 4) rfl rfl rfl rfl h10 rfl dX10_readsTwo_70 ?_
    refine ev_iload (pc := 71) dX10_readsTwo_71 rfl ?_
    refine ev_iload (pc := 73) dX10_readsTwo_73 rfl ?_
    obtain ⟨h11, hf⟩ := hf
    refine ev_iast (pc := 75) (kr_X_6 h10) rfl h11 rfl dX10_readsTwo_75 ?_
    refine ev_aload_n (pc := 76) dX10_readsTwo_76 rfl (i := 1) rfl ?_
    refine ev_get (pc := 77) fl_X10_79_0_5 rfl (by decide) rfl rfl dX10_readsTwo_77 ?_
    refine ev_iload (pc := 80) dX10_readsTwo_80 rfl ?_
    obtain ⟨h12, hf⟩ := hf
    refine ev_aald (pc := 82) (t := 4) rfl rfl rfl rfl h12 rfl dX10_readsTwo_82 ?_
    refine ev_iload_n (pc := 83) dX10_readsTwo_83 rfl (i := 3) rfl ?_
    refine ev_iload (pc := 84) dX10_readsTwo_84 rfl ?_
    refine ev_nm (fun σ13 q13 => ?_)
    have hf := hf σ13 q13
    obtain ⟨h14, hf⟩ := hf
    refine ev_iast (pc := 86) (kr_X_6 h12) rfl h14 rfl dX10_readsTwo_86 ?_
    exact ev_vret (pc := 87) rfl dX10_readsTwo_87 hf
def f_X10_readsTwo_J39 (a2 : Int32) (post : St → Prop) (v3 : Int32) (v4 : Int32) (σ : St) : Prop := f_X10_readsTwo_J44 a2 post v3 v4 1 σ
set_option maxRecDepth 100000 in
set_option maxHeartbeats 4000000 in
theorem p_X10_readsTwo_J39 (a2 : Int32) (post : St → Prop) (v3 : Int32) (v4 : Int32) (σ : St) (hf : f_X10_readsTwo_J39 a2 post v3 v4 σ) : Ev SX RX10 cX10_readsTwo 6 none 3 (EQv SX post) 39 [some (.ref 1), some (.ref 3), some (.int a2), some (.int v3), some (.int v4), none] [.ref 1] σ := by
  rw [f_X10_readsTwo_J39] at hf
  refine ev_iconst (pc := 39) (v := 1) dX10_readsTwo_39 kc_1 ?_
  refine ev_goto (pc := 40) (tgt := 44) dX10_readsTwo_40 (by decide) ?_
  exact p_X10_readsTwo_J44 a2 post _ _ _ _ hf
def f_X10_readsTwo (a2 : Int32) (σ : St) (post : St → Prop) : Prop := f_X10_readsNumber 0 ((σ.1 3 0) - 1) σ (fun x2 σ1 => f_X10_readsNumber 0 ((σ1.1 3 0) - 1) σ1 (fun x4 σ3 => (¬ (σ3.1 1 6) = 0 → (f_X10_readsTwo_J39 a2 post x2 x4 σ3)) ∧ ((σ3.1 1 6) = 0 → ((¬ x2 = x4 → (f_X10_readsTwo_J44 a2 post x2 x4 0 σ3)) ∧ (x2 = x4 → (f_X10_readsTwo_J39 a2 post x2 x4 σ3))))))
set_option maxRecDepth 100000 in
set_option maxHeartbeats 4000000 in
theorem c_X10_readsTwo (a2 : Int32) (σ : St) (post : St → Prop) (hf : f_X10_readsTwo a2 σ post) : Ct SX yX10_readsTwo cX10_readsTwo 6 none 3 (EQv SX post) [.ref 1, .ref 3, .int a2] σ := by
  rw [f_X10_readsTwo] at hf
  refine ct_of (by decide) rfl (Nat.le_of_ble_eq_true rfl) ?_
  show Ev SX RX10 cX10_readsTwo 6 none 3 (EQv SX post) 0 [some (.ref 1), some (.ref 3), some (.int a2), none, none, none] [] σ
  refine ev_aload_n (pc := 0) dX10_readsTwo_0 rfl (i := 0) rfl ?_
  refine ev_iconst (pc := 1) (v := 0) dX10_readsTwo_1 kc_0 ?_
  refine ev_aload_n (pc := 2) dX10_readsTwo_2 rfl (i := 1) rfl ?_
  refine ev_get (pc := 3) fl_X10_70_0_0 rfl (by decide) rfl rfl dX10_readsTwo_3 ?_
  refine ev_iconst (pc := 6) (v := 1) dX10_readsTwo_6 kc_1 ?_
  refine ev_isub (pc := 7) dX10_readsTwo_7 ?_
  refine ev_calli (pc := 8) (stk := []) (ce_V (c_X10_readsNumber 0 ((σ.1 3 0) - 1) σ _ hf) wv_X10_60_X10_readsNumber rfl (by decide) rfl (by decide) rfl (Nat.le_of_ble_eq_true rfl) rfl dX10_readsTwo_8) (fun x2 σ1 hf => ?_)
  refine ev_istore_n (pc := 11) (L' := [some (.ref 1), some (.ref 3), some (.int a2), some (.int x2), none, none]) dX10_readsTwo_11 rfl (by decide) rfl rfl ?_
  refine ev_aload_n (pc := 12) dX10_readsTwo_12 rfl (i := 0) rfl ?_
  refine ev_iconst (pc := 13) (v := 0) dX10_readsTwo_13 kc_0 ?_
  refine ev_aload_n (pc := 14) dX10_readsTwo_14 rfl (i := 1) rfl ?_
  refine ev_get (pc := 15) fl_X10_70_0_0 rfl (by decide) rfl rfl dX10_readsTwo_15 ?_
  refine ev_iconst (pc := 18) (v := 1) dX10_readsTwo_18 kc_1 ?_
  refine ev_isub (pc := 19) dX10_readsTwo_19 ?_
  refine ev_calli (pc := 20) (stk := []) (ce_V (c_X10_readsNumber 0 ((σ1.1 3 0) - 1) σ1 _ hf) wv_X10_60_X10_readsNumber rfl (by decide) rfl (by decide) rfl (Nat.le_of_ble_eq_true rfl) rfl dX10_readsTwo_20) (fun x4 σ3 hf => ?_)
  refine ev_istore (pc := 23) (L' := [some (.ref 1), some (.ref 3), some (.int a2), some (.int x2), some (.int x4), none]) dX10_readsTwo_23 (by decide) rfl rfl ?_
  refine ev_aload_n (pc := 25) dX10_readsTwo_25 rfl (i := 0) rfl ?_
  refine ev_aload_n (pc := 26) dX10_readsTwo_26 rfl (i := 0) rfl ?_
  refine ev_get (pc := 27) fl_X10_27_10_6 rfl (by decide) rfl rfl dX10_readsTwo_27 ?_
  refine ev_if_ne (pc := 30) (tgt := 39) dX10_readsTwo_30 (by decide) (fun c5 => ?_) (fun c5 => ?_)
  · have hf := hf.1 c5
    exact p_X10_readsTwo_J39 a2 post _ _ _ hf
  · have hf := hf.2 c5
    refine ev_iload_n (pc := 33) dX10_readsTwo_33 rfl (i := 3) rfl ?_
    refine ev_iload (pc := 34) dX10_readsTwo_34 rfl ?_
    refine ev_icmp_ne (pc := 36) (tgt := 43) dX10_readsTwo_36 (by decide) (fun c15 => ?_) (fun c15 => ?_)
    · have hf := hf.1 c15
      refine ev_iconst (pc := 43) (v := 0) dX10_readsTwo_43 kc_0 ?_
      exact p_X10_readsTwo_J44 a2 post _ _ _ _ hf
    · have hf := hf.2 c15
      exact p_X10_readsTwo_J39 a2 post _ _ _ hf
def f_X10_readsItem_J16 (post : St → Prop) (s0 : Int32) (σ : St) : Prop := (s0 = 99 → (((σ.1 1 7) = 0 ∨ (σ.1 1 7) = 1) ∧ (∀ σ4 : St, σ4 = (st_up σ 1 6 (σ.1 1 7)) → (f_X10_readsNumber 1 6 (st_up σ4 1 7 1) (fun x6 σ5 => post (st_up σ5 3 1 x6)))))) ∧ (s0 = 101 → (f_X10_readsTwo (-1) σ (fun σ8 => post σ8))) ∧ (s0 = 109 → (f_X10_readsMan σ (fun σ11 => post σ11))) ∧ (s0 = 114 → (f_X10_readsTwo 1 σ (fun σ14 => post σ14))) ∧ (s0 = 115 → (((σ.1 1 8) = 0 ∨ (σ.1 1 8) = 1) ∧ (∀ σ18 : St, σ18 = (st_up σ 1 6 (σ.1 1 8)) → (f_X10_readsNumber 0 50 (st_up σ18 1 8 1) (fun x20 σ19 => post (st_up σ19 3 2 x20)))))) ∧ (¬ s0 = 99 → ¬ s0 = 101 → ¬ s0 = 109 → ¬ s0 = 114 → ¬ s0 = 115 → (post (st_up σ 1 6 1)))
set_option maxRecDepth 100000 in
set_option maxHeartbeats 4000000 in
theorem p_X10_readsItem_J16 (post : St → Prop) (s0 : Int32) (σ : St) (hf : f_X10_readsItem_J16 post s0 σ) : Ev SX RX10 cX10_readsItem 2 none 4 (EQv SX post) 16 [some (.ref 1), some (.ref 3)] [.int s0] σ := by
  rw [f_X10_readsItem_J16] at hf
  by_cases e2 : s0 = 99
  · have hf := hf.1 e2
    refine ev_look (pc := 16) (off := 78) (tgt := 94) dX10_readsItem_16 (by decide) (by rw [e2]; decide) (by decide) ?_
    refine ev_aload_n (pc := 94) dX10_readsItem_94 rfl (i := 0) rfl ?_
    refine ev_aload_n (pc := 95) dX10_readsItem_95 rfl (i := 0) rfl ?_
    refine ev_get (pc := 96) fl_X10_31_10_7 rfl (by decide) rfl rfl dX10_readsItem_96 ?_
    obtain ⟨h3, hf⟩ := hf
    refine ev_puti (pc := 99) fp_X10_27_10_6 rfl (by decide) rfl (nb_n h3) (nb_f h3) dX10_readsItem_99 ?_
    refine ev_aload_n (pc := 102) dX10_readsItem_102 rfl (i := 0) rfl ?_
    refine ev_iconst (pc := 103) (v := 1) dX10_readsItem_103 kc_1 ?_
    refine ev_nm (fun σ4 q4 => ?_)
    have hf := hf σ4 q4
    refine ev_puti (pc := 104) fp_X10_31_10_7 rfl (by decide) rfl rfl rfl dX10_readsItem_104 ?_
    refine ev_aload_n (pc := 107) dX10_readsItem_107 rfl (i := 1) rfl ?_
    refine ev_aload_n (pc := 108) dX10_readsItem_108 rfl (i := 0) rfl ?_
    refine ev_iconst (pc := 109) (v := 1) dX10_readsItem_109 kc_1 ?_
    refine ev_bipush (pc := 110) (v := 6) dX10_readsItem_110 kb_6 ?_
    refine ev_calli (pc := 112) (stk := [.ref 3]) (ce_V (c_X10_readsNumber 1 6 (st_up σ4 1 7 1) _ hf) wv_X10_60_X10_readsNumber rfl (by decide) rfl (by decide) rfl (Nat.le_of_ble_eq_true rfl) rfl dX10_readsItem_112) (fun x6 σ5 hf => ?_)
    refine ev_puti (pc := 115) fp_X10_64_0_1 rfl (by decide) rfl rfl rfl dX10_readsItem_115 ?_
    refine ev_goto (pc := 118) (tgt := 153) dX10_readsItem_118 (by decide) ?_
    exact ev_vret (pc := 153) rfl dX10_readsItem_153 hf
  by_cases e7 : s0 = 101
  · have hf := hf.2.1 e7
    refine ev_look (pc := 16) (off := 69) (tgt := 85) dX10_readsItem_16 (by decide) (by rw [e7]; decide) (by decide) ?_
    refine ev_aload_n (pc := 85) dX10_readsItem_85 rfl (i := 0) rfl ?_
    refine ev_aload_n (pc := 86) dX10_readsItem_86 rfl (i := 1) rfl ?_
    refine ev_iconst (pc := 87) (v := (-1)) dX10_readsItem_87 kc_m1 ?_
    refine ev_callv (pc := 88) (stk := []) (ce_V (c_X10_readsTwo (-1) σ _ hf) wv_X10_56_X10_readsTwo rfl (by decide) rfl (by decide) rfl (Nat.le_of_ble_eq_true rfl) rfl dX10_readsItem_88) (fun σ8 hf => ?_)
    refine ev_goto (pc := 91) (tgt := 153) dX10_readsItem_91 (by decide) ?_
    exact ev_vret (pc := 153) rfl dX10_readsItem_153 hf
  by_cases e10 : s0 = 109
  · have hf := hf.2.2.1 e10
    refine ev_look (pc := 16) (off := 52) (tgt := 68) dX10_readsItem_16 (by decide) (by rw [e10]; decide) (by decide) ?_
    refine ev_aload_n (pc := 68) dX10_readsItem_68 rfl (i := 0) rfl ?_
    refine ev_aload_n (pc := 69) dX10_readsItem_69 rfl (i := 1) rfl ?_
    refine ev_callv (pc := 70) (stk := []) (ce_V (c_X10_readsMan σ _ hf) wv_X10_53_X10_readsMan rfl (by decide) rfl (by decide) rfl (Nat.le_of_ble_eq_true rfl) rfl dX10_readsItem_70) (fun σ11 hf => ?_)
    refine ev_goto (pc := 73) (tgt := 153) dX10_readsItem_73 (by decide) ?_
    exact ev_vret (pc := 153) rfl dX10_readsItem_153 hf
  by_cases e13 : s0 = 114
  · have hf := hf.2.2.2.1 e13
    refine ev_look (pc := 16) (off := 60) (tgt := 76) dX10_readsItem_16 (by decide) (by rw [e13]; decide) (by decide) ?_
    refine ev_aload_n (pc := 76) dX10_readsItem_76 rfl (i := 0) rfl ?_
    refine ev_aload_n (pc := 77) dX10_readsItem_77 rfl (i := 1) rfl ?_
    refine ev_iconst (pc := 78) (v := 1) dX10_readsItem_78 kc_1 ?_
    refine ev_callv (pc := 79) (stk := []) (ce_V (c_X10_readsTwo 1 σ _ hf) wv_X10_56_X10_readsTwo rfl (by decide) rfl (by decide) rfl (Nat.le_of_ble_eq_true rfl) rfl dX10_readsItem_79) (fun σ14 hf => ?_)
    refine ev_goto (pc := 82) (tgt := 153) dX10_readsItem_82 (by decide) ?_
    exact ev_vret (pc := 153) rfl dX10_readsItem_153 hf
  by_cases e16 : s0 = 115
  · have hf := hf.2.2.2.2.1 e16
    refine ev_look (pc := 16) (off := 105) (tgt := 121) dX10_readsItem_16 (by decide) (by rw [e16]; decide) (by decide) ?_
    refine ev_aload_n (pc := 121) dX10_readsItem_121 rfl (i := 0) rfl ?_
    refine ev_aload_n (pc := 122) dX10_readsItem_122 rfl (i := 0) rfl ?_
    refine ev_get (pc := 123) fl_X10_34_10_8 rfl (by decide) rfl rfl dX10_readsItem_123 ?_
    obtain ⟨h17, hf⟩ := hf
    refine ev_puti (pc := 126) fp_X10_27_10_6 rfl (by decide) rfl (nb_n h17) (nb_f h17) dX10_readsItem_126 ?_
    refine ev_aload_n (pc := 129) dX10_readsItem_129 rfl (i := 0) rfl ?_
    refine ev_iconst (pc := 130) (v := 1) dX10_readsItem_130 kc_1 ?_
    refine ev_nm (fun σ18 q18 => ?_)
    have hf := hf σ18 q18
    refine ev_puti (pc := 131) fp_X10_34_10_8 rfl (by decide) rfl rfl rfl dX10_readsItem_131 ?_
    refine ev_aload_n (pc := 134) dX10_readsItem_134 rfl (i := 1) rfl ?_
    refine ev_aload_n (pc := 135) dX10_readsItem_135 rfl (i := 0) rfl ?_
    refine ev_iconst (pc := 136) (v := 0) dX10_readsItem_136 kc_0 ?_
    refine ev_bipush (pc := 137) (v := 50) dX10_readsItem_137 kb_50 ?_
    refine ev_calli (pc := 139) (stk := [.ref 3]) (ce_V (c_X10_readsNumber 0 50 (st_up σ18 1 8 1) _ hf) wv_X10_60_X10_readsNumber rfl (by decide) rfl (by decide) rfl (Nat.le_of_ble_eq_true rfl) rfl dX10_readsItem_139) (fun x20 σ19 hf => ?_)
    refine ev_puti (pc := 142) fp_X10_67_0_2 rfl (by decide) rfl rfl rfl dX10_readsItem_142 ?_
    refine ev_goto (pc := 145) (tgt := 153) dX10_readsItem_145 (by decide) ?_
    exact ev_vret (pc := 153) rfl dX10_readsItem_153 hf
  have hf := hf.2.2.2.2.2 e2 e7 e10 e13 e16
  refine ev_look (pc := 16) (off := 132) (tgt := 148) dX10_readsItem_16 (by decide) (look_out (fun q hq => by
    simp only [List.mem_cons, List.not_mem_nil, or_false] at hq
    rcases hq with rfl | rfl | rfl | rfl | rfl
    · exact int_ne e2 (by decide)
    · exact int_ne e7 (by decide)
    · exact int_ne e10 (by decide)
    · exact int_ne e13 (by decide)
    · exact int_ne e16 (by decide))) (by decide) ?_
  refine ev_aload_n (pc := 148) dX10_readsItem_148 rfl (i := 0) rfl ?_
  refine ev_iconst (pc := 149) (v := 1) dX10_readsItem_149 kc_1 ?_
  refine ev_puti (pc := 150) fp_X10_27_10_6 rfl (by decide) rfl rfl rfl dX10_readsItem_150 ?_
  exact ev_vret (pc := 153) rfl dX10_readsItem_153 hf
def f_X10_readsItem (σ : St) (post : St → Prop) : Prop := (¬ (σ.1 1 4) = 1 → (f_X10_readsItem_J16 post 0 σ)) ∧ ((σ.1 1 4) = 1 → (f_X10_readsItem_J16 post (σ.1 1 5) σ))
set_option maxRecDepth 100000 in
set_option maxHeartbeats 4000000 in
theorem c_X10_readsItem (σ : St) (post : St → Prop) (hf : f_X10_readsItem σ post) : Ct SX yX10_readsItem cX10_readsItem 2 none 4 (EQv SX post) [.ref 1, .ref 3] σ := by
  rw [f_X10_readsItem] at hf
  refine ct_of (by decide) rfl (Nat.le_of_ble_eq_true rfl) ?_
  show Ev SX RX10 cX10_readsItem 2 none 4 (EQv SX post) 0 [some (.ref 1), some (.ref 3)] [] σ
  refine ev_aload_n (pc := 0) dX10_readsItem_0 rfl (i := 0) rfl ?_
  refine ev_get (pc := 1) fl_X10_40_10_4 rfl (by decide) rfl rfl dX10_readsItem_1 ?_
  refine ev_iconst (pc := 4) (v := 1) dX10_readsItem_4 kc_1 ?_
  refine ev_icmp_ne (pc := 5) (tgt := 15) dX10_readsItem_5 (by decide) (fun c1 => ?_) (fun c1 => ?_)
  · have hf := hf.1 c1
    refine ev_iconst (pc := 15) (v := 0) dX10_readsItem_15 kc_0 ?_
    exact p_X10_readsItem_J16 post _ _ hf
  · have hf := hf.2 c1
    refine ev_aload_n (pc := 8) dX10_readsItem_8 rfl (i := 0) rfl ?_
    refine ev_get (pc := 9) fl_X10_50_10_5 rfl (by decide) rfl rfl dX10_readsItem_9 ?_
    refine ev_goto (pc := 12) (tgt := 16) dX10_readsItem_12 (by decide) ?_
    exact p_X10_readsItem_J16 post _ _ hf
def f_X10_reads_J79_26 (again26 : Int32 → St → Prop) (post : Int32 → St → Prop) (v2 : Int32) (σ : St) : Prop := ((σ.1 1 6) = 0 → (again26 (v2 + 1) σ)) ∧ (¬ (σ.1 1 6) = 0 → (post ((-10) - (σ.1 1 2)) σ))
set_option maxRecDepth 100000 in
set_option maxHeartbeats 4000000 in
theorem p_X10_reads_J79_26 (again26 : Int32 → St → Prop) (post : Int32 → St → Prop) (hagain26 : ∀ (v2 : Int32) (τ : St), again26 v2 τ → Ev SX RX10 cX10_reads 3 (some .int) 5 (EQi SX post) 26 [some (.ref 1), some (.ref 3), some (.int v2)] [] τ) (v2 : Int32) (σ : St) (hf : f_X10_reads_J79_26 again26 post v2 σ) : Ev SX RX10 cX10_reads 3 (some .int) 5 (EQi SX post) 79 [some (.ref 1), some (.ref 3), some (.int v2)] [] σ := by
  rw [f_X10_reads_J79_26] at hf
  refine ev_aload_n (pc := 79) dX10_reads_79 rfl (i := 0) rfl ?_
  refine ev_get (pc := 80) fl_X10_27_10_6 rfl (by decide) rfl rfl dX10_reads_80 ?_
  refine ev_if_eq (pc := 83) (tgt := 94) dX10_reads_83 (by decide) (fun c13 => ?_) (fun c13 => ?_)
  · have hf := hf.1 c13
    refine ev_iinc (pc := 94) (v := v2 + 1) (L' := [some (.ref 1), some (.ref 3), some (.int (v2 + 1))]) dX10_reads_94 rfl (by rw [kc_1]) (by decide) rfl rfl ?_
    refine ev_goto (pc := 97) (tgt := 26) dX10_reads_97 (by decide) ?_
    exact hagain26 _ _ hf
  · have hf := hf.2 c13
    refine ev_bipush (pc := 86) (v := (-10)) dX10_reads_86 kb_m10 ?_
    refine ev_aload_n (pc := 88) dX10_reads_88 rfl (i := 0) rfl ?_
    refine ev_get (pc := 89) fl_X10_47_10_2 rfl (by decide) rfl rfl dX10_reads_89 ?_
    refine ev_isub (pc := 92) dX10_reads_92 ?_
    exact ev_iret (pc := 93) rfl dX10_reads_93 hf
def f_X10_reads_J76_26 (again26 : Int32 → St → Prop) (post : Int32 → St → Prop) (v2 : Int32) (s0 : Int32) (σ : St) : Prop := (s0 = 0 ∨ s0 = 1) ∧ (f_X10_reads_J79_26 again26 post v2 (st_up σ 1 6 s0))
set_option maxRecDepth 100000 in
set_option maxHeartbeats 4000000 in
theorem p_X10_reads_J76_26 (again26 : Int32 → St → Prop) (post : Int32 → St → Prop) (hagain26 : ∀ (v2 : Int32) (τ : St), again26 v2 τ → Ev SX RX10 cX10_reads 3 (some .int) 5 (EQi SX post) 26 [some (.ref 1), some (.ref 3), some (.int v2)] [] τ) (v2 : Int32) (s0 : Int32) (σ : St) (hf : f_X10_reads_J76_26 again26 post v2 s0 σ) : Ev SX RX10 cX10_reads 3 (some .int) 5 (EQi SX post) 76 [some (.ref 1), some (.ref 3), some (.int v2)] [.int s0, .ref 1] σ := by
  rw [f_X10_reads_J76_26] at hf
  obtain ⟨h17, hf⟩ := hf
  refine ev_puti (pc := 76) fp_X10_27_10_6 rfl (by decide) rfl (nb_n h17) (nb_f h17) dX10_reads_76 ?_
  exact p_X10_reads_J79_26 again26 post hagain26 _ _ hf
def f_X10_reads_L26 (post : Int32 → St → Prop) : Nat → Int32 → St → Prop
  | 0, _, _ => False
  | n + 1, v2, σ => (150 < v2 → (post ((-10) - (σ.1 1 0)) σ)) ∧ (¬ 150 < v2 → (f_X10_readsToken σ (fun σ7 => (¬ (σ7.1 1 4) = 0 → (f_X10_readsItem σ7 (fun σ10 => (¬ (σ10.1 1 6) = 0 → (f_X10_reads_J79_26 (f_X10_reads_L26 post n) post v2 σ10)) ∧ ((σ10.1 1 6) = 0 → (f_X10_readsToken σ10 (fun σ14 => ((σ14.1 1 4) = 3 → (f_X10_reads_J76_26 (f_X10_reads_L26 post n) post v2 0 σ14)) ∧ (¬ (σ14.1 1 4) = 3 → (f_X10_reads_J76_26 (f_X10_reads_L26 post n) post v2 1 σ14)))))))) ∧ ((σ7.1 1 4) = 0 → (post v2 σ7)))))
set_option maxRecDepth 100000 in
set_option maxHeartbeats 4000000 in
theorem p_X10_reads_L26 (post : Int32 → St → Prop) : ∀ (n : Nat) (v2 : Int32) (σ : St), f_X10_reads_L26 post n v2 σ → Ev SX RX10 cX10_reads 3 (some .int) 5 (EQi SX post) 26 [some (.ref 1), some (.ref 3), some (.int v2)] [] σ := by
  intro n
  induction n with
  | zero =>
    intro v2 σ hf
    exact hf.elim
  | succ n hagain26 =>
    intro v2 σ hf
    rw [f_X10_reads_L26] at hf
    refine ev_iload_n (pc := 26) dX10_reads_26 rfl (i := 2) rfl ?_
    refine ev_sipush (pc := 27) (v := 150) dX10_reads_27 ks_150 ?_
    refine ev_icmp_gt (pc := 30) (tgt := 100) dX10_reads_30 (by decide) (fun c6 => ?_) (fun c6 => ?_)
    · have hf := hf.1 c6
      refine ev_bipush (pc := 100) (v := (-10)) dX10_reads_100 kb_m10 ?_
      refine ev_aload_n (pc := 102) dX10_reads_102 rfl (i := 0) rfl ?_
      refine ev_get (pc := 103) fl_X10_15_10_0 rfl (by decide) rfl rfl dX10_reads_103 ?_
      refine ev_isub (pc := 106) dX10_reads_106 ?_
      exact ev_iret (pc := 107) rfl dX10_reads_107 hf
    · have hf := hf.2 c6
      refine ev_aload_n (pc := 33) dX10_reads_33 rfl (i := 0) rfl ?_
      refine ev_callv (pc := 34) (stk := []) (ce_V (c_X10_readsToken σ _ hf) wv_X10_37_X10_readsToken rfl (by decide) rfl (by decide) rfl (Nat.le_of_ble_eq_true rfl) rfl dX10_reads_34) (fun σ7 hf => ?_)
      refine ev_aload_n (pc := 37) dX10_reads_37 rfl (i := 0) rfl ?_
      refine ev_get (pc := 38) fl_X10_40_10_4 rfl (by decide) rfl rfl dX10_reads_38 ?_
      refine ev_if_ne (pc := 41) (tgt := 46) dX10_reads_41 (by decide) (fun c9 => ?_) (fun c9 => ?_)
      · have hf := hf.1 c9
        refine ev_aload_n (pc := 46) dX10_reads_46 rfl (i := 0) rfl ?_
        refine ev_aload_n (pc := 47) dX10_reads_47 rfl (i := 1) rfl ?_
        refine ev_callv (pc := 48) (stk := []) (ce_V (c_X10_readsItem σ7 _ hf) wv_X10_43_X10_readsItem rfl (by decide) rfl (by decide) rfl (Nat.le_of_ble_eq_true rfl) rfl dX10_reads_48) (fun σ10 hf => ?_)
        refine ev_aload_n (pc := 51) dX10_reads_51 rfl (i := 0) rfl ?_
        refine ev_get (pc := 52) fl_X10_27_10_6 rfl (by decide) rfl rfl dX10_reads_52 ?_
        refine ev_if_ne (pc := 55) (tgt := 79) dX10_reads_55 (by decide) (fun c12 => ?_) (fun c12 => ?_)
        · have hf := hf.1 c12
          exact p_X10_reads_J79_26 (f_X10_reads_L26 post n) post hagain26 _ _ hf
        · have hf := hf.2 c12
          refine ev_aload_n (pc := 58) dX10_reads_58 rfl (i := 0) rfl ?_
          refine ev_callv (pc := 59) (stk := []) (ce_V (c_X10_readsToken σ10 _ hf) wv_X10_37_X10_readsToken rfl (by decide) rfl (by decide) rfl (Nat.le_of_ble_eq_true rfl) rfl dX10_reads_59) (fun σ14 hf => ?_)
          refine ev_aload_n (pc := 62) dX10_reads_62 rfl (i := 0) rfl ?_
          refine ev_aload_n (pc := 63) dX10_reads_63 rfl (i := 0) rfl ?_
          refine ev_get (pc := 64) fl_X10_40_10_4 rfl (by decide) rfl rfl dX10_reads_64 ?_
          refine ev_iconst (pc := 67) (v := 3) dX10_reads_67 kc_3 ?_
          refine ev_icmp_eq (pc := 68) (tgt := 75) dX10_reads_68 (by decide) (fun c16 => ?_) (fun c16 => ?_)
          · have hf := hf.1 c16
            refine ev_iconst (pc := 75) (v := 0) dX10_reads_75 kc_0 ?_
            exact p_X10_reads_J76_26 (f_X10_reads_L26 post n) post hagain26 _ _ _ hf
          · have hf := hf.2 c16
            refine ev_iconst (pc := 71) (v := 1) dX10_reads_71 kc_1 ?_
            refine ev_goto (pc := 72) (tgt := 76) dX10_reads_72 (by decide) ?_
            exact p_X10_reads_J76_26 (f_X10_reads_L26 post n) post hagain26 _ _ _ hf
      · have hf := hf.2 c9
        refine ev_iload_n (pc := 44) dX10_reads_44 rfl (i := 2) rfl ?_
        exact ev_iret (pc := 45) rfl dX10_reads_45 hf
def f_X10_reads (σ : St) (post : Int32 → St → Prop) : Prop := f_X0_empties σ (fun σ1 => ∀ σ3 : St, σ3 = (st_up σ1 1 3 0) → (∀ σ4 : St, σ4 = (st_up σ3 1 6 0) → (∀ σ5 : St, σ5 = (st_up σ4 1 7 0) → (∃ n18 : Nat, f_X10_reads_L26 post n18 0 (st_up σ5 1 8 0)))))
set_option maxRecDepth 100000 in
set_option maxHeartbeats 4000000 in
theorem c_X10_reads (σ : St) (post : Int32 → St → Prop) (hf : f_X10_reads σ post) : Ct SX yX10_reads cX10_reads 3 (some .int) 5 (EQi SX post) [.ref 1, .ref 3] σ := by
  rw [f_X10_reads] at hf
  refine ct_of (by decide) rfl (Nat.le_of_ble_eq_true rfl) ?_
  show Ev SX RX10 cX10_reads 3 (some .int) 5 (EQi SX post) 0 [some (.ref 1), some (.ref 3), none] [] σ
  refine ev_aload_n (pc := 0) dX10_reads_0 rfl (i := 1) rfl ?_
  refine ev_callv (pc := 1) (stk := []) (ce_V (c_X0_empties σ _ hf) wv_X10_19_X0_empties rfl (by decide) rfl (by decide) rfl (Nat.le_of_ble_eq_true rfl) rfl dX10_reads_1) (fun σ1 hf => ?_)
  refine ev_aload_n (pc := 4) dX10_reads_4 rfl (i := 0) rfl ?_
  refine ev_iconst (pc := 5) (v := 0) dX10_reads_5 kc_0 ?_
  refine ev_puti (pc := 6) fp_X10_24_10_3 rfl (by decide) rfl rfl rfl dX10_reads_6 ?_
  refine ev_aload_n (pc := 9) dX10_reads_9 rfl (i := 0) rfl ?_
  refine ev_iconst (pc := 10) (v := 0) dX10_reads_10 kc_0 ?_
  refine ev_nm (fun σ3 q3 => ?_)
  have hf := hf σ3 q3
  refine ev_puti (pc := 11) fp_X10_27_10_6 rfl (by decide) rfl rfl rfl dX10_reads_11 ?_
  refine ev_aload_n (pc := 14) dX10_reads_14 rfl (i := 0) rfl ?_
  refine ev_iconst (pc := 15) (v := 0) dX10_reads_15 kc_0 ?_
  refine ev_nm (fun σ4 q4 => ?_)
  have hf := hf σ4 q4
  refine ev_puti (pc := 16) fp_X10_31_10_7 rfl (by decide) rfl rfl rfl dX10_reads_16 ?_
  refine ev_aload_n (pc := 19) dX10_reads_19 rfl (i := 0) rfl ?_
  refine ev_iconst (pc := 20) (v := 0) dX10_reads_20 kc_0 ?_
  refine ev_nm (fun σ5 q5 => ?_)
  have hf := hf σ5 q5
  refine ev_puti (pc := 21) fp_X10_34_10_8 rfl (by decide) rfl rfl rfl dX10_reads_21 ?_
  refine ev_iconst (pc := 24) (v := 0) dX10_reads_24 kc_0 ?_
  refine ev_istore_n (pc := 25) (L' := [some (.ref 1), some (.ref 3), some (.int 0)]) dX10_reads_25 rfl (by decide) rfl rfl ?_
  obtain ⟨n18, hf⟩ := hf
  exact p_X10_reads_L26 post n18 _ _ hf
def f_X4_begins (σ : St) (post : St → Prop) : Prop := f_J7_fill_53178 41 6 0 (st_row σ 40 (va_cpy (σ.1 22) (σ.1 40) 0 0 6)) (fun σ1 => ∀ σ3 : St, σ3 = (st_up σ1 39 2 0) → (∀ σ4 : St, σ4 = (st_up σ3 39 3 0) → (post (st_up σ4 39 4 0))))
set_option maxRecDepth 100000 in
set_option maxHeartbeats 4000000 in
theorem c_X4_begins (σ : St) (post : St → Prop) (hf : f_X4_begins σ post) : Ct SX yX4_begins cX4_begins 2 none 1 (EQv SX post) [.ref 39, .ref 21] σ := by
  rw [f_X4_begins] at hf
  refine ct_of (by decide) rfl (Nat.le_of_ble_eq_true rfl) ?_
  show Ev SX RX4 cX4_begins 2 none 1 (EQv SX post) 0 [some (.ref 39), some (.ref 21)] [] σ
  refine ev_aload_n (pc := 0) dX4_begins_0 rfl (i := 1) rfl ?_
  refine ev_get (pc := 1) fl_X4_21_0_3 rfl (by decide) rfl rfl dX4_begins_1 ?_
  refine ev_iconst (pc := 4) (v := 0) dX4_begins_4 kc_0 ?_
  refine ev_aload_n (pc := 5) dX4_begins_5 rfl (i := 0) rfl ?_
  refine ev_get (pc := 6) fl_X4_9_4_0 rfl (by decide) rfl rfl dX4_begins_6 ?_
  refine ev_iconst (pc := 9) (v := 0) dX4_begins_9 kc_0 ?_
  refine ev_bipush (pc := 10) (v := 6) dX4_begins_10 kb_6 ?_
  refine ev_copy (pc := 12) wcp_X4_24 rfl rfl rfl (by decide) kn_0 kn_0 kn_6 (by omega) (Nat.le_of_ble_eq_true rfl) dX4_begins_12 ?_
  refine ev_aload_n (pc := 15) dX4_begins_15 rfl (i := 0) rfl ?_
  refine ev_get (pc := 16) fl_X4_15_4_1 rfl (by decide) rfl rfl dX4_begins_16 ?_
  refine ev_iconst (pc := 19) (v := 0) dX4_begins_19 kc_0 ?_
  refine ev_callv (pc := 20) (stk := []) (ce_S (c_J7_fill_53178 41 6 0 rfl (st_row σ 40 (va_cpy (σ.1 22) (σ.1 40) 0 0 6)) _ hf) wt_X4_30_J7_fill_53178  (by decide) rfl (Nat.le_of_ble_eq_true rfl) rfl dX4_begins_20) (fun σ1 hf => ?_)
  refine ev_aload_n (pc := 23) dX4_begins_23 rfl (i := 0) rfl ?_
  refine ev_iconst (pc := 24) (v := 0) dX4_begins_24 kc_0 ?_
  refine ev_puti (pc := 25) fp_X4_36_4_2 rfl (by decide) rfl rfl rfl dX4_begins_25 ?_
  refine ev_aload_n (pc := 28) dX4_begins_28 rfl (i := 0) rfl ?_
  refine ev_iconst (pc := 29) (v := 0) dX4_begins_29 kc_0 ?_
  refine ev_nm (fun σ3 q3 => ?_)
  have hf := hf σ3 q3
  refine ev_puti (pc := 30) fp_X4_40_4_3 rfl (by decide) rfl rfl rfl dX4_begins_30 ?_
  refine ev_aload_n (pc := 33) dX4_begins_33 rfl (i := 0) rfl ?_
  refine ev_iconst (pc := 34) (v := 0) dX4_begins_34 kc_0 ?_
  refine ev_nm (fun σ4 q4 => ?_)
  have hf := hf σ4 q4
  refine ev_puti (pc := 35) fp_X4_43_4_4 rfl (by decide) rfl rfl rfl dX4_begins_35 ?_
  exact ev_vret (pc := 38) rfl dX4_begins_38 hf
def f_X11_pit_L67 (post : Int32 → St → Prop) : Nat → Int32 → Int32 → St → Prop
  | 0, _, _, _ => False
  | n + 1, v1, v2, σ => (2 ≤ v2 → (post v1 σ)) ∧ (¬ 2 ≤ v2 → (vp_in v2 2 ∧ ((f_X11_pit_L67 post n) v1 (v2 + 1) (st_up σ 52 v2.toNatClampNeg 0))))
set_option maxRecDepth 100000 in
set_option maxHeartbeats 4000000 in
theorem p_X11_pit_L67 (post : Int32 → St → Prop) : ∀ (n : Nat) (v1 : Int32) (v2 : Int32) (σ : St), f_X11_pit_L67 post n v1 v2 σ → Ev SX RX11 cX11_pit 3 (some .int) 6 (EQi SX post) 67 [some (.ref 0), some (.int v1), some (.int v2)] [] σ := by
  intro n
  induction n with
  | zero =>
    intro v1 v2 σ hf
    exact hf.elim
  | succ n hagain67 =>
    intro v1 v2 σ hf
    rw [f_X11_pit_L67] at hf
    refine ev_iload_n (pc := 67) dX11_pit_67 rfl (i := 2) rfl ?_
    refine ev_iconst (pc := 68) (v := 2) dX11_pit_68 kc_2 ?_
    refine ev_icmp_ge (pc := 69) (tgt := 85) dX11_pit_69 (by decide) (fun c11 => ?_) (fun c11 => ?_)
    · have hf := hf.1 c11
      refine ev_iload_n (pc := 85) dX11_pit_85 rfl (i := 1) rfl ?_
      exact ev_iret (pc := 86) rfl dX11_pit_86 hf
    · have hf := hf.2 c11
      refine ev_aload_n (pc := 72) dX11_pit_72 rfl (i := 0) rfl ?_
      refine ev_get (pc := 73) fl_X11_37_11_5 rfl (by decide) rfl rfl dX11_pit_73 ?_
      refine ev_iload_n (pc := 76) dX11_pit_76 rfl (i := 2) rfl ?_
      refine ev_iconst (pc := 77) (v := 0) dX11_pit_77 kc_0 ?_
      obtain ⟨h12, hf⟩ := hf
      refine ev_zast (pc := 78) rfl (t := 1) rfl rfl h12 rfl (x' := 0) rfl dX11_pit_78 ?_
      refine ev_iinc (pc := 79) (v := v2 + 1) (L' := [some (.ref 0), some (.int v1), some (.int (v2 + 1))]) dX11_pit_79 rfl (by rw [kc_1]) (by decide) rfl rfl ?_
      refine ev_goto (pc := 82) (tgt := 67) dX11_pit_82 (by decide) ?_
      exact hagain67 _ _ _ hf
def f_X11_pit (σ : St) (post : Int32 → St → Prop) : Prop := f_X10_reads σ (fun x2 σ1 => (0 ≤ x2 → (f_X0_becomes (st_up σ1 1 0 0) (fun σ4 => f_X5_forgets σ4 (fun σ6 => f_X4_begins σ6 (fun σ8 => ∀ σ10 : St, σ10 = (st_up σ8 0 16 0) → (∃ n13 : Nat, f_X11_pit_L67 post n13 x2 0 (st_up σ10 0 17 0))))))) ∧ (¬ 0 ≤ x2 → (post x2 σ1)))
set_option maxRecDepth 100000 in
set_option maxHeartbeats 4000000 in
theorem c_X11_pit (σ : St) (post : Int32 → St → Prop) (hf : f_X11_pit σ post) : Ct SX yX11_pit cX11_pit 3 (some .int) 6 (EQi SX post) [.ref 0] σ := by
  rw [f_X11_pit] at hf
  refine ct_of (by decide) rfl (Nat.le_of_ble_eq_true rfl) ?_
  show Ev SX RX11 cX11_pit 3 (some .int) 6 (EQi SX post) 0 [some (.ref 0), none, none] [] σ
  refine ev_aload_n (pc := 0) dX11_pit_0 rfl (i := 0) rfl ?_
  refine ev_get (pc := 1) fl_X11_12_11_0 rfl (by decide) rfl rfl dX11_pit_1 ?_
  refine ev_aload_n (pc := 4) dX11_pit_4 rfl (i := 0) rfl ?_
  refine ev_get (pc := 5) fl_X11_19_11_1 rfl (by decide) rfl rfl dX11_pit_5 ?_
  refine ev_calli (pc := 8) (stk := []) (ce_V (c_X10_reads σ _ hf) wv_X11_107_X10_reads rfl (by decide) rfl (by decide) rfl (Nat.le_of_ble_eq_true rfl) rfl dX11_pit_8) (fun x2 σ1 hf => ?_)
  refine ev_istore_n (pc := 11) (L' := [some (.ref 0), some (.int x2), none]) dX11_pit_11 rfl (by decide) rfl rfl ?_
  refine ev_iload_n (pc := 12) dX11_pit_12 rfl (i := 1) rfl ?_
  refine ev_if_ge (pc := 13) (tgt := 18) dX11_pit_13 (by decide) (fun c3 => ?_) (fun c3 => ?_)
  · have hf := hf.1 c3
    refine ev_aload_n (pc := 18) dX11_pit_18 rfl (i := 0) rfl ?_
    refine ev_get (pc := 19) fl_X11_12_11_0 rfl (by decide) rfl rfl dX11_pit_19 ?_
    refine ev_iconst (pc := 22) (v := 0) dX11_pit_22 kc_0 ?_
    refine ev_puti (pc := 23) fp_X11_99_10_0 rfl (by decide) rfl rfl rfl dX11_pit_23 ?_
    refine ev_aload_n (pc := 26) dX11_pit_26 rfl (i := 0) rfl ?_
    refine ev_get (pc := 27) fl_X11_23_11_2 rfl (by decide) rfl rfl dX11_pit_27 ?_
    refine ev_aload_n (pc := 30) dX11_pit_30 rfl (i := 0) rfl ?_
    refine ev_get (pc := 31) fl_X11_19_11_1 rfl (by decide) rfl rfl dX11_pit_31 ?_
    refine ev_callv (pc := 34) (stk := []) (ce_V (c_X0_becomes (st_up σ1 1 0 0) _ hf) wv_X11_111_X0_becomes rfl (by decide) rfl (by decide) rfl (Nat.le_of_ble_eq_true rfl) rfl dX11_pit_34) (fun σ4 hf => ?_)
    refine ev_aload_n (pc := 37) dX11_pit_37 rfl (i := 0) rfl ?_
    refine ev_get (pc := 38) fl_X11_44_11_6 rfl (by decide) rfl rfl dX11_pit_38 ?_
    refine ev_callv (pc := 41) (stk := []) (ce_V (c_X5_forgets σ4 _ hf) wv_X11_115_X5_forgets rfl (by decide) rfl (by decide) rfl (Nat.le_of_ble_eq_true rfl) rfl dX11_pit_41) (fun σ6 hf => ?_)
    refine ev_aload_n (pc := 44) dX11_pit_44 rfl (i := 0) rfl ?_
    refine ev_get (pc := 45) fl_X11_29_11_3 rfl (by decide) rfl rfl dX11_pit_45 ?_
    refine ev_aload_n (pc := 48) dX11_pit_48 rfl (i := 0) rfl ?_
    refine ev_get (pc := 49) fl_X11_23_11_2 rfl (by decide) rfl rfl dX11_pit_49 ?_
    refine ev_callv (pc := 52) (stk := []) (ce_V (c_X4_begins σ6 _ hf) wv_X11_118_X4_begins rfl (by decide) rfl (by decide) rfl (Nat.le_of_ble_eq_true rfl) rfl dX11_pit_52) (fun σ8 hf => ?_)
    refine ev_aload_n (pc := 55) dX11_pit_55 rfl (i := 0) rfl ?_
    refine ev_iconst (pc := 56) (v := 0) dX11_pit_56 kc_0 ?_
    refine ev_puti (pc := 57) fp_X11_121_11_16 rfl (by decide) rfl rfl rfl dX11_pit_57 ?_
    refine ev_aload_n (pc := 60) dX11_pit_60 rfl (i := 0) rfl ?_
    refine ev_iconst (pc := 61) (v := 0) dX11_pit_61 kc_0 ?_
    refine ev_nm (fun σ10 q10 => ?_)
    have hf := hf σ10 q10
    refine ev_puti (pc := 62) fp_X11_124_11_17 rfl (by decide) rfl rfl rfl dX11_pit_62 ?_
    refine ev_iconst (pc := 65) (v := 0) dX11_pit_65 kc_0 ?_
    refine ev_istore_n (pc := 66) (L' := [some (.ref 0), some (.int x2), some (.int 0)]) dX11_pit_66 rfl (by decide) rfl rfl ?_
    obtain ⟨n13, hf⟩ := hf
    exact p_X11_pit_L67 post n13 _ _ _ hf
  · have hf := hf.2 c3
    refine ev_iload_n (pc := 16) dX11_pit_16 rfl (i := 1) rfl ?_
    exact ev_iret (pc := 17) rfl dX11_pit_17 hf
def f_X0_isMan (a1 : Int32) (σ : St) (post : Int32 → St → Prop) : Prop := (a1 < 0 → (post 0 σ)) ∧ (¬ a1 < 0 → (((σ.1 21 0) ≤ a1 → (post 0 σ)) ∧ (¬ (σ.1 21 0) ≤ a1 → (post 1 σ))))
set_option maxRecDepth 100000 in
set_option maxHeartbeats 4000000 in
theorem c_X0_isMan (a1 : Int32) (σ : St) (post : Int32 → St → Prop) (hf : f_X0_isMan a1 σ post) : Ct SX yX0_isMan cX0_isMan 2 (some .boolean) 0 (EQi SX post) [.ref 21, .int a1] σ := by
  rw [f_X0_isMan] at hf
  refine ct_of (by decide) rfl (Nat.le_of_ble_eq_true rfl) ?_
  show Ev SX RX0 cX0_isMan 2 (some .boolean) 0 (EQi SX post) 0 [some (.ref 21), some (.int a1)] [] σ
  refine ev_iload_n (pc := 0) dX0_isMan_0 rfl (i := 1) rfl ?_
  refine ev_if_lt (pc := 1) (tgt := 16) dX0_isMan_1 (by decide) (fun c1 => ?_) (fun c1 => ?_)
  · have hf := hf.1 c1
    refine ev_iconst (pc := 16) (v := 0) dX0_isMan_16 kc_0 ?_
    exact ev_zret (pc := 17) rfl dX0_isMan_17 rfl hf
  · have hf := hf.2 c1
    refine ev_iload_n (pc := 4) dX0_isMan_4 rfl (i := 1) rfl ?_
    refine ev_aload_n (pc := 5) dX0_isMan_5 rfl (i := 0) rfl ?_
    refine ev_get (pc := 6) fl_X0_36_0_0 rfl (by decide) rfl rfl dX0_isMan_6 ?_
    refine ev_icmp_ge (pc := 9) (tgt := 16) dX0_isMan_9 (by decide) (fun c2 => ?_) (fun c2 => ?_)
    · have hf := hf.1 c2
      refine ev_iconst (pc := 16) (v := 0) dX0_isMan_16 kc_0 ?_
      exact ev_zret (pc := 17) rfl dX0_isMan_17 rfl hf
    · have hf := hf.2 c2
      refine ev_iconst (pc := 12) (v := 1) dX0_isMan_12 kc_1 ?_
      refine ev_goto (pc := 13) (tgt := 17) dX0_isMan_13 (by decide) ?_
      exact ev_zret (pc := 17) rfl dX0_isMan_17 rfl hf
def f_X11_man (a1 : Int32) (a2 : Int32) (σ : St) (post : Int32 → St → Prop) : Prop := f_X0_isMan a1 σ (fun x2 σ1 => (¬ x2 = 0 → ((a2 = 0 → (vp_in a1 6 ∧ (post (σ1.1 40 a1.toNatClampNeg) σ1))) ∧ (a2 = 1 → (vp_in a1 6 ∧ (post (σ1.1 23 a1.toNatClampNeg) σ1))) ∧ (a2 = 2 → (vp_in a1 6 ∧ (post (σ1.1 41 a1.toNatClampNeg) σ1))) ∧ (¬ a2 = 0 → ¬ a2 = 1 → ¬ a2 = 2 → (post (-1) σ1)))) ∧ (x2 = 0 → (post (-1) σ1)))
set_option maxRecDepth 100000 in
set_option maxHeartbeats 4000000 in
theorem c_X11_man (a1 : Int32) (a2 : Int32) (σ : St) (post : Int32 → St → Prop) (hf : f_X11_man a1 a2 σ post) : Ct SX yX11_man cX11_man 3 (some .int) 1 (EQi SX post) [.ref 0, .int a1, .int a2] σ := by
  rw [f_X11_man] at hf
  refine ct_of (by decide) rfl (Nat.le_of_ble_eq_true rfl) ?_
  show Ev SX RX11 cX11_man 3 (some .int) 1 (EQi SX post) 0 [some (.ref 0), some (.int a1), some (.int a2)] [] σ
  refine ev_aload_n (pc := 0) dX11_man_0 rfl (i := 0) rfl ?_
  refine ev_get (pc := 1) fl_X11_23_11_2 rfl (by decide) rfl rfl dX11_man_1 ?_
  refine ev_iload_n (pc := 4) dX11_man_4 rfl (i := 1) rfl ?_
  refine ev_calli (pc := 5) (stk := []) (ce_V (c_X0_isMan a1 σ _ hf) wv_X11_127_X0_isMan rfl (by decide) rfl (by decide) rfl (Nat.le_of_ble_eq_true rfl) rfl dX11_man_5) (fun x2 σ1 hf => ?_)
  refine ev_if_ne (pc := 8) (tgt := 13) dX11_man_8 (by decide) (fun c3 => ?_) (fun c3 => ?_)
  · have hf := hf.1 c3
    refine ev_iload_n (pc := 13) dX11_man_13 rfl (i := 2) rfl ?_
    by_cases e4 : a2 = 0
    · have hf := hf.1 e4
      refine ev_tabIn (pc := 14) (off := 26) (tgt := 40) dX11_man_14 (by rw [e4]; decide) (by rw [e4]; decide) (by rw [e4]; decide) (by decide) ?_
      refine ev_aload_n (pc := 40) dX11_man_40 rfl (i := 0) rfl ?_
      refine ev_get (pc := 41) fl_X11_29_11_3 rfl (by decide) rfl rfl dX11_man_41 ?_
      refine ev_get (pc := 44) fl_X11_131_4_0 rfl (by decide) rfl rfl dX11_man_44 ?_
      refine ev_iload_n (pc := 47) dX11_man_47 rfl (i := 1) rfl ?_
      obtain ⟨h5, hf⟩ := hf
      refine ev_iald (pc := 48) rfl rfl h5 rfl dX11_man_48 ?_
      exact ev_iret (pc := 49) rfl dX11_man_49 hf
    by_cases e6 : a2 = 1
    · have hf := hf.2.1 e6
      refine ev_tabIn (pc := 14) (off := 36) (tgt := 50) dX11_man_14 (by rw [e6]; decide) (by rw [e6]; decide) (by rw [e6]; decide) (by decide) ?_
      refine ev_aload_n (pc := 50) dX11_man_50 rfl (i := 0) rfl ?_
      refine ev_get (pc := 51) fl_X11_23_11_2 rfl (by decide) rfl rfl dX11_man_51 ?_
      refine ev_get (pc := 54) fl_X11_134_0_4 rfl (by decide) rfl rfl dX11_man_54 ?_
      refine ev_iload_n (pc := 57) dX11_man_57 rfl (i := 1) rfl ?_
      obtain ⟨h7, hf⟩ := hf
      refine ev_iald (pc := 58) rfl rfl h7 rfl dX11_man_58 ?_
      exact ev_iret (pc := 59) rfl dX11_man_59 hf
    by_cases e8 : a2 = 2
    · have hf := hf.2.2.1 e8
      refine ev_tabIn (pc := 14) (off := 46) (tgt := 60) dX11_man_14 (by rw [e8]; decide) (by rw [e8]; decide) (by rw [e8]; decide) (by decide) ?_
      refine ev_aload_n (pc := 60) dX11_man_60 rfl (i := 0) rfl ?_
      refine ev_get (pc := 61) fl_X11_29_11_3 rfl (by decide) rfl rfl dX11_man_61 ?_
      refine ev_get (pc := 64) fl_X11_137_4_1 rfl (by decide) rfl rfl dX11_man_64 ?_
      refine ev_iload_n (pc := 67) dX11_man_67 rfl (i := 1) rfl ?_
      obtain ⟨h9, hf⟩ := hf
      refine ev_iald (pc := 68) rfl rfl h9 rfl dX11_man_68 ?_
      exact ev_iret (pc := 69) rfl dX11_man_69 hf
    have hf := hf.2.2.2 e4 e6 e8
    refine ev_tabOut (pc := 14) (tgt := 70) dX11_man_14 (tab_out 2 (by decide) (fun k hk => by
      match k, hk with
      | 0, _ => exact e4
      | 1, _ => exact e6
      | 2, _ => exact e8)) (by decide) ?_
    refine ev_iconst (pc := 70) (v := (-1)) dX11_man_70 kc_m1 ?_
    exact ev_iret (pc := 71) rfl dX11_man_71 hf
  · have hf := hf.2 c3
    refine ev_iconst (pc := 11) (v := (-1)) dX11_man_11 kc_m1 ?_
    exact ev_iret (pc := 12) rfl dX11_man_12 hf
def f_X0_areTwo (a1 : Int32) (a2 : Int32) (σ : St) (post : Int32 → St → Prop) : Prop := f_X0_isMan a1 σ (fun x2 σ1 => (x2 = 0 → (post 0 σ1)) ∧ (¬ x2 = 0 → (f_X0_isMan a2 σ1 (fun x5 σ4 => (x5 = 0 → (post 0 σ4)) ∧ (¬ x5 = 0 → ((a1 = a2 → (post 0 σ4)) ∧ (¬ a1 = a2 → (post 1 σ4))))))))
set_option maxRecDepth 100000 in
set_option maxHeartbeats 4000000 in
theorem c_X0_areTwo (a1 : Int32) (a2 : Int32) (σ : St) (post : Int32 → St → Prop) (hf : f_X0_areTwo a1 a2 σ post) : Ct SX yX0_areTwo cX0_areTwo 3 (some .boolean) 1 (EQi SX post) [.ref 21, .int a1, .int a2] σ := by
  rw [f_X0_areTwo] at hf
  refine ct_of (by decide) rfl (Nat.le_of_ble_eq_true rfl) ?_
  show Ev SX RX0 cX0_areTwo 3 (some .boolean) 1 (EQi SX post) 0 [some (.ref 21), some (.int a1), some (.int a2)] [] σ
  refine ev_aload_n (pc := 0) dX0_areTwo_0 rfl (i := 0) rfl ?_
  refine ev_iload_n (pc := 1) dX0_areTwo_1 rfl (i := 1) rfl ?_
  refine ev_calli (pc := 2) (stk := []) (ce_V (c_X0_isMan a1 σ _ hf) wv_X0_65_X0_isMan rfl (by decide) rfl (by decide) rfl (Nat.le_of_ble_eq_true rfl) rfl dX0_areTwo_2) (fun x2 σ1 hf => ?_)
  refine ev_if_eq (pc := 5) (tgt := 25) dX0_areTwo_5 (by decide) (fun c3 => ?_) (fun c3 => ?_)
  · have hf := hf.1 c3
    refine ev_iconst (pc := 25) (v := 0) dX0_areTwo_25 kc_0 ?_
    exact ev_zret (pc := 26) rfl dX0_areTwo_26 rfl hf
  · have hf := hf.2 c3
    refine ev_aload_n (pc := 8) dX0_areTwo_8 rfl (i := 0) rfl ?_
    refine ev_iload_n (pc := 9) dX0_areTwo_9 rfl (i := 2) rfl ?_
    refine ev_calli (pc := 10) (stk := []) (ce_V (c_X0_isMan a2 σ1 _ hf) wv_X0_65_X0_isMan rfl (by decide) rfl (by decide) rfl (Nat.le_of_ble_eq_true rfl) rfl dX0_areTwo_10) (fun x5 σ4 hf => ?_)
    refine ev_if_eq (pc := 13) (tgt := 25) dX0_areTwo_13 (by decide) (fun c6 => ?_) (fun c6 => ?_)
    · have hf := hf.1 c6
      refine ev_iconst (pc := 25) (v := 0) dX0_areTwo_25 kc_0 ?_
      exact ev_zret (pc := 26) rfl dX0_areTwo_26 rfl hf
    · have hf := hf.2 c6
      refine ev_iload_n (pc := 16) dX0_areTwo_16 rfl (i := 1) rfl ?_
      refine ev_iload_n (pc := 17) dX0_areTwo_17 rfl (i := 2) rfl ?_
      refine ev_icmp_eq (pc := 18) (tgt := 25) dX0_areTwo_18 (by decide) (fun c7 => ?_) (fun c7 => ?_)
      · have hf := hf.1 c7
        refine ev_iconst (pc := 25) (v := 0) dX0_areTwo_25 kc_0 ?_
        exact ev_zret (pc := 26) rfl dX0_areTwo_26 rfl hf
      · have hf := hf.2 c7
        refine ev_iconst (pc := 21) (v := 1) dX0_areTwo_21 kc_1 ?_
        refine ev_goto (pc := 22) (tgt := 26) dX0_areTwo_22 (by decide) ?_
        exact ev_zret (pc := 26) rfl dX0_areTwo_26 rfl hf
def f_X11_beside (a1 : Int32) (a2 : Int32) (σ : St) (post : Int32 → St → Prop) : Prop := f_X0_areTwo a1 a2 σ (fun x2 σ1 => (x2 = 0 → (post (-1000000) σ1)) ∧ (¬ x2 = 0 → (vp_in a1 6 ∧ (vp_in a2 6 ∧ (post (σ1.1 (25 + a1.toNatClampNeg) a2.toNatClampNeg) σ1)))))
set_option maxRecDepth 100000 in
set_option maxHeartbeats 4000000 in
theorem c_X11_beside (a1 : Int32) (a2 : Int32) (σ : St) (post : Int32 → St → Prop) (hf : f_X11_beside a1 a2 σ post) : Ct SX yX11_beside cX11_beside 3 (some .int) 2 (EQi SX post) [.ref 0, .int a1, .int a2] σ := by
  rw [f_X11_beside] at hf
  refine ct_of (by decide) rfl (Nat.le_of_ble_eq_true rfl) ?_
  show Ev SX RX11 cX11_beside 3 (some .int) 2 (EQi SX post) 0 [some (.ref 0), some (.int a1), some (.int a2)] [] σ
  refine ev_aload_n (pc := 0) dX11_beside_0 rfl (i := 0) rfl ?_
  refine ev_get (pc := 1) fl_X11_23_11_2 rfl (by decide) rfl rfl dX11_beside_1 ?_
  refine ev_iload_n (pc := 4) dX11_beside_4 rfl (i := 1) rfl ?_
  refine ev_iload_n (pc := 5) dX11_beside_5 rfl (i := 2) rfl ?_
  refine ev_calli (pc := 6) (stk := []) (ce_V (c_X0_areTwo a1 a2 σ _ hf) wv_X11_140_X0_areTwo rfl (by decide) rfl (by decide) rfl (Nat.le_of_ble_eq_true rfl) rfl dX11_beside_6) (fun x2 σ1 hf => ?_)
  refine ev_if_eq (pc := 9) (tgt := 26) dX11_beside_9 (by decide) (fun c3 => ?_) (fun c3 => ?_)
  · have hf := hf.1 c3
    refine ev_ldc (pc := 26) wk_X11_148 dX11_beside_26 ?_
    exact ev_iret (pc := 28) rfl dX11_beside_28 hf
  · have hf := hf.2 c3
    refine ev_aload_n (pc := 12) dX11_beside_12 rfl (i := 0) rfl ?_
    refine ev_get (pc := 13) fl_X11_23_11_2 rfl (by decide) rfl rfl dX11_beside_13 ?_
    refine ev_get (pc := 16) fl_X11_144_0_5 rfl (by decide) rfl rfl dX11_beside_16 ?_
    refine ev_iload_n (pc := 19) dX11_beside_19 rfl (i := 1) rfl ?_
    obtain ⟨h4, hf⟩ := hf
    refine ev_aald (pc := 20) (t := 4) rfl rfl rfl rfl h4 rfl dX11_beside_20 ?_
    refine ev_iload_n (pc := 21) dX11_beside_21 rfl (i := 2) rfl ?_
    obtain ⟨h5, hf⟩ := hf
    refine ev_iald (pc := 22) (kr_X_24 h4) rfl h5 rfl dX11_beside_22 ?_
    refine ev_goto (pc := 23) (tgt := 28) dX11_beside_23 (by decide) ?_
    exact ev_iret (pc := 28) rfl dX11_beside_28 hf
def f_X0_aheadOfCut (a1 : Int32) (a2 : Int32) (a3 : Int32) (σ : St) (post : Int32 → St → Prop) : Prop := vp_in a2 6 ∧ (vp_in a3 64 ∧ (∀ y3 : Int32, y3 = (a1 + (σ.1 (32 + a2.toNatClampNeg) a3.toNatClampNeg)) → ((0 ≤ y3 → ((y3 ≤ 999 → (post y3 σ)) ∧ (¬ y3 ≤ 999 → (post 999 σ)))) ∧ (¬ 0 ≤ y3 → (post 0 σ)))))
set_option maxRecDepth 100000 in
set_option maxHeartbeats 4000000 in
theorem c_X0_aheadOfCut (a1 : Int32) (a2 : Int32) (a3 : Int32) (σ : St) (post : Int32 → St → Prop) (hf : f_X0_aheadOfCut a1 a2 a3 σ post) : Ct SX yX0_aheadOfCut cX0_aheadOfCut 5 (some .int) 0 (EQi SX post) [.ref 21, .int a1, .int a2, .int a3] σ := by
  rw [f_X0_aheadOfCut] at hf
  refine ct_of (by decide) rfl (Nat.le_of_ble_eq_true rfl) ?_
  show Ev SX RX0 cX0_aheadOfCut 5 (some .int) 0 (EQi SX post) 0 [some (.ref 21), some (.int a1), some (.int a2), some (.int a3), none] [] σ
  refine ev_iload_n (pc := 0) dX0_aheadOfCut_0 rfl (i := 1) rfl ?_
  refine ev_aload_n (pc := 1) dX0_aheadOfCut_1 rfl (i := 0) rfl ?_
  refine ev_get (pc := 2) fl_X0_30_0_6 rfl (by decide) rfl rfl dX0_aheadOfCut_2 ?_
  refine ev_iload_n (pc := 5) dX0_aheadOfCut_5 rfl (i := 2) rfl ?_
  obtain ⟨h1, hf⟩ := hf
  refine ev_aald (pc := 6) (t := 4) rfl rfl rfl rfl h1 rfl dX0_aheadOfCut_6 ?_
  refine ev_iload_n (pc := 7) dX0_aheadOfCut_7 rfl (i := 3) rfl ?_
  obtain ⟨h2, hf⟩ := hf
  refine ev_iald (pc := 8) (kr_X_31 h1) rfl h2 rfl dX0_aheadOfCut_8 ?_
  refine ev_iadd (pc := 9) dX0_aheadOfCut_9 ?_
  refine ev_nmi (fun y3 qy4 => ?_)
  have hf := hf y3 qy4
  refine ev_istore (pc := 10) (L' := [some (.ref 21), some (.int a1), some (.int a2), some (.int a3), some (.int y3)]) dX0_aheadOfCut_10 (by decide) rfl rfl ?_
  refine ev_iload (pc := 12) dX0_aheadOfCut_12 rfl ?_
  refine ev_if_ge (pc := 14) (tgt := 21) dX0_aheadOfCut_14 (by decide) (fun c5 => ?_) (fun c5 => ?_)
  · have hf := hf.1 c5
    refine ev_iload (pc := 21) dX0_aheadOfCut_21 rfl ?_
    refine ev_sipush (pc := 23) (v := 999) dX0_aheadOfCut_23 ks_999 ?_
    refine ev_icmp_le (pc := 26) (tgt := 35) dX0_aheadOfCut_26 (by decide) (fun c6 => ?_) (fun c6 => ?_)
    · have hf := hf.1 c6
      refine ev_iload (pc := 35) dX0_aheadOfCut_35 rfl ?_
      exact ev_iret (pc := 37) rfl dX0_aheadOfCut_37 hf
    · have hf := hf.2 c6
      refine ev_sipush (pc := 29) (v := 999) dX0_aheadOfCut_29 ks_999 ?_
      refine ev_goto (pc := 32) (tgt := 37) dX0_aheadOfCut_32 (by decide) ?_
      exact ev_iret (pc := 37) rfl dX0_aheadOfCut_37 hf
  · have hf := hf.2 c5
    refine ev_iconst (pc := 17) (v := 0) dX0_aheadOfCut_17 kc_0 ?_
    refine ev_goto (pc := 18) (tgt := 37) dX0_aheadOfCut_18 (by decide) ?_
    exact ev_iret (pc := 37) rfl dX0_aheadOfCut_37 hf
