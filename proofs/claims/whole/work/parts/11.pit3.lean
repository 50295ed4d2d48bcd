def f_X5_isStart_L2 (r2 : Nat) (n2 : Nat) (post : Int32 → St → Prop) : Nat → Int32 → St → Prop
  | 0, _, _ => False
  | n + 1, v3, σ => ((σ.1 21 0) ≤ v3 → (post 1 σ)) ∧ (¬ (σ.1 21 0) ≤ v3 → (vp_in v3 6 ∧ (vp_in v3 n2 ∧ (((σ.1 56 v3.toNatClampNeg) = (σ.1 r2 v3.toNatClampNeg) → ((f_X5_isStart_L2 r2 n2 post n) (v3 + 1) σ)) ∧ (¬ (σ.1 56 v3.toNatClampNeg) = (σ.1 r2 v3.toNatClampNeg) → (post 0 σ))))))
set_option maxRecDepth 100000 in
set_option maxHeartbeats 4000000 in
theorem p_X5_isStart_L2 (r2 : Nat) (n2 : Nat) (hr2 : SX.1[r2]? = some (20, n2, [])) (post : Int32 → St → Prop) : ∀ (n : Nat) (v3 : Int32) (σ : St), f_X5_isStart_L2 r2 n2 post n v3 σ → Ev SX RX5 cX5_isStart 4 (some .boolean) 0 (EQi SX post) 2 [some (.ref 53), some (.ref 21), some (.ref r2), some (.int v3)] [] σ := by
  intro n
  induction n with
  | zero =>
    intro v3 σ hf
    exact hf.elim
  | succ n hagain2 =>
    intro v3 σ hf
    rw [f_X5_isStart_L2] at hf
    refine ev_iload_n (pc := 2) dX5_isStart_2 rfl (i := 3) rfl ?_
    refine ev_aload_n (pc := 3) dX5_isStart_3 rfl (i := 1) rfl ?_
    refine ev_get (pc := 4) fl_X5_40_0_0 rfl (by decide) rfl rfl dX5_isStart_4 ?_
    refine ev_icmp_ge (pc := 7) (tgt := 32) dX5_isStart_7 (by decide) (fun c1 => ?_) (fun c1 => ?_)
    · have hf := hf.1 c1
      refine ev_iconst (pc := 32) (v := 1) dX5_isStart_32 kc_1 ?_
      exact ev_zret (pc := 33) rfl dX5_isStart_33 rfl hf
    · have hf := hf.2 c1
      refine ev_aload_n (pc := 10) dX5_isStart_10 rfl (i := 0) rfl ?_
      refine ev_get (pc := 11) fl_X5_17_5_2 rfl (by decide) rfl rfl dX5_isStart_11 ?_
      refine ev_iconst (pc := 14) (v := 0) dX5_isStart_14 kc_0 ?_
      refine ev_aald (pc := 15) (t := 4) rfl rfl rfl rfl ki_0_4 (j := 0) kn_0 dX5_isStart_15 ?_
      refine ev_iload_n (pc := 16) dX5_isStart_16 rfl (i := 3) rfl ?_
      obtain ⟨h2, hf⟩ := hf
      refine ev_iald (pc := 17) rfl rfl h2 rfl dX5_isStart_17 ?_
      refine ev_aload_n (pc := 18) dX5_isStart_18 rfl (i := 2) rfl ?_
      refine ev_iload_n (pc := 19) dX5_isStart_19 rfl (i := 3) rfl ?_
      obtain ⟨h3, hf⟩ := hf
      refine ev_iald (pc := 20) hr2 rfl h3 rfl dX5_isStart_20 ?_
      refine ev_icmp_eq (pc := 21) (tgt := 26) dX5_isStart_21 (by decide) (fun c4 => ?_) (fun c4 => ?_)
      · have hf := hf.1 c4
        refine ev_iinc (pc := 26) (v := v3 + 1) (L' := [some (.ref 53), some (.ref 21), some (.ref r2), some (.int (v3 + 1))]) dX5_isStart_26 rfl (by rw [kc_1]) (by decide) rfl rfl ?_
        refine ev_goto (pc := 29) (tgt := 2) dX5_isStart_29 (by decide) ?_
        exact hagain2 _ _ hf
      · have hf := hf.2 c4
        refine ev_iconst (pc := 24) (v := 0) dX5_isStart_24 kc_0 ?_
        exact ev_zret (pc := 25) rfl dX5_isStart_25 rfl hf
def f_X5_isStart (r2 : Nat) (n2 : Nat) (σ : St) (post : Int32 → St → Prop) : Prop := ∃ n5 : Nat, f_X5_isStart_L2 r2 n2 post n5 0 σ
set_option maxRecDepth 100000 in
set_option maxHeartbeats 4000000 in
theorem c_X5_isStart (r2 : Nat) (n2 : Nat) (hr2 : SX.1[r2]? = some (20, n2, [])) (σ : St) (post : Int32 → St → Prop) (hf : f_X5_isStart r2 n2 σ post) : Ct SX yX5_isStart cX5_isStart 4 (some .boolean) 0 (EQi SX post) [.ref 53, .ref 21, .ref r2] σ := by
  rw [f_X5_isStart] at hf
  refine ct_of (by decide) rfl (Nat.le_of_ble_eq_true rfl) ?_
  show Ev SX RX5 cX5_isStart 4 (some .boolean) 0 (EQi SX post) 0 [some (.ref 53), some (.ref 21), some (.ref r2), none] [] σ
  refine ev_iconst (pc := 0) (v := 0) dX5_isStart_0 kc_0 ?_
  refine ev_istore_n (pc := 1) (L' := [some (.ref 53), some (.ref 21), some (.ref r2), some (.int 0)]) dX5_isStart_1 rfl (by decide) rfl rfl ?_
  obtain ⟨n5, hf⟩ := hf
  exact p_X5_isStart_L2 r2 n2 hr2 post n5 _ _ hf
def f_X5_searches_L51 (r2 : Nat) (n2 : Nat) (a3 : Int32) (a4 : Int32) (k105 : St → Prop) (post : St → Prop) : Nat → Int32 → St → Prop
  | 0, _, _ => False
  | n + 1, v5, σ => ((σ.1 21 0) ≤ v5 → (k105 σ)) ∧ (¬ (σ.1 21 0) ≤ v5 → (vp_in v5 n2 ∧ (vp_in v5 6 ∧ (vp_in v5 n2 ∧ ((((st_up σ 56 v5.toNatClampNeg (σ.1 r2 v5.toNatClampNeg)).1 r2 v5.toNatClampNeg) < a4 → (∀ σ10 : St, σ10 = (st_up σ 56 v5.toNatClampNeg (σ.1 r2 v5.toNatClampNeg)) → ((f_X5_searches_L51 r2 n2 a3 a4 k105 post n) (v5 + 1) (st_up σ10 53 6 (((st_up σ 56 v5.toNatClampNeg (σ.1 r2 v5.toNatClampNeg)).1 53 6) ||| 0))))) ∧ (¬ ((st_up σ 56 v5.toNatClampNeg (σ.1 r2 v5.toNatClampNeg)).1 r2 v5.toNatClampNeg) < a4 → (∀ σ11 : St, σ11 = (st_up σ 56 v5.toNatClampNeg (σ.1 r2 v5.toNatClampNeg)) → ((f_X5_searches_L51 r2 n2 a3 a4 k105 post n) (v5 + 1) (st_up σ11 53 6 (((st_up σ 56 v5.toNatClampNeg (σ.1 r2 v5.toNatClampNeg)).1 53 6) ||| (1 <<< (v5 &&& 31))))))))))))
set_option maxRecDepth 100000 in
set_option maxHeartbeats 4000000 in
theorem p_X5_searches_L51 (r2 : Nat) (n2 : Nat) (a3 : Int32) (a4 : Int32) (hr2 : SX.1[r2]? = some (20, n2, [])) (k105 : St → Prop) (post : St → Prop) (hk105 : ∀ (τ : St), k105 τ → Ev SX RX5 cX5_searches 6 none 8 (EQv SX post) 105 [some (.ref 53), some (.ref 21), some (.ref r2), some (.int a3), some (.int a4), none] [] τ) : ∀ (n : Nat) (v5 : Int32) (σ : St), f_X5_searches_L51 r2 n2 a3 a4 k105 post n v5 σ → Ev SX RX5 cX5_searches 6 none 8 (EQv SX post) 51 [some (.ref 53), some (.ref 21), some (.ref r2), some (.int a3), some (.int a4), some (.int v5)] [] σ := by
  intro n
  induction n with
  | zero =>
    intro v5 σ hf
    exact hf.elim
  | succ n hagain51 =>
    intro v5 σ hf
    rw [f_X5_searches_L51] at hf
    refine ev_iload (pc := 51) dX5_searches_51 rfl ?_
    refine ev_aload_n (pc := 53) dX5_searches_53 rfl (i := 1) rfl ?_
    refine ev_get (pc := 54) fl_X5_40_0_0 rfl (by decide) rfl rfl dX5_searches_54 ?_
    refine ev_icmp_ge (pc := 57) (tgt := 105) dX5_searches_57 (by decide) (fun c5 => ?_) (fun c5 => ?_)
    · have hf := hf.1 c5
      refine ev_mask [true, true, true, true, true, false] (L' := [some (.ref 53), some (.ref 21), some (.ref r2), some (.int a3), some (.int a4), none]) rfl ?_
      exact hk105 _ hf
    · have hf := hf.2 c5
      refine ev_aload_n (pc := 60) dX5_searches_60 rfl (i := 0) rfl ?_
      refine ev_get (pc := 61) fl_X5_17_5_2 rfl (by decide) rfl rfl dX5_searches_61 ?_
      refine ev_iconst (pc := 64) (v := 0) dX5_searches_64 kc_0 ?_
      refine ev_aald (pc := 65) (t := 4) rfl rfl rfl rfl ki_0_4 (j := 0) kn_0 dX5_searches_65 ?_
      refine ev_iload (pc := 66) dX5_searches_66 rfl ?_
      refine ev_aload_n (pc := 68) dX5_searches_68 rfl (i := 2) rfl ?_
      refine ev_iload (pc := 69) dX5_searches_69 rfl ?_
      obtain ⟨h6, hf⟩ := hf
      refine ev_iald (pc := 71) hr2 rfl h6 rfl dX5_searches_71 ?_
      obtain ⟨h7, hf⟩ := hf
      refine ev_iast (pc := 72) rfl rfl h7 rfl dX5_searches_72 ?_
      refine ev_aload_n (pc := 73) dX5_searches_73 rfl (i := 0) rfl ?_
      refine ev_dup (pc := 74) dX5_searches_74 rfl ?_
      refine ev_get (pc := 75) fl_X5_37_5_6 rfl (by decide) rfl rfl dX5_searches_75 ?_
      refine ev_aload_n (pc := 78) dX5_searches_78 rfl (i := 2) rfl ?_
      refine ev_iload (pc := 79) dX5_searches_79 rfl ?_
      obtain ⟨h8, hf⟩ := hf
      refine ev_iald (pc := 81) hr2 rfl h8 rfl dX5_searches_81 ?_
      refine ev_iload (pc := 82) dX5_searches_82 rfl ?_
      refine ev_icmp_lt (pc := 84) (tgt := 94) dX5_searches_84 (by decide) (fun c9 => ?_) (fun c9 => ?_)
      · have hf := hf.1 c9
        refine ev_iconst (pc := 94) (v := 0) dX5_searches_94 kc_0 ?_
        refine ev_ior (pc := 95) dX5_searches_95 ?_
        refine ev_nm (fun σ10 q10 => ?_)
        have hf := hf σ10 q10
        refine ev_puti (pc := 96) fp_X5_37_5_6 rfl (by decide) rfl rfl rfl dX5_searches_96 ?_
        refine ev_iinc (pc := 99) (v := v5 + 1) (L' := [some (.ref 53), some (.ref 21), some (.ref r2), some (.int a3), some (.int a4), some (.int (v5 + 1))]) dX5_searches_99 rfl (by rw [kc_1]) (by decide) rfl rfl ?_
        refine ev_goto (pc := 102) (tgt := 51) dX5_searches_102 (by decide) ?_
        exact hagain51 _ _ hf
      · have hf := hf.2 c9
        refine ev_iconst (pc := 87) (v := 1) dX5_searches_87 kc_1 ?_
        refine ev_iload (pc := 88) dX5_searches_88 rfl ?_
        refine ev_ishl (pc := 90) dX5_searches_90 ?_
        refine ev_goto (pc := 91) (tgt := 95) dX5_searches_91 (by decide) ?_
        refine ev_ior (pc := 95) dX5_searches_95 ?_
        refine ev_nm (fun σ11 q11 => ?_)
        have hf := hf σ11 q11
        refine ev_puti (pc := 96) fp_X5_37_5_6 rfl (by decide) rfl rfl rfl dX5_searches_96 ?_
        refine ev_iinc (pc := 99) (v := v5 + 1) (L' := [some (.ref 53), some (.ref 21), some (.ref r2), some (.int a3), some (.int a4), some (.int (v5 + 1))]) dX5_searches_99 rfl (by rw [kc_1]) (by decide) rfl rfl ?_
        refine ev_goto (pc := 102) (tgt := 51) dX5_searches_102 (by decide) ?_
        exact hagain51 _ _ hf
def f_X5_searches_J27 (r2 : Nat) (n2 : Nat) (a3 : Int32) (a4 : Int32) (post : St → Prop) (σ : St) : Prop := ∀ σ2 : St, σ2 = (st_up σ 53 4 a3) → (∀ σ3 : St, σ3 = (st_up σ2 53 5 a4) → (∀ σ4 : St, σ4 = (st_up σ3 53 0 (-1)) → (∃ n15 : Nat, f_X5_searches_L51 r2 n2 a3 a4 (fun σ12 => f_X5_looks 4 0 0 σ12 (fun σ13 => post σ13)) post n15 0 (st_up σ4 53 6 0))))
set_option maxRecDepth 100000 in
set_option maxHeartbeats 4000000 in
theorem p_X5_searches_J27 (r2 : Nat) (n2 : Nat) (a3 : Int32) (a4 : Int32) (hr2 : SX.1[r2]? = some (20, n2, [])) (post : St → Prop) (σ : St) (hf : f_X5_searches_J27 r2 n2 a3 a4 post σ) : Ev SX RX5 cX5_searches 6 none 8 (EQv SX post) 27 [some (.ref 53), some (.ref 21), some (.ref r2), some (.int a3), some (.int a4), none] [] σ := by
  rw [f_X5_searches_J27] at hf
  refine ev_aload_n (pc := 27) dX5_searches_27 rfl (i := 0) rfl ?_
  refine ev_iload_n (pc := 28) dX5_searches_28 rfl (i := 3) rfl ?_
  refine ev_puti (pc := 29) fp_X5_23_5_4 rfl (by decide) rfl rfl rfl dX5_searches_29 ?_
  refine ev_aload_n (pc := 32) dX5_searches_32 rfl (i := 0) rfl ?_
  refine ev_iload (pc := 33) dX5_searches_33 rfl ?_
  refine ev_nm (fun σ2 q2 => ?_)
  have hf := hf σ2 q2
  refine ev_puti (pc := 35) fp_X5_27_5_5 rfl (by decide) rfl rfl rfl dX5_searches_35 ?_
  refine ev_aload_n (pc := 38) dX5_searches_38 rfl (i := 0) rfl ?_
  refine ev_iconst (pc := 39) (v := (-1)) dX5_searches_39 kc_m1 ?_
  refine ev_nm (fun σ3 q3 => ?_)
  have hf := hf σ3 q3
  refine ev_puti (pc := 40) fp_X5_34_5_0 rfl (by decide) rfl rfl rfl dX5_searches_40 ?_
  refine ev_aload_n (pc := 43) dX5_searches_43 rfl (i := 0) rfl ?_
  refine ev_iconst (pc := 44) (v := 0) dX5_searches_44 kc_0 ?_
  refine ev_nm (fun σ4 q4 => ?_)
  have hf := hf σ4 q4
  refine ev_puti (pc := 45) fp_X5_37_5_6 rfl (by decide) rfl rfl rfl dX5_searches_45 ?_
  refine ev_iconst (pc := 48) (v := 0) dX5_searches_48 kc_0 ?_
  refine ev_istore (pc := 49) (L' := [some (.ref 53), some (.ref 21), some (.ref r2), some (.int a3), some (.int a4), some (.int 0)]) dX5_searches_49 (by decide) rfl rfl ?_
  obtain ⟨n15, hf⟩ := hf
  exact p_X5_searches_L51 r2 n2 a3 a4 hr2 _ post (fun σ12 hf => by
    refine ev_aload_n (pc := 105) dX5_searches_105 rfl (i := 0) rfl ?_
    refine ev_aload_n (pc := 106) dX5_searches_106 rfl (i := 1) rfl ?_
    refine ev_iconst (pc := 107) (v := 0) dX5_searches_107 kc_0 ?_
    refine ev_iconst (pc := 108) (v := 0) dX5_searches_108 kc_0 ?_
    refine ev_callv (pc := 109) (stk := []) (ce_V (c_X5_looks 4 0 0 σ12 _ hf) wv_X5_45_X5_looks rfl (by decide) rfl (by omega) rfl (Nat.le_of_ble_eq_true rfl) rfl dX5_searches_109) (fun σ13 hf => ?_)
    exact ev_vret (pc := 112) rfl dX5_searches_112 hf) n15 _ _ hf
def f_X5_searches (r2 : Nat) (n2 : Nat) (a3 : Int32) (a4 : Int32) (σ : St) (post : St → Prop) : Prop := (¬ a3 = (σ.1 53 4) → (f_X5_searches_J27 r2 n2 a3 a4 post σ)) ∧ (a3 = (σ.1 53 4) → ((¬ a4 = (σ.1 53 5) → (f_X5_searches_J27 r2 n2 a3 a4 post σ)) ∧ (a4 = (σ.1 53 5) → (f_X5_isStart r2 n2 σ (fun x18 σ17 => (x18 = 0 → (f_X5_searches_J27 r2 n2 a3 a4 post σ17)) ∧ (¬ x18 = 0 → (post σ17)))))))
set_option maxRecDepth 100000 in
set_option maxHeartbeats 4000000 in
theorem c_X5_searches (r2 : Nat) (n2 : Nat) (a3 : Int32) (a4 : Int32) (hr2 : SX.1[r2]? = some (20, n2, [])) (σ : St) (post : St → Prop) (hf : f_X5_searches r2 n2 a3 a4 σ post) : Ct SX yX5_searches cX5_searches 6 none 8 (EQv SX post) [.ref 53, .ref 21, .ref r2, .int a3, .int a4] σ := by
  rw [f_X5_searches] at hf
  refine ct_of (by decide) rfl (Nat.le_of_ble_eq_true rfl) ?_
  show Ev SX RX5 cX5_searches 6 none 8 (EQv SX post) 0 [some (.ref 53), some (.ref 21), some (.ref r2), some (.int a3), some (.int a4), none] [] σ
  refine ev_iload_n (pc := 0) dX5_searches_0 rfl (i := 3) rfl ?_
  refine ev_aload_n (pc := 1) dX5_searches_1 rfl (i := 0) rfl ?_
  refine ev_get (pc := 2) fl_X5_23_5_4 rfl (by decide) rfl rfl dX5_searches_2 ?_
  refine ev_icmp_ne (pc := 5) (tgt := 27) dX5_searches_5 (by decide) (fun c1 => ?_) (fun c1 => ?_)
  · have hf := hf.1 c1
    exact p_X5_searches_J27 r2 n2 a3 a4 hr2 post _ hf
  · have hf := hf.2 c1
    refine ev_iload (pc := 8) dX5_searches_8 rfl ?_
    refine ev_aload_n (pc := 10) dX5_searches_10 rfl (i := 0) rfl ?_
    refine ev_get (pc := 11) fl_X5_27_5_5 rfl (by decide) rfl rfl dX5_searches_11 ?_
    refine ev_icmp_ne (pc := 14) (tgt := 27) dX5_searches_14 (by decide) (fun c16 => ?_) (fun c16 => ?_)
    · have hf := hf.1 c16
      exact p_X5_searches_J27 r2 n2 a3 a4 hr2 post _ hf
    · have hf := hf.2 c16
      refine ev_aload_n (pc := 17) dX5_searches_17 rfl (i := 0) rfl ?_
      refine ev_aload_n (pc := 18) dX5_searches_18 rfl (i := 1) rfl ?_
      refine ev_aload_n (pc := 19) dX5_searches_19 rfl (i := 2) rfl ?_
      refine ev_calli (pc := 20) (stk := []) (ce_V (c_X5_isStart r2 n2 hr2 σ _ hf) wv_X5_30_X5_isStart rfl (by decide) rfl (by decide) rfl (Nat.le_of_ble_eq_true rfl) rfl dX5_searches_20) (fun x18 σ17 hf => ?_)
      refine ev_if_eq (pc := 23) (tgt := 27) dX5_searches_23 (by decide) (fun c19 => ?_) (fun c19 => ?_)
      · have hf := hf.1 c19
        exact p_X5_searches_J27 r2 n2 a3 a4 hr2 post _ hf
      · have hf := hf.2 c19
        exact ev_vret (pc := 26) rfl dX5_searches_26 hf
def f_X11_plan (a1 : Int32) (a2 : Int32) (a3 : Int32) (σ : St) (post : Int32 → St → Prop) : Prop := (a1 < 1 → (post (-1) σ)) ∧ (¬ a1 < 1 → ((3 < a1 → (post (-1) σ)) ∧ (¬ 3 < a1 → ((a2 < 0 → (post (-1) σ)) ∧ (¬ a2 < 0 → ((99 < a2 → (post (-1) σ)) ∧ (¬ 99 < a2 → ((a3 < (-1) → (post (-1) σ)) ∧ (¬ a3 < (-1) → ((a3 < 3 → ((a3 < a1 → (f_X5_searches 40 6 a1 a2 σ (fun σ8 => (0 ≤ a3 → (vp_in a3 3 ∧ (post (σ8.1 54 a3.toNatClampNeg) σ8))) ∧ (¬ 0 ≤ a3 → (post (σ8.1 53 0) σ8))))) ∧ (¬ a3 < a1 → (post (-9) σ)))) ∧ (¬ a3 < 3 → (post (-1) σ))))))))))))
set_option maxRecDepth 100000 in
set_option maxHeartbeats 4000000 in
theorem c_X11_plan (a1 : Int32) (a2 : Int32) (a3 : Int32) (σ : St) (post : Int32 → St → Prop) (hf : f_X11_plan a1 a2 a3 σ post) : Ct SX yX11_plan cX11_plan 4 (some .int) 9 (EQi SX post) [.ref 0, .int a1, .int a2, .int a3] σ := by
  rw [f_X11_plan] at hf
  refine ct_of (by decide) rfl (Nat.le_of_ble_eq_true rfl) ?_
  show Ev SX RX11 cX11_plan 4 (some .int) 9 (EQi SX post) 0 [some (.ref 0), some (.int a1), some (.int a2), some (.int a3)] [] σ
  refine ev_iload_n (pc := 0) dX11_plan_0 rfl (i := 1) rfl ?_
  refine ev_iconst (pc := 1) (v := 1) dX11_plan_1 kc_1 ?_
  refine ev_icmp_lt (pc := 2) (tgt := 30) dX11_plan_2 (by decide) (fun c1 => ?_) (fun c1 => ?_)
  · have hf := hf.1 c1
    refine ev_iconst (pc := 30) (v := (-1)) dX11_plan_30 kc_m1 ?_
    exact ev_iret (pc := 31) rfl dX11_plan_31 hf
  · have hf := hf.2 c1
    refine ev_iload_n (pc := 5) dX11_plan_5 rfl (i := 1) rfl ?_
    refine ev_iconst (pc := 6) (v := 3) dX11_plan_6 kc_3 ?_
    refine ev_icmp_gt (pc := 7) (tgt := 30) dX11_plan_7 (by decide) (fun c2 => ?_) (fun c2 => ?_)
    · have hf := hf.1 c2
      refine ev_iconst (pc := 30) (v := (-1)) dX11_plan_30 kc_m1 ?_
      exact ev_iret (pc := 31) rfl dX11_plan_31 hf
    · have hf := hf.2 c2
      refine ev_iload_n (pc := 10) dX11_plan_10 rfl (i := 2) rfl ?_
      refine ev_if_lt (pc := 11) (tgt := 30) dX11_plan_11 (by decide) (fun c3 => ?_) (fun c3 => ?_)
      · have hf := hf.1 c3
        refine ev_iconst (pc := 30) (v := (-1)) dX11_plan_30 kc_m1 ?_
        exact ev_iret (pc := 31) rfl dX11_plan_31 hf
      · have hf := hf.2 c3
        refine ev_iload_n (pc := 14) dX11_plan_14 rfl (i := 2) rfl ?_
        refine ev_bipush (pc := 15) (v := 99) dX11_plan_15 kb_99 ?_
        refine ev_icmp_gt (pc := 17) (tgt := 30) dX11_plan_17 (by decide) (fun c4 => ?_) (fun c4 => ?_)
        · have hf := hf.1 c4
          refine ev_iconst (pc := 30) (v := (-1)) dX11_plan_30 kc_m1 ?_
          exact ev_iret (pc := 31) rfl dX11_plan_31 hf
        · have hf := hf.2 c4
          refine ev_iload_n (pc := 20) dX11_plan_20 rfl (i := 3) rfl ?_
          refine ev_iconst (pc := 21) (v := (-1)) dX11_plan_21 kc_m1 ?_
          refine ev_icmp_lt (pc := 22) (tgt := 30) dX11_plan_22 (by decide) (fun c5 => ?_) (fun c5 => ?_)
          · have hf := hf.1 c5
            refine ev_iconst (pc := 30) (v := (-1)) dX11_plan_30 kc_m1 ?_
            exact ev_iret (pc := 31) rfl dX11_plan_31 hf
          · have hf := hf.2 c5
            refine ev_iload_n (pc := 25) dX11_plan_25 rfl (i := 3) rfl ?_
            refine ev_iconst (pc := 26) (v := 3) dX11_plan_26 kc_3 ?_
            refine ev_icmp_lt (pc := 27) (tgt := 32) dX11_plan_27 (by decide) (fun c6 => ?_) (fun c6 => ?_)
            · have hf := hf.1 c6
              refine ev_iload_n (pc := 32) dX11_plan_32 rfl (i := 3) rfl ?_
              refine ev_iload_n (pc := 33) dX11_plan_33 rfl (i := 1) rfl ?_
              refine ev_icmp_lt (pc := 34) (tgt := 40) dX11_plan_34 (by decide) (fun c7 => ?_) (fun c7 => ?_)
              · have hf := hf.1 c7
                refine ev_aload_n (pc := 40) dX11_plan_40 rfl (i := 0) rfl ?_
                refine ev_get (pc := 41) fl_X11_44_11_6 rfl (by decide) rfl rfl dX11_plan_41 ?_
                refine ev_aload_n (pc := 44) dX11_plan_44 rfl (i := 0) rfl ?_
                refine ev_get (pc := 45) fl_X11_23_11_2 rfl (by decide) rfl rfl dX11_plan_45 ?_
                refine ev_aload_n (pc := 48) dX11_plan_48 rfl (i := 0) rfl ?_
                refine ev_get (pc := 49) fl_X11_29_11_3 rfl (by decide) rfl rfl dX11_plan_49 ?_
                refine ev_get (pc := 52) fl_X11_131_4_0 rfl (by decide) rfl rfl dX11_plan_52 ?_
                refine ev_iload_n (pc := 55) dX11_plan_55 rfl (i := 1) rfl ?_
                refine ev_iload_n (pc := 56) dX11_plan_56 rfl (i := 2) rfl ?_
                refine ev_callv (pc := 57) (stk := []) (ce_V (c_X5_searches 40 6 a1 a2 rfl σ _ hf) wv_X11_200_X5_searches rfl (by decide) rfl (by decide) rfl (Nat.le_of_ble_eq_true rfl) rfl dX11_plan_57) (fun σ8 hf => ?_)
                refine ev_iload_n (pc := 60) dX11_plan_60 rfl (i := 3) rfl ?_
                refine ev_if_ge (pc := 61) (tgt := 74) dX11_plan_61 (by decide) (fun c10 => ?_) (fun c10 => ?_)
                · have hf := hf.1 c10
                  refine ev_aload_n (pc := 74) dX11_plan_74 rfl (i := 0) rfl ?_
                  refine ev_get (pc := 75) fl_X11_44_11_6 rfl (by decide) rfl rfl dX11_plan_75 ?_
                  refine ev_get (pc := 78) fl_X11_207_5_1 rfl (by decide) rfl rfl dX11_plan_78 ?_
                  refine ev_iload_n (pc := 81) dX11_plan_81 rfl (i := 3) rfl ?_
                  obtain ⟨h11, hf⟩ := hf
                  refine ev_iald (pc := 82) rfl rfl h11 rfl dX11_plan_82 ?_
                  exact ev_iret (pc := 83) rfl dX11_plan_83 hf
                · have hf := hf.2 c10
                  refine ev_aload_n (pc := 64) dX11_plan_64 rfl (i := 0) rfl ?_
                  refine ev_get (pc := 65) fl_X11_44_11_6 rfl (by decide) rfl rfl dX11_plan_65 ?_
                  refine ev_get (pc := 68) fl_X11_204_5_0 rfl (by decide) rfl rfl dX11_plan_68 ?_
                  refine ev_goto (pc := 71) (tgt := 83) dX11_plan_71 (by decide) ?_
                  exact ev_iret (pc := 83) rfl dX11_plan_83 hf
              · have hf := hf.2 c7
                refine ev_bipush (pc := 37) (v := (-9)) dX11_plan_37 kb_m9 ?_
                exact ev_iret (pc := 39) rfl dX11_plan_39 hf
            · have hf := hf.2 c6
              refine ev_iconst (pc := 30) (v := (-1)) dX11_plan_30 kc_m1 ?_
              exact ev_iret (pc := 31) rfl dX11_plan_31 hf
def f_X11_lean_L45 (a1 : Int32) (a2 : Int32) (post : Int32 → St → Prop) : Nat → Int32 → St → Prop
  | 0, _, _ => False
  | n + 1, v3, σ => (60 < v3 → (post (-9) σ)) ∧ (¬ 60 < v3 → (f_X0_brings 71 6 a1 σ (fun x8 σ7 => (a2 ≤ x8 → (f_X0_lives 71 6 71 6 a1 σ7 (fun σ10 => (f_X11_lean_L45 a1 a2 post n) (v3 + 1) σ10))) ∧ (¬ a2 ≤ x8 → (post v3 σ7)))))
set_option maxRecDepth 100000 in
set_option maxHeartbeats 4000000 in
theorem p_X11_lean_L45 (a1 : Int32) (a2 : Int32) (post : Int32 → St → Prop) : ∀ (n : Nat) (v3 : Int32) (σ : St), f_X11_lean_L45 a1 a2 post n v3 σ → Ev SX RX11 cX11_lean 4 (some .int) 3 (EQi SX post) 45 [some (.ref 0), some (.int a1), some (.int a2), some (.int v3)] [] σ := by
  intro n
  induction n with
  | zero =>
    intro v3 σ hf
    exact hf.elim
  | succ n hagain45 =>
    intro v3 σ hf
    rw [f_X11_lean_L45] at hf
    refine ev_iload_n (pc := 45) dX11_lean_45 rfl (i := 3) rfl ?_
    refine ev_bipush (pc := 46) (v := 60) dX11_lean_46 kb_60 ?_
    refine ev_icmp_gt (pc := 48) (tgt := 91) dX11_lean_48 (by decide) (fun c6 => ?_) (fun c6 => ?_)
    · have hf := hf.1 c6
      refine ev_bipush (pc := 91) (v := (-9)) dX11_lean_91 kb_m9 ?_
      exact ev_iret (pc := 93) rfl dX11_lean_93 hf
    · have hf := hf.2 c6
      refine ev_aload_n (pc := 51) dX11_lean_51 rfl (i := 0) rfl ?_
      refine ev_get (pc := 52) fl_X11_23_11_2 rfl (by decide) rfl rfl dX11_lean_52 ?_
      refine ev_aload_n (pc := 55) dX11_lean_55 rfl (i := 0) rfl ?_
      refine ev_get (pc := 56) fl_X11_77_11_9 rfl (by decide) rfl rfl dX11_lean_56 ?_
      refine ev_iload_n (pc := 59) dX11_lean_59 rfl (i := 1) rfl ?_
      refine ev_calli (pc := 60) (stk := []) (ce_V (c_X0_brings 71 6 a1 rfl σ _ hf) wv_X11_196_X0_brings rfl (by decide) rfl (by decide) rfl (Nat.le_of_ble_eq_true rfl) rfl dX11_lean_60) (fun x8 σ7 hf => ?_)
      refine ev_iload_n (pc := 63) dX11_lean_63 rfl (i := 2) rfl ?_
      refine ev_icmp_ge (pc := 64) (tgt := 69) dX11_lean_64 (by decide) (fun c9 => ?_) (fun c9 => ?_)
      · have hf := hf.1 c9
        refine ev_aload_n (pc := 69) dX11_lean_69 rfl (i := 0) rfl ?_
        refine ev_get (pc := 70) fl_X11_23_11_2 rfl (by decide) rfl rfl dX11_lean_70 ?_
        refine ev_aload_n (pc := 73) dX11_lean_73 rfl (i := 0) rfl ?_
        refine ev_get (pc := 74) fl_X11_77_11_9 rfl (by decide) rfl rfl dX11_lean_74 ?_
        refine ev_aload_n (pc := 77) dX11_lean_77 rfl (i := 0) rfl ?_
        refine ev_get (pc := 78) fl_X11_77_11_9 rfl (by decide) rfl rfl dX11_lean_78 ?_
        refine ev_iload_n (pc := 81) dX11_lean_81 rfl (i := 1) rfl ?_
        refine ev_callv (pc := 82) (stk := []) (ce_V (c_X0_lives 71 6 71 6 a1 rfl rfl σ7 _ hf) wv_X11_165_X0_lives rfl (by decide) rfl (by decide) rfl (Nat.le_of_ble_eq_true rfl) rfl dX11_lean_82) (fun σ10 hf => ?_)
        refine ev_iinc (pc := 85) (v := v3 + 1) (L' := [some (.ref 0), some (.int a1), some (.int a2), some (.int (v3 + 1))]) dX11_lean_85 rfl (by rw [kc_1]) (by decide) rfl rfl ?_
        refine ev_goto (pc := 88) (tgt := 45) dX11_lean_88 (by decide) ?_
        exact hagain45 _ _ hf
      · have hf := hf.2 c9
        refine ev_iload_n (pc := 67) dX11_lean_67 rfl (i := 3) rfl ?_
        exact ev_iret (pc := 68) rfl dX11_lean_68 hf
def f_X11_lean (a1 : Int32) (a2 : Int32) (σ : St) (post : Int32 → St → Prop) : Prop := f_X0_isShift a1 σ (fun x2 σ1 => (x2 = 0 → (post (-1) σ1)) ∧ (¬ x2 = 0 → ((a2 < 1 → (post (-1) σ1)) ∧ (¬ a2 < 1 → ((a2 ≤ 999 → (∃ n12 : Nat, f_X11_lean_L45 a1 a2 post n12 1 (st_row σ1 71 (va_cpy (σ1.1 40) (σ1.1 71) 0 0 6)))) ∧ (¬ a2 ≤ 999 → (post (-1) σ1)))))))
set_option maxRecDepth 100000 in
set_option maxHeartbeats 4000000 in
theorem c_X11_lean (a1 : Int32) (a2 : Int32) (σ : St) (post : Int32 → St → Prop) (hf : f_X11_lean a1 a2 σ post) : Ct SX yX11_lean cX11_lean 4 (some .int) 3 (EQi SX post) [.ref 0, .int a1, .int a2] σ := by
  rw [f_X11_lean] at hf
  refine ct_of (by decide) rfl (Nat.le_of_ble_eq_true rfl) ?_
  show Ev SX RX11 cX11_lean 4 (some .int) 3 (EQi SX post) 0 [some (.ref 0), some (.int a1), some (.int a2), none] [] σ
  refine ev_aload_n (pc := 0) dX11_lean_0 rfl (i := 0) rfl ?_
  refine ev_get (pc := 1) fl_X11_23_11_2 rfl (by decide) rfl rfl dX11_lean_1 ?_
  refine ev_iload_n (pc := 4) dX11_lean_4 rfl (i := 1) rfl ?_
  refine ev_calli (pc := 5) (stk := []) (ce_V (c_X0_isShift a1 σ _ hf) wv_X11_149_X0_isShift rfl (by decide) rfl (by decide) rfl (Nat.le_of_ble_eq_true rfl) rfl dX11_lean_5) (fun x2 σ1 hf => ?_)
  refine ev_if_eq (pc := 8) (tgt := 23) dX11_lean_8 (by decide) (fun c3 => ?_) (fun c3 => ?_)
  · have hf := hf.1 c3
    refine ev_iconst (pc := 23) (v := (-1)) dX11_lean_23 kc_m1 ?_
    exact ev_iret (pc := 24) rfl dX11_lean_24 hf
  · have hf := hf.2 c3
    refine ev_iload_n (pc := 11) dX11_lean_11 rfl (i := 2) rfl ?_
    refine ev_iconst (pc := 12) (v := 1) dX11_lean_12 kc_1 ?_
    refine ev_icmp_lt (pc := 13) (tgt := 23) dX11_lean_13 (by decide) (fun c4 => ?_) (fun c4 => ?_)
    · have hf := hf.1 c4
      refine ev_iconst (pc := 23) (v := (-1)) dX11_lean_23 kc_m1 ?_
      exact ev_iret (pc := 24) rfl dX11_lean_24 hf
    · have hf := hf.2 c4
      refine ev_iload_n (pc := 16) dX11_lean_16 rfl (i := 2) rfl ?_
      refine ev_sipush (pc := 17) (v := 999) dX11_lean_17 ks_999 ?_
      refine ev_icmp_le (pc := 20) (tgt := 25) dX11_lean_20 (by decide) (fun c5 => ?_) (fun c5 => ?_)
      · have hf := hf.1 c5
        refine ev_aload_n (pc := 25) dX11_lean_25 rfl (i := 0) rfl ?_
        refine ev_get (pc := 26) fl_X11_29_11_3 rfl (by decide) rfl rfl dX11_lean_26 ?_
        refine ev_get (pc := 29) fl_X11_131_4_0 rfl (by decide) rfl rfl dX11_lean_29 ?_
        refine ev_iconst (pc := 32) (v := 0) dX11_lean_32 kc_0 ?_
        refine ev_aload_n (pc := 33) dX11_lean_33 rfl (i := 0) rfl ?_
        refine ev_get (pc := 34) fl_X11_77_11_9 rfl (by decide) rfl rfl dX11_lean_34 ?_
        refine ev_iconst (pc := 37) (v := 0) dX11_lean_37 kc_0 ?_
        refine ev_bipush (pc := 38) (v := 6) dX11_lean_38 kb_6 ?_
        refine ev_copy (pc := 40) wcp_X11_210 rfl rfl rfl (by decide) kn_0 kn_0 kn_6 (by omega) (Nat.le_of_ble_eq_true rfl) dX11_lean_40 ?_
        refine ev_iconst (pc := 43) (v := 1) dX11_lean_43 kc_1 ?_
        refine ev_istore_n (pc := 44) (L' := [some (.ref 0), some (.int a1), some (.int a2), some (.int 1)]) dX11_lean_44 rfl (by decide) rfl rfl ?_
        obtain ⟨n12, hf⟩ := hf
        exact p_X11_lean_L45 a1 a2 post n12 _ _ hf
      · have hf := hf.2 c5
        refine ev_iconst (pc := 23) (v := (-1)) dX11_lean_23 kc_m1 ?_
        exact ev_iret (pc := 24) rfl dX11_lean_24 hf
def f_X11_still_L55 (a1 : Int32) (a2 : Int32) (a3 : Int32) (post : Int32 → St → Prop) : Nat → Int32 → St → Prop
  | 0, _, _ => False
  | n + 1, v4, σ => (a2 ≤ v4 → (vp_in a3 6 ∧ (post (σ.1 71 a3.toNatClampNeg) σ))) ∧ (¬ a2 ≤ v4 → (f_X0_lives 71 6 71 6 a1 σ (fun σ11 => (f_X11_still_L55 a1 a2 a3 post n) (v4 + 1) σ11)))
set_option maxRecDepth 100000 in
set_option maxHeartbeats 4000000 in
theorem p_X11_still_L55 (a1 : Int32) (a2 : Int32) (a3 : Int32) (post : Int32 → St → Prop) : ∀ (n : Nat) (v4 : Int32) (σ : St), f_X11_still_L55 a1 a2 a3 post n v4 σ → Ev SX RX11 cX11_still 5 (some .int) 2 (EQi SX post) 55 [some (.ref 0), some (.int a1), some (.int a2), some (.int a3), some (.int v4)] [] σ := by
  intro n
  induction n with
  | zero =>
    intro v4 σ hf
    exact hf.elim
  | succ n hagain55 =>
    intro v4 σ hf
    rw [f_X11_still_L55] at hf
    refine ev_iload (pc := 55) dX11_still_55 rfl ?_
    refine ev_iload_n (pc := 57) dX11_still_57 rfl (i := 2) rfl ?_
    refine ev_icmp_ge (pc := 58) (tgt := 83) dX11_still_58 (by decide) (fun c9 => ?_) (fun c9 => ?_)
    · have hf := hf.1 c9
      refine ev_aload_n (pc := 83) dX11_still_83 rfl (i := 0) rfl ?_
      refine ev_get (pc := 84) fl_X11_77_11_9 rfl (by decide) rfl rfl dX11_still_84 ?_
      refine ev_iload_n (pc := 87) dX11_still_87 rfl (i := 3) rfl ?_
      obtain ⟨h10, hf⟩ := hf
      refine ev_iald (pc := 88) rfl rfl h10 rfl dX11_still_88 ?_
      exact ev_iret (pc := 89) rfl dX11_still_89 hf
    · have hf := hf.2 c9
      refine ev_aload_n (pc := 61) dX11_still_61 rfl (i := 0) rfl ?_
      refine ev_get (pc := 62) fl_X11_23_11_2 rfl (by decide) rfl rfl dX11_still_62 ?_
      refine ev_aload_n (pc := 65) dX11_still_65 rfl (i := 0) rfl ?_
      refine ev_get (pc := 66) fl_X11_77_11_9 rfl (by decide) rfl rfl dX11_still_66 ?_
      refine ev_aload_n (pc := 69) dX11_still_69 rfl (i := 0) rfl ?_
      refine ev_get (pc := 70) fl_X11_77_11_9 rfl (by decide) rfl rfl dX11_still_70 ?_
      refine ev_iload_n (pc := 73) dX11_still_73 rfl (i := 1) rfl ?_
      refine ev_callv (pc := 74) (stk := []) (ce_V (c_X0_lives 71 6 71 6 a1 rfl rfl σ _ hf) wv_X11_165_X0_lives rfl (by decide) rfl (by decide) rfl (Nat.le_of_ble_eq_true rfl) rfl dX11_still_74) (fun σ11 hf => ?_)
      refine ev_iinc (pc := 77) (v := v4 + 1) (L' := [some (.ref 0), some (.int a1), some (.int a2), some (.int a3), some (.int (v4 + 1))]) dX11_still_77 rfl (by rw [kc_1]) (by decide) rfl rfl ?_
      refine ev_goto (pc := 80) (tgt := 55) dX11_still_80 (by decide) ?_
      exact hagain55 _ _ hf
def f_X11_still (a1 : Int32) (a2 : Int32) (a3 : Int32) (σ : St) (post : Int32 → St → Prop) : Prop := f_X0_isShift a1 σ (fun x2 σ1 => (x2 = 0 → (post (-1) σ1)) ∧ (¬ x2 = 0 → ((a2 < 0 → (post (-1) σ1)) ∧ (¬ a2 < 0 → ((60 < a2 → (post (-1) σ1)) ∧ (¬ 60 < a2 → (f_X0_isMan a3 σ1 (fun x7 σ6 => (¬ x7 = 0 → (∃ n13 : Nat, f_X11_still_L55 a1 a2 a3 post n13 0 (st_row σ6 71 (va_cpy (σ6.1 40) (σ6.1 71) 0 0 6)))) ∧ (x7 = 0 → (post (-1) σ6))))))))))
set_option maxRecDepth 100000 in
set_option maxHeartbeats 4000000 in
theorem c_X11_still (a1 : Int32) (a2 : Int32) (a3 : Int32) (σ : St) (post : Int32 → St → Prop) (hf : f_X11_still a1 a2 a3 σ post) : Ct SX yX11_still cX11_still 5 (some .int) 2 (EQi SX post) [.ref 0, .int a1, .int a2, .int a3] σ := by
  rw [f_X11_still] at hf
  refine ct_of (by decide) rfl (Nat.le_of_ble_eq_true rfl) ?_
  show Ev SX RX11 cX11_still 5 (some .int) 2 (EQi SX post) 0 [some (.ref 0), some (.int a1), some (.int a2), some (.int a3), none] [] σ
  refine ev_aload_n (pc := 0) dX11_still_0 rfl (i := 0) rfl ?_
  refine ev_get (pc := 1) fl_X11_23_11_2 rfl (by decide) rfl rfl dX11_still_1 ?_
  refine ev_iload_n (pc := 4) dX11_still_4 rfl (i := 1) rfl ?_
  refine ev_calli (pc := 5) (stk := []) (ce_V (c_X0_isShift a1 σ _ hf) wv_X11_149_X0_isShift rfl (by decide) rfl (by decide) rfl (Nat.le_of_ble_eq_true rfl) rfl dX11_still_5) (fun x2 σ1 hf => ?_)
  refine ev_if_eq (pc := 8) (tgt := 32) dX11_still_8 (by decide) (fun c3 => ?_) (fun c3 => ?_)
  · have hf := hf.1 c3
    refine ev_iconst (pc := 32) (v := (-1)) dX11_still_32 kc_m1 ?_
    exact ev_iret (pc := 33) rfl dX11_still_33 hf
  · have hf := hf.2 c3
    refine ev_iload_n (pc := 11) dX11_still_11 rfl (i := 2) rfl ?_
    refine ev_if_lt (pc := 12) (tgt := 32) dX11_still_12 (by decide) (fun c4 => ?_) (fun c4 => ?_)
    · have hf := hf.1 c4
      refine ev_iconst (pc := 32) (v := (-1)) dX11_still_32 kc_m1 ?_
      exact ev_iret (pc := 33) rfl dX11_still_33 hf
    · have hf := hf.2 c4
      refine ev_iload_n (pc := 15) dX11_still_15 rfl (i := 2) rfl ?_
      refine ev_bipush (pc := 16) (v := 60) dX11_still_16 kb_60 ?_
      refine ev_icmp_gt (pc := 18) (tgt := 32) dX11_still_18 (by decide) (fun c5 => ?_) (fun c5 => ?_)
      · have hf := hf.1 c5
        refine ev_iconst (pc := 32) (v := (-1)) dX11_still_32 kc_m1 ?_
        exact ev_iret (pc := 33) rfl dX11_still_33 hf
      · have hf := hf.2 c5
        refine ev_aload_n (pc := 21) dX11_still_21 rfl (i := 0) rfl ?_
        refine ev_get (pc := 22) fl_X11_23_11_2 rfl (by decide) rfl rfl dX11_still_22 ?_
        refine ev_iload_n (pc := 25) dX11_still_25 rfl (i := 3) rfl ?_
        refine ev_calli (pc := 26) (stk := []) (ce_V (c_X0_isMan a3 σ1 _ hf) wv_X11_127_X0_isMan rfl (by decide) rfl (by decide) rfl (Nat.le_of_ble_eq_true rfl) rfl dX11_still_26) (fun x7 σ6 hf => ?_)
        refine ev_if_ne (pc := 29) (tgt := 34) dX11_still_29 (by decide) (fun c8 => ?_) (fun c8 => ?_)
        · have hf := hf.1 c8
          refine ev_aload_n (pc := 34) dX11_still_34 rfl (i := 0) rfl ?_
          refine ev_get (pc := 35) fl_X11_29_11_3 rfl (by decide) rfl rfl dX11_still_35 ?_
          refine ev_get (pc := 38) fl_X11_131_4_0 rfl (by decide) rfl rfl dX11_still_38 ?_
          refine ev_iconst (pc := 41) (v := 0) dX11_still_41 kc_0 ?_
          refine ev_aload_n (pc := 42) dX11_still_42 rfl (i := 0) rfl ?_
          refine ev_get (pc := 43) fl_X11_77_11_9 rfl (by decide) rfl rfl dX11_still_43 ?_
          refine ev_iconst (pc := 46) (v := 0) dX11_still_46 kc_0 ?_
          refine ev_bipush (pc := 47) (v := 6) dX11_still_47 kb_6 ?_
          refine ev_copy (pc := 49) wcp_X11_210 rfl rfl rfl (by decide) kn_0 kn_0 kn_6 (by omega) (Nat.le_of_ble_eq_true rfl) dX11_still_49 ?_
          refine ev_iconst (pc := 52) (v := 0) dX11_still_52 kc_0 ?_
          refine ev_istore (pc := 53) (L' := [some (.ref 0), some (.int a1), some (.int a2), some (.int a3), some (.int 0)]) dX11_still_53 (by decide) rfl rfl ?_
          obtain ⟨n13, hf⟩ := hf
          exact p_X11_still_L55 a1 a2 a3 post n13 _ _ hf
        · have hf := hf.2 c8
          refine ev_iconst (pc := 32) (v := (-1)) dX11_still_32 kc_m1 ?_
          exact ev_iret (pc := 33) rfl dX11_still_33 hf
def f_X0_pullOf (a1 : Int32) (a2 : Int32) (σ : St) (post : Int32 → St → Prop) : Prop := vp_in a1 6 ∧ (vp_in a2 64 ∧ (post (σ.1 (32 + a1.toNatClampNeg) a2.toNatClampNeg) σ))
set_option maxRecDepth 100000 in
set_option maxHeartbeats 4000000 in
theorem c_X0_pullOf (a1 : Int32) (a2 : Int32) (σ : St) (post : Int32 → St → Prop) (hf : f_X0_pullOf a1 a2 σ post) : Ct SX yX0_pullOf cX0_pullOf 3 (some .int) 0 (EQi SX post) [.ref 21, .int a1, .int a2] σ := by
  rw [f_X0_pullOf] at hf
  refine ct_of (by decide) rfl (Nat.le_of_ble_eq_true rfl) ?_
  show Ev SX RX0 cX0_pullOf 3 (some .int) 0 (EQi SX post) 0 [some (.ref 21), some (.int a1), some (.int a2)] [] σ
  refine ev_aload_n (pc := 0) dX0_pullOf_0 rfl (i := 0) rfl ?_
  refine ev_get (pc := 1) fl_X0_30_0_6 rfl (by decide) rfl rfl dX0_pullOf_1 ?_
  refine ev_iload_n (pc := 4) dX0_pullOf_4 rfl (i := 1) rfl ?_
  obtain ⟨h1, hf⟩ := hf
  refine ev_aald (pc := 5) (t := 4) rfl rfl rfl rfl h1 rfl dX0_pullOf_5 ?_
  refine ev_iload_n (pc := 6) dX0_pullOf_6 rfl (i := 2) rfl ?_
  obtain ⟨h2, hf⟩ := hf
  refine ev_iald (pc := 7) (kr_X_31 h1) rfl h2 rfl dX0_pullOf_7 ?_
  exact ev_iret (pc := 8) rfl dX0_pullOf_8 hf
def f_X11_temper_L18 (a1 : Int32) (post : Int32 → St → Prop) : Nat → Int32 → Int32 → St → Prop
  | 0, _, _, _ => False
  | n + 1, v2, v3, σ => ((σ.1 21 0) ≤ v3 → (post v2 σ)) ∧ (¬ (σ.1 21 0) ≤ v3 → ((¬ ((a1 >>> (v3 &&& 31)) &&& 1) = 1 → ((f_X11_temper_L18 a1 post n) (v2 + 0) (v3 + 1) σ)) ∧ (((a1 >>> (v3 &&& 31)) &&& 1) = 1 → (f_X0_pullOf v3 (a1 &&& ((1 <<< (v3 &&& 31)) - 1)) σ (fun x7 σ6 => (f_X11_temper_L18 a1 post n) (v2 + x7) (v3 + 1) σ6)))))
set_option maxRecDepth 100000 in
set_option maxHeartbeats 4000000 in
theorem p_X11_temper_L18 (a1 : Int32) (post : Int32 → St → Prop) : ∀ (n : Nat) (v2 : Int32) (v3 : Int32) (σ : St), f_X11_temper_L18 a1 post n v2 v3 σ → Ev SX RX11 cX11_temper 4 (some .int) 2 (EQi SX post) 18 [some (.ref 0), some (.int a1), some (.int v2), some (.int v3)] [] σ := by
  intro n
  induction n with
  | zero =>
    intro v2 v3 σ hf
    exact hf.elim
  | succ n hagain18 =>
    intro v2 v3 σ hf
    rw [f_X11_temper_L18] at hf
    refine ev_iload_n (pc := 18) dX11_temper_18 rfl (i := 3) rfl ?_
    refine ev_aload_n (pc := 19) dX11_temper_19 rfl (i := 0) rfl ?_
    refine ev_get (pc := 20) fl_X11_23_11_2 rfl (by decide) rfl rfl dX11_temper_20 ?_
    refine ev_get (pc := 23) fl_X11_158_0_0 rfl (by decide) rfl rfl dX11_temper_23 ?_
    refine ev_icmp_ge (pc := 26) (tgt := 66) dX11_temper_26 (by decide) (fun c4 => ?_) (fun c4 => ?_)
    · have hf := hf.1 c4
      refine ev_iload_n (pc := 66) dX11_temper_66 rfl (i := 2) rfl ?_
      exact ev_iret (pc := 67) rfl dX11_temper_67 hf
    · have hf := hf.2 c4
      refine ev_iload_n (pc := 29) dX11_temper_29 rfl (i := 2) rfl ?_
      refine ev_iload_n (pc := 30) dX11_temper_30 rfl (i := 1) rfl ?_
      refine ev_iload_n (pc := 31) dX11_temper_31 rfl (i := 3) rfl ?_
      refine ev_ishr (pc := 32) dX11_temper_32 ?_
      refine ev_iconst (pc := 33) (v := 1) dX11_temper_33 kc_1 ?_
      refine ev_iand (pc := 34) dX11_temper_34 ?_
      refine ev_iconst (pc := 35) (v := 1) dX11_temper_35 kc_1 ?_
      refine ev_icmp_ne (pc := 36) (tgt := 57) dX11_temper_36 (by decide) (fun c5 => ?_) (fun c5 => ?_)
      · have hf := hf.1 c5
        refine ev_iconst (pc := 57) (v := 0) dX11_temper_57 kc_0 ?_
        refine ev_iadd (pc := 58) dX11_temper_58 ?_
        refine ev_istore_n (pc := 59) (L' := [some (.ref 0), some (.int a1), some (.int (v2 + 0)), some (.int v3)]) dX11_temper_59 rfl (by decide) rfl rfl ?_
        refine ev_iinc (pc := 60) (v := v3 + 1) (L' := [some (.ref 0), some (.int a1), some (.int (v2 + 0)), some (.int (v3 + 1))]) dX11_temper_60 rfl (by rw [kc_1]) (by decide) rfl rfl ?_
        refine ev_goto (pc := 63) (tgt := 18) dX11_temper_63 (by decide) ?_
        exact hagain18 _ _ _ hf
      · have hf := hf.2 c5
        refine ev_aload_n (pc := 39) dX11_temper_39 rfl (i := 0) rfl ?_
        refine ev_get (pc := 40) fl_X11_23_11_2 rfl (by decide) rfl rfl dX11_temper_40 ?_
        refine ev_iload_n (pc := 43) dX11_temper_43 rfl (i := 3) rfl ?_
        refine ev_iload_n (pc := 44) dX11_temper_44 rfl (i := 1) rfl ?_
        refine ev_iconst (pc := 45) (v := 1) dX11_temper_45 kc_1 ?_
        refine ev_iload_n (pc := 46) dX11_temper_46 rfl (i := 3) rfl ?_
        refine ev_ishl (pc := 47) dX11_temper_47 ?_
        refine ev_iconst (pc := 48) (v := 1) dX11_temper_48 kc_1 ?_
        refine ev_isub (pc := 49) dX11_temper_49 ?_
        refine ev_iand (pc := 50) dX11_temper_50 ?_
        refine ev_calli (pc := 51) (stk := [.int v2]) (ce_V (c_X0_pullOf v3 (a1 &&& ((1 <<< (v3 &&& 31)) - 1)) σ _ hf) wv_X11_216_X0_pullOf rfl (by decide) rfl (by decide) rfl (Nat.le_of_ble_eq_true rfl) rfl dX11_temper_51) (fun x7 σ6 hf => ?_)
        refine ev_goto (pc := 54) (tgt := 58) dX11_temper_54 (by decide) ?_
        refine ev_iadd (pc := 58) dX11_temper_58 ?_
        refine ev_istore_n (pc := 59) (L' := [some (.ref 0), some (.int a1), some (.int (v2 + x7)), some (.int v3)]) dX11_temper_59 rfl (by decide) rfl rfl ?_
        refine ev_iinc (pc := 60) (v := v3 + 1) (L' := [some (.ref 0), some (.int a1), some (.int (v2 + x7)), some (.int (v3 + 1))]) dX11_temper_60 rfl (by rw [kc_1]) (by decide) rfl rfl ?_
        refine ev_goto (pc := 63) (tgt := 18) dX11_temper_63 (by decide) ?_
        exact hagain18 _ _ _ hf
def f_X11_temper (a1 : Int32) (σ : St) (post : Int32 → St → Prop) : Prop := f_X0_isShift a1 σ (fun x2 σ1 => (¬ x2 = 0 → (∃ n8 : Nat, f_X11_temper_L18 a1 post n8 0 0 σ1)) ∧ (x2 = 0 → (post (-1000000) σ1)))
set_option maxRecDepth 100000 in
set_option maxHeartbeats 4000000 in
theorem c_X11_temper (a1 : Int32) (σ : St) (post : Int32 → St → Prop) (hf : f_X11_temper a1 σ post) : Ct SX yX11_temper cX11_temper 4 (some .int) 2 (EQi SX post) [.ref 0, .int a1] σ := by
  rw [f_X11_temper] at hf
  refine ct_of (by decide) rfl (Nat.le_of_ble_eq_true rfl) ?_
  show Ev SX RX11 cX11_temper 4 (some .int) 2 (EQi SX post) 0 [some (.ref 0), some (.int a1), none, none] [] σ
  refine ev_aload_n (pc := 0) dX11_temper_0 rfl (i := 0) rfl ?_
  refine ev_get (pc := 1) fl_X11_23_11_2 rfl (by decide) rfl rfl dX11_temper_1 ?_
  refine ev_iload_n (pc := 4) dX11_temper_4 rfl (i := 1) rfl ?_
  refine ev_calli (pc := 5) (stk := []) (ce_V (c_X0_isShift a1 σ _ hf) wv_X11_149_X0_isShift rfl (by decide) rfl (by decide) rfl (Nat.le_of_ble_eq_true rfl) rfl dX11_temper_5) (fun x2 σ1 hf => ?_)
  refine ev_if_ne (pc := 8) (tgt := 14) dX11_temper_8 (by decide) (fun c3 => ?_) (fun c3 => ?_)
  · have hf := hf.1 c3
    refine ev_iconst (pc := 14) (v := 0) dX11_temper_14 kc_0 ?_
    refine ev_istore_n (pc := 15) (L' := [some (.ref 0), some (.int a1), some (.int 0), none]) dX11_temper_15 rfl (by decide) rfl rfl ?_
    refine ev_iconst (pc := 16) (v := 0) dX11_temper_16 kc_0 ?_
    refine ev_istore_n (pc := 17) (L' := [some (.ref 0), some (.int a1), some (.int 0), some (.int 0)]) dX11_temper_17 rfl (by decide) rfl rfl ?_
    obtain ⟨n8, hf⟩ := hf
    exact p_X11_temper_L18 a1 post n8 _ _ _ hf
  · have hf := hf.2 c3
    refine ev_ldc (pc := 11) wk_X11_148 dX11_temper_11 ?_
    exact ev_iret (pc := 13) rfl dX11_temper_13 hf
def f_X3_takes (a1 : Int32) (σ : St) (post : St → Prop) : Prop := (a1 ≤ (σ.1 61 0) → (post σ)) ∧ (¬ a1 ≤ (σ.1 61 0) → (∀ σ2 : St, σ2 = (st_up σ 61 0 a1) → (post (st_row σ2 62 (va_cpy (σ2.1 63) (σ2.1 62) 0 0 6)))))
set_option maxRecDepth 100000 in
set_option maxHeartbeats 4000000 in
theorem c_X3_takes (a1 : Int32) (σ : St) (post : St → Prop) (hf : f_X3_takes a1 σ post) : Ct SX yX3_takes cX3_takes 2 none 1 (EQv SX post) [.ref 61, .int a1] σ := by
  rw [f_X3_takes] at hf
  refine ct_of (by decide) rfl (Nat.le_of_ble_eq_true rfl) ?_
  show Ev SX RX3 cX3_takes 2 none 1 (EQv SX post) 0 [some (.ref 61), some (.int a1)] [] σ
  refine ev_iload_n (pc := 0) dX3_takes_0 rfl (i := 1) rfl ?_
  refine ev_aload_n (pc := 1) dX3_takes_1 rfl (i := 0) rfl ?_
  refine ev_get (pc := 2) fl_X3_18_3_0 rfl (by decide) rfl rfl dX3_takes_2 ?_
  refine ev_icmp_le (pc := 5) (tgt := 28) dX3_takes_5 (by decide) (fun c1 => ?_) (fun c1 => ?_)
  · have hf := hf.1 c1
    exact ev_vret (pc := 28) rfl dX3_takes_28 hf
  · have hf := hf.2 c1
    refine ev_aload_n (pc := 8) dX3_takes_8 rfl (i := 0) rfl ?_
    refine ev_iload_n (pc := 9) dX3_takes_9 rfl (i := 1) rfl ?_
    refine ev_puti (pc := 10) fp_X3_18_3_0 rfl (by decide) rfl rfl rfl dX3_takes_10 ?_
    refine ev_aload_n (pc := 13) dX3_takes_13 rfl (i := 0) rfl ?_
    refine ev_get (pc := 14) fl_X3_15_3_2 rfl (by decide) rfl rfl dX3_takes_14 ?_
    refine ev_iconst (pc := 17) (v := 0) dX3_takes_17 kc_0 ?_
    refine ev_aload_n (pc := 18) dX3_takes_18 rfl (i := 0) rfl ?_
    refine ev_get (pc := 19) fl_X3_9_3_1 rfl (by decide) rfl rfl dX3_takes_19 ?_
    refine ev_iconst (pc := 22) (v := 0) dX3_takes_22 kc_0 ?_
    refine ev_bipush (pc := 23) (v := 6) dX3_takes_23 kb_6 ?_
    refine ev_nm (fun σ2 q2 => ?_)
    have hf := hf σ2 q2
    refine ev_copy (pc := 25) wcp_X3_45 rfl rfl rfl (by decide) kn_0 kn_0 kn_6 (by omega) (Nat.le_of_ble_eq_true rfl) dX3_takes_25 ?_
    exact ev_vret (pc := 28) rfl dX3_takes_28 hf
def f_X3_looks_L46 (rec : Int32 → Int32 → St → (St → Prop) → Prop) (a2 : Int32) (a3 : Int32) (post : St → Prop) : Nat → Int32 → St → Prop
  | 0, _, _ => False
  | n + 1, v4, σ => ((σ.1 21 0) ≤ v4 → (post σ)) ∧ (¬ (σ.1 21 0) ≤ v4 → (vp_in v4 6 ∧ ((¬ (σ.1 63 v4.toNatClampNeg) = (-9) → ((f_X3_looks_L46 rec a2 a3 post n) (v4 + 1) σ)) ∧ ((σ.1 63 v4.toNatClampNeg) = (-9) → (vp_in a2 6 ∧ (∀ σ13 : St, σ13 = (st_up σ 63 a2.toNatClampNeg v4) → (vp_in v4 6 ∧ (vp_in a2 6 ∧ (vp_in v4 6 ∧ (rec (a2 + 1) (a3 + ((st_up σ13 63 v4.toNatClampNeg a2).1 (25 + a2.toNatClampNeg) v4.toNatClampNeg)) (st_up σ13 63 v4.toNatClampNeg a2) (fun σ17 => vp_in a2 6 ∧ (∀ σ20 : St, σ20 = (st_up σ17 63 a2.toNatClampNeg (-9)) → (vp_in v4 6 ∧ ((f_X3_looks_L46 rec a2 a3 post n) (v4 + 1) (st_up σ20 63 v4.toNatClampNeg (-9))))))))))))))))
set_option maxRecDepth 100000 in
set_option maxHeartbeats 4000000 in
theorem p_X3_looks_L46 {nd : Nat} (rec : Int32 → Int32 → St → (St → Prop) → Prop) (hrec : ∀ (a2q : Int32) (a3q : Int32) (τ : St) (post2 : St → Prop), rec a2q a3q τ post2 → Ct SX yX3_looks cX3_looks 5 none (2 + nd) (EQv SX post2) [.ref 61, .ref 21, .int a2q, .int a3q] τ) (a2 : Int32) (a3 : Int32) (post : St → Prop) : ∀ (n : Nat) (v4 : Int32) (σ : St), f_X3_looks_L46 rec a2 a3 post n v4 σ → Ev SX RX3 cX3_looks 5 none (2 + (nd + 1)) (EQv SX post) 46 [some (.ref 61), some (.ref 21), some (.int a2), some (.int a3), some (.int v4)] [] σ := by
  intro n
  induction n with
  | zero =>
    intro v4 σ hf
    exact hf.elim
  | succ n hagain46 =>
    intro v4 σ hf
    rw [f_X3_looks_L46] at hf
    refine ev_iload (pc := 46) dX3_looks_46 rfl ?_
    refine ev_aload_n (pc := 48) dX3_looks_48 rfl (i := 1) rfl ?_
    refine ev_get (pc := 49) fl_X3_32_0_0 rfl (by decide) rfl rfl dX3_looks_49 ?_
    refine ev_icmp_ge (pc := 52) (tgt := 125) dX3_looks_52 (by decide) (fun c9 => ?_) (fun c9 => ?_)
    · have hf := hf.1 c9
      exact ev_vret (pc := 125) rfl dX3_looks_125 hf
    · have hf := hf.2 c9
      refine ev_aload_n (pc := 55) dX3_looks_55 rfl (i := 0) rfl ?_
      refine ev_get (pc := 56) fl_X3_15_3_2 rfl (by decide) rfl rfl dX3_looks_56 ?_
      refine ev_iload (pc := 59) dX3_looks_59 rfl ?_
      obtain ⟨h10, hf⟩ := hf
      refine ev_iald (pc := 61) rfl rfl h10 rfl dX3_looks_61 ?_
      refine ev_bipush (pc := 62) (v := (-9)) dX3_looks_62 kb_m9 ?_
      refine ev_icmp_ne (pc := 64) (tgt := 119) dX3_looks_64 (by decide) (fun c11 => ?_) (fun c11 => ?_)
      · have hf := hf.1 c11
        refine ev_iinc (pc := 119) (v := v4 + 1) (L' := [some (.ref 61), some (.ref 21), some (.int a2), some (.int a3), some (.int (v4 + 1))]) dX3_looks_119 rfl (by rw [kc_1]) (by decide) rfl rfl ?_
        refine ev_goto (pc := 122) (tgt := 46) dX3_looks_122 (by decide) ?_
        exact hagain46 _ _ hf
      · have hf := hf.2 c11
        refine ev_aload_n (pc := 67) dX3_looks_67 rfl (i := 0) rfl ?_
        refine ev_get (pc := 68) fl_X3_15_3_2 rfl (by decide) rfl rfl dX3_looks_68 ?_
        refine ev_iload_n (pc := 71) dX3_looks_71 rfl (i := 2) rfl ?_
        refine ev_iload (pc := 72) dX3_looks_72 rfl ?_
        obtain ⟨h12, hf⟩ := hf
        refine ev_iast (pc := 74) rfl rfl h12 rfl dX3_looks_74 ?_
        refine ev_aload_n (pc := 75) dX3_looks_75 rfl (i := 0) rfl ?_
        refine ev_get (pc := 76) fl_X3_15_3_2 rfl (by decide) rfl rfl dX3_looks_76 ?_
        refine ev_iload (pc := 79) dX3_looks_79 rfl ?_
        refine ev_iload_n (pc := 81) dX3_looks_81 rfl (i := 2) rfl ?_
        refine ev_nm (fun σ13 q13 => ?_)
        have hf := hf σ13 q13
        obtain ⟨h14, hf⟩ := hf
        refine ev_iast (pc := 82) rfl rfl h14 rfl dX3_looks_82 ?_
        refine ev_aload_n (pc := 83) dX3_looks_83 rfl (i := 0) rfl ?_
        refine ev_aload_n (pc := 84) dX3_looks_84 rfl (i := 1) rfl ?_
        refine ev_iload_n (pc := 85) dX3_looks_85 rfl (i := 2) rfl ?_
        refine ev_iconst (pc := 86) (v := 1) dX3_looks_86 kc_1 ?_
        refine ev_iadd (pc := 87) dX3_looks_87 ?_
        refine ev_iload_n (pc := 88) dX3_looks_88 rfl (i := 3) rfl ?_
        refine ev_aload_n (pc := 89) dX3_looks_89 rfl (i := 1) rfl ?_
        refine ev_get (pc := 90) fl_X3_41_0_5 rfl (by decide) rfl rfl dX3_looks_90 ?_
        refine ev_iload_n (pc := 93) dX3_looks_93 rfl (i := 2) rfl ?_
        obtain ⟨h15, hf⟩ := hf
        refine ev_aald (pc := 94) (t := 4) rfl rfl rfl rfl h15 rfl dX3_looks_94 ?_
        refine ev_iload (pc := 95) dX3_looks_95 rfl ?_
        obtain ⟨h16, hf⟩ := hf
        refine ev_iald (pc := 97) (kr_X_24 h15) rfl h16 rfl dX3_looks_97 ?_
        refine ev_iadd (pc := 98) dX3_looks_98 ?_
        refine ev_callv (pc := 99) (stk := []) (ce_V (hrec (a2 + 1) (a3 + ((st_up σ13 63 v4.toNatClampNeg a2).1 (25 + a2.toNatClampNeg) v4.toNatClampNeg)) (st_up σ13 63 v4.toNatClampNeg a2) _ hf) wv_X3_28_X3_looks rfl (by decide) rfl (by omega) rfl (Nat.le_of_ble_eq_true rfl) rfl dX3_looks_99) (fun σ17 hf => ?_)
        refine ev_aload_n (pc := 102) dX3_looks_102 rfl (i := 0) rfl ?_
        refine ev_get (pc := 103) fl_X3_15_3_2 rfl (by decide) rfl rfl dX3_looks_103 ?_
        refine ev_iload_n (pc := 106) dX3_looks_106 rfl (i := 2) rfl ?_
        refine ev_bipush (pc := 107) (v := (-9)) dX3_looks_107 kb_m9 ?_
        obtain ⟨h19, hf⟩ := hf
        refine ev_iast (pc := 109) rfl rfl h19 rfl dX3_looks_109 ?_
        refine ev_aload_n (pc := 110) dX3_looks_110 rfl (i := 0) rfl ?_
        refine ev_get (pc := 111) fl_X3_15_3_2 rfl (by decide) rfl rfl dX3_looks_111 ?_
        refine ev_iload (pc := 114) dX3_looks_114 rfl ?_
        refine ev_bipush (pc := 116) (v := (-9)) dX3_looks_116 kb_m9 ?_
        refine ev_nm (fun σ20 q20 => ?_)
        have hf := hf σ20 q20
        obtain ⟨h21, hf⟩ := hf
        refine ev_iast (pc := 118) rfl rfl h21 rfl dX3_looks_118 ?_
        refine ev_iinc (pc := 119) (v := v4 + 1) (L' := [some (.ref 61), some (.ref 21), some (.int a2), some (.int a3), some (.int (v4 + 1))]) dX3_looks_119 rfl (by rw [kc_1]) (by decide) rfl rfl ?_
        refine ev_goto (pc := 122) (tgt := 46) dX3_looks_122 (by decide) ?_
        exact hagain46 _ _ hf
def f_X3_looks : Nat → Int32 → Int32 → St → (St → Prop) → Prop
  | 0, _, _, _, _ => False
  | nd + 1, a2, a3, σ, post => ((σ.1 21 0) ≤ a2 → (f_X3_takes a3 σ (fun σ2 => post σ2))) ∧ (¬ (σ.1 21 0) ≤ a2 → ((a2 < 6 → ((f_X3_looks nd) (a2 + 1) a3 σ (fun σ5 => vp_in a2 6 ∧ (((σ5.1 63 a2.toNatClampNeg) = (-9) → (∃ n22 : Nat, f_X3_looks_L46 (f_X3_looks nd) a2 a3 post n22 (a2 + 1) σ5)) ∧ (¬ (σ5.1 63 a2.toNatClampNeg) = (-9) → (post σ5)))))) ∧ (¬ a2 < 6 → (f_X3_takes a3 σ (fun σ23 => post σ23)))))
set_option maxRecDepth 100000 in
set_option maxHeartbeats 4000000 in
theorem c_X3_looks : ∀ (nd : Nat) (a2 : Int32) (a3 : Int32) (σ : St) (post : St → Prop), f_X3_looks nd a2 a3 σ post → Ct SX yX3_looks cX3_looks 5 none (2 + nd) (EQv SX post) [.ref 61, .ref 21, .int a2, .int a3] σ := by
  intro nd
  induction nd with
  | zero =>
    intro a2 a3 σ post hf
    exact hf.elim
  | succ nd hrec =>
    intro a2 a3 σ post hf
    rw [f_X3_looks] at hf
    refine ct_of (by decide) rfl (Nat.le_of_ble_eq_true rfl) ?_
    show Ev SX RX3 cX3_looks 5 none (2 + (nd + 1)) (EQv SX post) 0 [some (.ref 61), some (.ref 21), some (.int a2), some (.int a3), none] [] σ
    refine ev_iload_n (pc := 0) dX3_looks_0 rfl (i := 2) rfl ?_
    refine ev_aload_n (pc := 1) dX3_looks_1 rfl (i := 1) rfl ?_
    refine ev_get (pc := 2) fl_X3_32_0_0 rfl (by decide) rfl rfl dX3_looks_2 ?_
    refine ev_icmp_ge (pc := 5) (tgt := 14) dX3_looks_5 (by decide) (fun c1 => ?_) (fun c1 => ?_)
    · have hf := hf.1 c1
      refine ev_aload_n (pc := 14) dX3_looks_14 rfl (i := 0) rfl ?_
      refine ev_iload_n (pc := 15) dX3_looks_15 rfl (i := 3) rfl ?_
      refine ev_callv (pc := 16) (stk := []) (ce_V (c_X3_takes a3 σ _ hf) wv_X3_37_X3_takes rfl (by decide) rfl (by omega) rfl (Nat.le_of_ble_eq_true rfl) rfl dX3_looks_16) (fun σ2 hf => ?_)
      exact ev_vret (pc := 19) rfl dX3_looks_19 hf
    · have hf := hf.2 c1
      refine ev_iload_n (pc := 8) dX3_looks_8 rfl (i := 2) rfl ?_
      refine ev_bipush (pc := 9) (v := 6) dX3_looks_9 kb_6 ?_
      refine ev_icmp_lt (pc := 11) (tgt := 20) dX3_looks_11 (by decide) (fun c4 => ?_) (fun c4 => ?_)
      · have hf := hf.1 c4
        refine ev_aload_n (pc := 20) dX3_looks_20 rfl (i := 0) rfl ?_
        refine ev_aload_n (pc := 21) dX3_looks_21 rfl (i := 1) rfl ?_
        refine ev_iload_n (pc := 22) dX3_looks_22 rfl (i := 2) rfl ?_
        refine ev_iconst (pc := 23) (v := 1) dX3_looks_23 kc_1 ?_
        refine ev_iadd (pc := 24) dX3_looks_24 ?_
        refine ev_iload_n (pc := 25) dX3_looks_25 rfl (i := 3) rfl ?_
        refine ev_callv (pc := 26) (stk := []) (ce_V (hrec (a2 + 1) a3 σ _ hf) wv_X3_28_X3_looks rfl (by decide) rfl (by omega) rfl (Nat.le_of_ble_eq_true rfl) rfl dX3_looks_26) (fun σ5 hf => ?_)
        refine ev_aload_n (pc := 29) dX3_looks_29 rfl (i := 0) rfl ?_
        refine ev_get (pc := 30) fl_X3_15_3_2 rfl (by decide) rfl rfl dX3_looks_30 ?_
        refine ev_iload_n (pc := 33) dX3_looks_33 rfl (i := 2) rfl ?_
        obtain ⟨h7, hf⟩ := hf
        refine ev_iald (pc := 34) rfl rfl h7 rfl dX3_looks_34 ?_
        refine ev_bipush (pc := 35) (v := (-9)) dX3_looks_35 kb_m9 ?_
        refine ev_icmp_eq (pc := 37) (tgt := 41) dX3_looks_37 (by decide) (fun c8 => ?_) (fun c8 => ?_)
        · have hf := hf.1 c8
          refine ev_iload_n (pc := 41) dX3_looks_41 rfl (i := 2) rfl ?_
          refine ev_iconst (pc := 42) (v := 1) dX3_looks_42 kc_1 ?_
          refine ev_iadd (pc := 43) dX3_looks_43 ?_
          refine ev_istore (pc := 44) (L' := [some (.ref 61), some (.ref 21), some (.int a2), some (.int a3), some (.int (a2 + 1))]) dX3_looks_44 (by decide) rfl rfl ?_
          obtain ⟨n22, hf⟩ := hf
          exact p_X3_looks_L46 (f_X3_looks nd) hrec a2 a3 post n22 _ _ hf
        · have hf := hf.2 c8
          exact ev_vret (pc := 40) rfl dX3_looks_40 hf
      · have hf := hf.2 c4
        refine ev_aload_n (pc := 14) dX3_looks_14 rfl (i := 0) rfl ?_
        refine ev_iload_n (pc := 15) dX3_looks_15 rfl (i := 3) rfl ?_
        refine ev_callv (pc := 16) (stk := []) (ce_V (c_X3_takes a3 σ _ hf) wv_X3_37_X3_takes rfl (by decide) rfl (by omega) rfl (Nat.le_of_ble_eq_true rfl) rfl dX3_looks_16) (fun σ23 hf => ?_)
        exact ev_vret (pc := 19) rfl dX3_looks_19 hf
def f_X3_searches (σ : St) (post : St → Prop) : Prop := f_J7_fill_53178 63 6 (-9) (st_up σ 61 0 (-1)) (fun σ1 => f_X3_looks 7 0 0 σ1 (fun σ3 => post σ3))
set_option maxRecDepth 100000 in
set_option maxHeartbeats 4000000 in
theorem c_X3_searches (σ : St) (post : St → Prop) (hf : f_X3_searches σ post) : Ct SX yX3_searches cX3_searches 2 none 10 (EQv SX post) [.ref 61, .ref 21] σ := by
  rw [f_X3_searches] at hf
  refine ct_of (by decide) rfl (Nat.le_of_ble_eq_true rfl) ?_
  show Ev SX RX3 cX3_searches 2 none 10 (EQv SX post) 0 [some (.ref 61), some (.ref 21)] [] σ
  refine ev_aload_n (pc := 0) dX3_searches_0 rfl (i := 0) rfl ?_
  refine ev_iconst (pc := 1) (v := (-1)) dX3_searches_1 kc_m1 ?_
  refine ev_puti (pc := 2) fp_X3_18_3_0 rfl (by decide) rfl rfl rfl dX3_searches_2 ?_
  refine ev_aload_n (pc := 5) dX3_searches_5 rfl (i := 0) rfl ?_
  refine ev_get (pc := 6) fl_X3_15_3_2 rfl (by decide) rfl rfl dX3_searches_6 ?_
  refine ev_bipush (pc := 9) (v := (-9)) dX3_searches_9 kb_m9 ?_
  refine ev_callv (pc := 11) (stk := []) (ce_S (c_J7_fill_53178 63 6 (-9) rfl (st_up σ 61 0 (-1)) _ hf) wt_X3_22_J7_fill_53178  (by decide) rfl (Nat.le_of_ble_eq_true rfl) rfl dX3_searches_11) (fun σ1 hf => ?_)
  refine ev_aload_n (pc := 14) dX3_searches_14 rfl (i := 0) rfl ?_
  refine ev_aload_n (pc := 15) dX3_searches_15 rfl (i := 1) rfl ?_
  refine ev_iconst (pc := 16) (v := 0) dX3_searches_16 kc_0 ?_
  refine ev_iconst (pc := 17) (v := 0) dX3_searches_17 kc_0 ?_
  refine ev_callv (pc := 18) (stk := []) (ce_V (c_X3_looks 7 0 0 σ1 _ hf) wv_X3_28_X3_looks rfl (by decide) rfl (by omega) rfl (Nat.le_of_ble_eq_true rfl) rfl dX3_searches_18) (fun σ3 hf => ?_)
  exact ev_vret (pc := 21) rfl dX3_searches_21 hf
def f_X11_mates_J19 (a1 : Int32) (post : Int32 → St → Prop) (σ : St) : Prop := f_X3_searches σ (fun σ2 => (0 ≤ a1 → (vp_in a1 6 ∧ (post (σ2.1 62 a1.toNatClampNeg) σ2))) ∧ (¬ 0 ≤ a1 → (post (σ2.1 61 0) σ2)))
set_option maxRecDepth 100000 in
set_option maxHeartbeats 4000000 in
theorem p_X11_mates_J19 (a1 : Int32) (post : Int32 → St → Prop) (σ : St) (hf : f_X11_mates_J19 a1 post σ) : Ev SX RX11 cX11_mates 2 (some .int) 11 (EQi SX post) 19 [some (.ref 0), some (.int a1)] [] σ := by
  rw [f_X11_mates_J19] at hf
  refine ev_aload_n (pc := 19) dX11_mates_19 rfl (i := 0) rfl ?_
  refine ev_get (pc := 20) fl_X11_51_11_7 rfl (by decide) rfl rfl dX11_mates_20 ?_
  refine ev_aload_n (pc := 23) dX11_mates_23 rfl (i := 0) rfl ?_
  refine ev_get (pc := 24) fl_X11_23_11_2 rfl (by decide) rfl rfl dX11_mates_24 ?_
  refine ev_callv (pc := 27) (stk := []) (ce_V (c_X3_searches σ _ hf) wv_X11_219_X3_searches rfl (by decide) rfl (by decide) rfl (Nat.le_of_ble_eq_true rfl) rfl dX11_mates_27) (fun σ2 hf => ?_)
  refine ev_iload_n (pc := 30) dX11_mates_30 rfl (i := 1) rfl ?_
  refine ev_if_ge (pc := 31) (tgt := 44) dX11_mates_31 (by decide) (fun c4 => ?_) (fun c4 => ?_)
  · have hf := hf.1 c4
    refine ev_aload_n (pc := 44) dX11_mates_44 rfl (i := 0) rfl ?_
    refine ev_get (pc := 45) fl_X11_51_11_7 rfl (by decide) rfl rfl dX11_mates_45 ?_
    refine ev_get (pc := 48) fl_X11_222_3_1 rfl (by decide) rfl rfl dX11_mates_48 ?_
    refine ev_iload_n (pc := 51) dX11_mates_51 rfl (i := 1) rfl ?_
    obtain ⟨h5, hf⟩ := hf
    refine ev_iald (pc := 52) rfl rfl h5 rfl dX11_mates_52 ?_
    exact ev_iret (pc := 53) rfl dX11_mates_53 hf
  · have hf := hf.2 c4
    refine ev_aload_n (pc := 34) dX11_mates_34 rfl (i := 0) rfl ?_
    refine ev_get (pc := 35) fl_X11_51_11_7 rfl (by decide) rfl rfl dX11_mates_35 ?_
    refine ev_get (pc := 38) fl_X11_221_3_0 rfl (by decide) rfl rfl dX11_mates_38 ?_
    refine ev_goto (pc := 41) (tgt := 53) dX11_mates_41 (by decide) ?_
    exact ev_iret (pc := 53) rfl dX11_mates_53 hf
def f_X11_mates (a1 : Int32) (σ : St) (post : Int32 → St → Prop) : Prop := (a1 = (-1) → (f_X11_mates_J19 a1 post σ)) ∧ (¬ a1 = (-1) → (f_X0_isMan a1 σ (fun x7 σ6 => (¬ x7 = 0 → (f_X11_mates_J19 a1 post σ6)) ∧ (x7 = 0 → (post (-1000000) σ6)))))
set_option maxRecDepth 100000 in
set_option maxHeartbeats 4000000 in
theorem c_X11_mates (a1 : Int32) (σ : St) (post : Int32 → St → Prop) (hf : f_X11_mates a1 σ post) : Ct SX yX11_mates cX11_mates 2 (some .int) 11 (EQi SX post) [.ref 0, .int a1] σ := by
  rw [f_X11_mates] at hf
  refine ct_of (by decide) rfl (Nat.le_of_ble_eq_true rfl) ?_
  show Ev SX RX11 cX11_mates 2 (some .int) 11 (EQi SX post) 0 [some (.ref 0), some (.int a1)] [] σ
  refine ev_iload_n (pc := 0) dX11_mates_0 rfl (i := 1) rfl ?_
  refine ev_iconst (pc := 1) (v := (-1)) dX11_mates_1 kc_m1 ?_
  refine ev_icmp_eq (pc := 2) (tgt := 19) dX11_mates_2 (by decide) (fun c1 => ?_) (fun c1 => ?_)
  · have hf := hf.1 c1
    exact p_X11_mates_J19 a1 post _ hf
  · have hf := hf.2 c1
    refine ev_aload_n (pc := 5) dX11_mates_5 rfl (i := 0) rfl ?_
    refine ev_get (pc := 6) fl_X11_23_11_2 rfl (by decide) rfl rfl dX11_mates_6 ?_
    refine ev_iload_n (pc := 9) dX11_mates_9 rfl (i := 1) rfl ?_
    refine ev_calli (pc := 10) (stk := []) (ce_V (c_X0_isMan a1 σ _ hf) wv_X11_127_X0_isMan rfl (by decide) rfl (by decide) rfl (Nat.le_of_ble_eq_true rfl) rfl dX11_mates_10) (fun x7 σ6 hf => ?_)
    refine ev_if_ne (pc := 13) (tgt := 19) dX11_mates_13 (by decide) (fun c8 => ?_) (fun c8 => ?_)
    · have hf := hf.1 c8
      exact p_X11_mates_J19 a1 post _ hf
    · have hf := hf.2 c8
      refine ev_ldc (pc := 16) wk_X11_148 dX11_mates_16 ?_
      exact ev_iret (pc := 18) rfl dX11_mates_18 hf
def f_X11_lights (a1 : Int32) (a2 : Int32) (σ : St) (post : Int32 → St → Prop) : Prop := f_X0_isShift a1 σ (fun x2 σ1 => (x2 = 0 → (post (-1) σ1)) ∧ (¬ x2 = 0 → ((a1 = 0 → (post (-1) σ1)) ∧ (¬ a1 = 0 → ((a2 < 0 → (post (-1) σ1)) ∧ (¬ a2 < 0 → ((a2 ≤ 499 → (((σ1.1 0 16) < 6 → (vp_in (σ1.1 0 16) 6 ∧ (∀ σ9 : St, σ9 = (st_up σ1 72 ((σ1.1 0 16).toNatClampNeg) a1) → (vp_in ((st_up σ1 72 ((σ1.1 0 16).toNatClampNeg) a1).1 0 16) 6 ∧ (∀ σ11 : St, σ11 = (st_up σ9 73 (((st_up σ1 72 ((σ1.1 0 16).toNatClampNeg) a1).1 0 16).toNatClampNeg) a2) → (post ((st_up σ11 0 16 (((st_up σ9 73 (((st_up σ1 72 ((σ1.1 0 16).toNatClampNeg) a1).1 0 16).toNatClampNeg) a2).1 0 16) + 1)).1 0 16) (st_up σ11 0 16 (((st_up σ9 73 (((st_up σ1 72 ((σ1.1 0 16).toNatClampNeg) a1).1 0 16).toNatClampNeg) a2).1 0 16) + 1)))))))) ∧ (¬ (σ1.1 0 16) < 6 → (post (-3) σ1)))) ∧ (¬ a2 ≤ 499 → (post (-1) σ1)))))))))
set_option maxRecDepth 100000 in
set_option maxHeartbeats 4000000 in
theorem c_X11_lights (a1 : Int32) (a2 : Int32) (σ : St) (post : Int32 → St → Prop) (hf : f_X11_lights a1 a2 σ post) : Ct SX yX11_lights cX11_lights 3 (some .int) 2 (EQi SX post) [.ref 0, .int a1, .int a2] σ := by
  rw [f_X11_lights] at hf
  refine ct_of (by decide) rfl (Nat.le_of_ble_eq_true rfl) ?_
  show Ev SX RX11 cX11_lights 3 (some .int) 2 (EQi SX post) 0 [some (.ref 0), some (.int a1), some (.int a2)] [] σ
  refine ev_aload_n (pc := 0) dX11_lights_0 rfl (i := 0) rfl ?_
  refine ev_get (pc := 1) fl_X11_23_11_2 rfl (by decide) rfl rfl dX11_lights_1 ?_
  refine ev_iload_n (pc := 4) dX11_lights_4 rfl (i := 1) rfl ?_
  refine ev_calli (pc := 5) (stk := []) (ce_V (c_X0_isShift a1 σ _ hf) wv_X11_149_X0_isShift rfl (by decide) rfl (by decide) rfl (Nat.le_of_ble_eq_true rfl) rfl dX11_lights_5) (fun x2 σ1 hf => ?_)
  refine ev_if_eq (pc := 8) (tgt := 26) dX11_lights_8 (by decide) (fun c3 => ?_) (fun c3 => ?_)
  · have hf := hf.1 c3
    refine ev_iconst (pc := 26) (v := (-1)) dX11_lights_26 kc_m1 ?_
    exact ev_iret (pc := 27) rfl dX11_lights_27 hf
  · have hf := hf.2 c3
    refine ev_iload_n (pc := 11) dX11_lights_11 rfl (i := 1) rfl ?_
    refine ev_if_eq (pc := 12) (tgt := 26) dX11_lights_12 (by decide) (fun c4 => ?_) (fun c4 => ?_)
    · have hf := hf.1 c4
      refine ev_iconst (pc := 26) (v := (-1)) dX11_lights_26 kc_m1 ?_
      exact ev_iret (pc := 27) rfl dX11_lights_27 hf
    · have hf := hf.2 c4
      refine ev_iload_n (pc := 15) dX11_lights_15 rfl (i := 2) rfl ?_
      refine ev_if_lt (pc := 16) (tgt := 26) dX11_lights_16 (by decide) (fun c5 => ?_) (fun c5 => ?_)
      · have hf := hf.1 c5
        refine ev_iconst (pc := 26) (v := (-1)) dX11_lights_26 kc_m1 ?_
        exact ev_iret (pc := 27) rfl dX11_lights_27 hf
      · have hf := hf.2 c5
        refine ev_iload_n (pc := 19) dX11_lights_19 rfl (i := 2) rfl ?_
        refine ev_sipush (pc := 20) (v := 499) dX11_lights_20 ks_499 ?_
        refine ev_icmp_le (pc := 23) (tgt := 28) dX11_lights_23 (by decide) (fun c6 => ?_) (fun c6 => ?_)
        · have hf := hf.1 c6
          refine ev_aload_n (pc := 28) dX11_lights_28 rfl (i := 0) rfl ?_
          refine ev_get (pc := 29) fl_X11_121_11_16 rfl (by decide) rfl rfl dX11_lights_29 ?_
          refine ev_bipush (pc := 32) (v := 6) dX11_lights_32 kb_6 ?_
          refine ev_icmp_lt (pc := 34) (tgt := 40) dX11_lights_34 (by decide) (fun c7 => ?_) (fun c7 => ?_)
          · have hf := hf.1 c7
            refine ev_aload_n (pc := 40) dX11_lights_40 rfl (i := 0) rfl ?_
            refine ev_get (pc := 41) fl_X11_81_11_10 rfl (by decide) rfl rfl dX11_lights_41 ?_
            refine ev_aload_n (pc := 44) dX11_lights_44 rfl (i := 0) rfl ?_
            refine ev_get (pc := 45) fl_X11_121_11_16 rfl (by decide) rfl rfl dX11_lights_45 ?_
            refine ev_iload_n (pc := 48) dX11_lights_48 rfl (i := 1) rfl ?_
            obtain ⟨h8, hf⟩ := hf
            refine ev_iast (pc := 49) rfl rfl h8 rfl dX11_lights_49 ?_
            refine ev_aload_n (pc := 50) dX11_lights_50 rfl (i := 0) rfl ?_
            refine ev_get (pc := 51) fl_X11_84_11_11 rfl (by decide) rfl rfl dX11_lights_51 ?_
            refine ev_aload_n (pc := 54) dX11_lights_54 rfl (i := 0) rfl ?_
            refine ev_get (pc := 55) fl_X11_121_11_16 rfl (by decide) rfl rfl dX11_lights_55 ?_
            refine ev_iload_n (pc := 58) dX11_lights_58 rfl (i := 2) rfl ?_
            refine ev_nm (fun σ9 q9 => ?_)
            have hf := hf σ9 q9
            obtain ⟨h10, hf⟩ := hf
            refine ev_iast (pc := 59) rfl rfl h10 rfl dX11_lights_59 ?_
            refine ev_aload_n (pc := 60) dX11_lights_60 rfl (i := 0) rfl ?_
            refine ev_dup (pc := 61) dX11_lights_61 rfl ?_
            refine ev_get (pc := 62) fl_X11_121_11_16 rfl (by decide) rfl rfl dX11_lights_62 ?_
            refine ev_iconst (pc := 65) (v := 1) dX11_lights_65 kc_1 ?_
            refine ev_iadd (pc := 66) dX11_lights_66 ?_
            refine ev_nm (fun σ11 q11 => ?_)
            have hf := hf σ11 q11
            refine ev_puti (pc := 67) fp_X11_121_11_16 rfl (by decide) rfl rfl rfl dX11_lights_67 ?_
            refine ev_aload_n (pc := 70) dX11_lights_70 rfl (i := 0) rfl ?_
            refine ev_get (pc := 71) fl_X11_121_11_16 rfl (by decide) rfl rfl dX11_lights_71 ?_
            exact ev_iret (pc := 74) rfl dX11_lights_74 hf
          · have hf := hf.2 c7
            refine ev_bipush (pc := 37) (v := (-3)) dX11_lights_37 kb_m3 ?_
            exact ev_iret (pc := 39) rfl dX11_lights_39 hf
        · have hf := hf.2 c6
          refine ev_iconst (pc := 26) (v := (-1)) dX11_lights_26 kc_m1 ?_
          exact ev_iret (pc := 27) rfl dX11_lights_27 hf
def f_X11_forget (σ : St) (post : Int32 → St → Prop) : Prop := ∀ σ1 : St, σ1 = (st_up σ 0 16 0) → (post ((σ.1 0 16) + (σ.1 0 17)) (st_up σ1 0 17 0))
set_option maxRecDepth 100000 in
set_option maxHeartbeats 4000000 in
theorem c_X11_forget (σ : St) (post : Int32 → St → Prop) (hf : f_X11_forget σ post) : Ct SX yX11_forget cX11_forget 2 (some .int) 0 (EQi SX post) [.ref 0] σ := by
  rw [f_X11_forget] at hf
  refine ct_of (by decide) rfl (Nat.le_of_ble_eq_true rfl) ?_
  show Ev SX RX11 cX11_forget 2 (some .int) 0 (EQi SX post) 0 [some (.ref 0), none] [] σ
  refine ev_aload_n (pc := 0) dX11_forget_0 rfl (i := 0) rfl ?_
  refine ev_get (pc := 1) fl_X11_121_11_16 rfl (by decide) rfl rfl dX11_forget_1 ?_
  refine ev_aload_n (pc := 4) dX11_forget_4 rfl (i := 0) rfl ?_
  refine ev_get (pc := 5) fl_X11_124_11_17 rfl (by decide) rfl rfl dX11_forget_5 ?_
  refine ev_iadd (pc := 8) dX11_forget_8 ?_
  refine ev_istore_n (pc := 9) (L' := [some (.ref 0), some (.int ((σ.1 0 16) + (σ.1 0 17)))]) dX11_forget_9 rfl (by decide) rfl rfl ?_
  refine ev_aload_n (pc := 10) dX11_forget_10 rfl (i := 0) rfl ?_
  refine ev_iconst (pc := 11) (v := 0) dX11_forget_11 kc_0 ?_
  refine ev_puti (pc := 12) fp_X11_121_11_16 rfl (by decide) rfl rfl rfl dX11_forget_12 ?_
  refine ev_aload_n (pc := 15) dX11_forget_15 rfl (i := 0) rfl ?_
  refine ev_iconst (pc := 16) (v := 0) dX11_forget_16 kc_0 ?_
  refine ev_nm (fun σ1 q1 => ?_)
  have hf := hf σ1 q1
  refine ev_puti (pc := 17) fp_X11_124_11_17 rfl (by decide) rfl rfl rfl dX11_forget_17 ?_
  refine ev_iload_n (pc := 20) dX11_forget_20 rfl (i := 1) rfl ?_
  exact ev_iret (pc := 21) rfl dX11_forget_21 hf
def f_X0_cutOf (a1 : Int32) (a2 : Int32) (a3 : Int32) (σ : St) (post : Int32 → St → Prop) : Prop := f_X0_aheadOfCut a1 a2 a3 σ (fun x2 σ1 => post (x2 / 2) σ1)
set_option maxRecDepth 100000 in
set_option maxHeartbeats 4000000 in
theorem c_X0_cutOf (a1 : Int32) (a2 : Int32) (a3 : Int32) (σ : St) (post : Int32 → St → Prop) (hf : f_X0_cutOf a1 a2 a3 σ post) : Ct SX yX0_cutOf cX0_cutOf 4 (some .int) 1 (EQi SX post) [.ref 21, .int a1, .int a2, .int a3] σ := by
  rw [f_X0_cutOf] at hf
  refine ct_of (by decide) rfl (Nat.le_of_ble_eq_true rfl) ?_
  show Ev SX RX0 cX0_cutOf 4 (some .int) 1 (EQi SX post) 0 [some (.ref 21), some (.int a1), some (.int a2), some (.int a3)] [] σ
  refine ev_aload_n (pc := 0) dX0_cutOf_0 rfl (i := 0) rfl ?_
  refine ev_iload_n (pc := 1) dX0_cutOf_1 rfl (i := 1) rfl ?_
  refine ev_iload_n (pc := 2) dX0_cutOf_2 rfl (i := 2) rfl ?_
  refine ev_iload_n (pc := 3) dX0_cutOf_3 rfl (i := 3) rfl ?_
  refine ev_calli (pc := 4) (stk := []) (ce_V (c_X0_aheadOfCut a1 a2 a3 σ _ hf) wv_X0_74_X0_aheadOfCut rfl (by decide) rfl (by decide) rfl (Nat.le_of_ble_eq_true rfl) rfl dX0_cutOf_4) (fun x2 σ1 hf => ?_)
  refine ev_iconst (pc := 7) (v := 2) dX0_cutOf_7 kc_2 ?_
  refine ev_idiv (pc := 8) dX0_cutOf_8 (by decide) ?_
  exact ev_iret (pc := 9) rfl dX0_cutOf_9 hf
def f_X11_isLitBy_J29_2 (a1 : Int32) (again2 : Int32 → St → Prop) (post : Int32 → St → Prop) (v2 : Int32) (s0 : Int32) (σ : St) : Prop := (s0 = 0 → (post 0 σ)) ∧ (¬ s0 = 0 → (vp_in a1 6 ∧ (vp_in v2 6 ∧ (f_X0_cutOf (σ.1 40 a1.toNatClampNeg) a1 (σ.1 72 v2.toNatClampNeg) σ (fun x8 σ7 => vp_in v2 6 ∧ ((x8 = (σ7.1 73 v2.toNatClampNeg) → (again2 (v2 + 1) σ7)) ∧ (¬ x8 = (σ7.1 73 v2.toNatClampNeg) → (post 0 σ7))))))))
set_option maxRecDepth 100000 in
set_option maxHeartbeats 4000000 in
theorem p_X11_isLitBy_J29_2 (a1 : Int32) (again2 : Int32 → St → Prop) (post : Int32 → St → Prop) (hagain2 : ∀ (v2 : Int32) (τ : St), again2 v2 τ → Ev SX RX11 cX11_isLitBy 4 (some .boolean) 2 (EQi SX post) 2 [some (.ref 0), some (.int a1), some (.int v2), none] [] τ) (v2 : Int32) (s0 : Int32) (σ : St) (hf : f_X11_isLitBy_J29_2 a1 again2 post v2 s0 σ) : Ev SX RX11 cX11_isLitBy 4 (some .boolean) 2 (EQi SX post) 29 [some (.ref 0), some (.int a1), some (.int v2), none] [.int s0] σ := by
  rw [f_X11_isLitBy_J29_2] at hf
  refine ev_istore_n (pc := 29) (L' := [some (.ref 0), some (.int a1), some (.int v2), some (.int s0)]) dX11_isLitBy_29 rfl (by decide) rfl rfl ?_
  refine ev_iload_n (pc := 30) dX11_isLitBy_30 rfl (i := 3) rfl ?_
  refine ev_if_eq (pc := 31) (tgt := 66) dX11_isLitBy_31 (by decide) (fun c4 => ?_) (fun c4 => ?_)
  · have hf := hf.1 c4
    refine ev_iconst (pc := 66) (v := 0) dX11_isLitBy_66 kc_0 ?_
    exact ev_zret (pc := 67) rfl dX11_isLitBy_67 rfl hf
  · have hf := hf.2 c4
    refine ev_aload_n (pc := 34) dX11_isLitBy_34 rfl (i := 0) rfl ?_
    refine ev_get (pc := 35) fl_X11_23_11_2 rfl (by decide) rfl rfl dX11_isLitBy_35 ?_
    refine ev_aload_n (pc := 38) dX11_isLitBy_38 rfl (i := 0) rfl ?_
    refine ev_get (pc := 39) fl_X11_29_11_3 rfl (by decide) rfl rfl dX11_isLitBy_39 ?_
    refine ev_get (pc := 42) fl_X11_131_4_0 rfl (by decide) rfl rfl dX11_isLitBy_42 ?_
    refine ev_iload_n (pc := 45) dX11_isLitBy_45 rfl (i := 1) rfl ?_
    obtain ⟨h5, hf⟩ := hf
    refine ev_iald (pc := 46) rfl rfl h5 rfl dX11_isLitBy_46 ?_
    refine ev_iload_n (pc := 47) dX11_isLitBy_47 rfl (i := 1) rfl ?_
    refine ev_aload_n (pc := 48) dX11_isLitBy_48 rfl (i := 0) rfl ?_
    refine ev_get (pc := 49) fl_X11_81_11_10 rfl (by decide) rfl rfl dX11_isLitBy_49 ?_
    refine ev_iload_n (pc := 52) dX11_isLitBy_52 rfl (i := 2) rfl ?_
    obtain ⟨h6, hf⟩ := hf
    refine ev_iald (pc := 53) rfl rfl h6 rfl dX11_isLitBy_53 ?_
    refine ev_calli (pc := 54) (stk := []) (ce_V (c_X0_cutOf (σ.1 40 a1.toNatClampNeg) a1 (σ.1 72 v2.toNatClampNeg) σ _ hf) wv_X11_228_X0_cutOf rfl (by decide) rfl (by decide) rfl (Nat.le_of_ble_eq_true rfl) rfl dX11_isLitBy_54) (fun x8 σ7 hf => ?_)
    refine ev_aload_n (pc := 57) dX11_isLitBy_57 rfl (i := 0) rfl ?_
    refine ev_get (pc := 58) fl_X11_84_11_11 rfl (by decide) rfl rfl dX11_isLitBy_58 ?_
    refine ev_iload_n (pc := 61) dX11_isLitBy_61 rfl (i := 2) rfl ?_
    obtain ⟨h9, hf⟩ := hf
    refine ev_iald (pc := 62) rfl rfl h9 rfl dX11_isLitBy_62 ?_
    refine ev_icmp_eq (pc := 63) (tgt := 68) dX11_isLitBy_63 (by decide) (fun c10 => ?_) (fun c10 => ?_)
    · have hf := hf.1 c10
      refine ev_iinc (pc := 68) (v := v2 + 1) (L' := [some (.ref 0), some (.int a1), some (.int (v2 + 1)), some (.int s0)]) dX11_isLitBy_68 rfl (by rw [kc_1]) (by decide) rfl rfl ?_
      refine ev_goto (pc := 71) (tgt := 2) dX11_isLitBy_71 (by decide) ?_
      refine ev_mask [true, true, true, false] (L' := [some (.ref 0), some (.int a1), some (.int (v2 + 1)), none]) rfl ?_
      exact hagain2 _ _ hf
    · have hf := hf.2 c10
      refine ev_iconst (pc := 66) (v := 0) dX11_isLitBy_66 kc_0 ?_
      exact ev_zret (pc := 67) rfl dX11_isLitBy_67 rfl hf
def f_X11_isLitBy_L2 (a1 : Int32) (post : Int32 → St → Prop) : Nat → Int32 → St → Prop
  | 0, _, _ => False
  | n + 1, v2, σ => ((σ.1 0 16) ≤ v2 → (post 1 σ)) ∧ (¬ (σ.1 0 16) ≤ v2 → (vp_in v2 6 ∧ ((¬ (((σ.1 72 v2.toNatClampNeg) >>> (a1 &&& 31)) &&& 1) = 1 → (f_X11_isLitBy_J29_2 a1 (f_X11_isLitBy_L2 a1 post n) post v2 0 σ)) ∧ ((((σ.1 72 v2.toNatClampNeg) >>> (a1 &&& 31)) &&& 1) = 1 → (f_X11_isLitBy_J29_2 a1 (f_X11_isLitBy_L2 a1 post n) post v2 1 σ)))))
set_option maxRecDepth 100000 in
set_option maxHeartbeats 4000000 in
theorem p_X11_isLitBy_L2 (a1 : Int32) (post : Int32 → St → Prop) : ∀ (n : Nat) (v2 : Int32) (σ : St), f_X11_isLitBy_L2 a1 post n v2 σ → Ev SX RX11 cX11_isLitBy 4 (some .boolean) 2 (EQi SX post) 2 [some (.ref 0), some (.int a1), some (.int v2), none] [] σ := by
  intro n
  induction n with
  | zero =>
    intro v2 σ hf
    exact hf.elim
  | succ n hagain2 =>
    intro v2 σ hf
    rw [f_X11_isLitBy_L2] at hf
    refine ev_iload_n (pc := 2) dX11_isLitBy_2 rfl (i := 2) rfl ?_
    refine ev_aload_n (pc := 3) dX11_isLitBy_3 rfl (i := 0) rfl ?_
    refine ev_get (pc := 4) fl_X11_121_11_16 rfl (by decide) rfl rfl dX11_isLitBy_4 ?_
    refine ev_icmp_ge (pc := 7) (tgt := 74) dX11_isLitBy_7 (by decide) (fun c1 => ?_) (fun c1 => ?_)
    · have hf := hf.1 c1
      refine ev_iconst (pc := 74) (v := 1) dX11_isLitBy_74 kc_1 ?_
      exact ev_zret (pc := 75) rfl dX11_isLitBy_75 rfl hf
    · have hf := hf.2 c1
      refine ev_aload_n (pc := 10) dX11_isLitBy_10 rfl (i := 0) rfl ?_
      refine ev_get (pc := 11) fl_X11_81_11_10 rfl (by decide) rfl rfl dX11_isLitBy_11 ?_
      refine ev_iload_n (pc := 14) dX11_isLitBy_14 rfl (i := 2) rfl ?_
      obtain ⟨h2, hf⟩ := hf
      refine ev_iald (pc := 15) rfl rfl h2 rfl dX11_isLitBy_15 ?_
      refine ev_iload_n (pc := 16) dX11_isLitBy_16 rfl (i := 1) rfl ?_
      refine ev_ishr (pc := 17) dX11_isLitBy_17 ?_
      refine ev_iconst (pc := 18) (v := 1) dX11_isLitBy_18 kc_1 ?_
      refine ev_iand (pc := 19) dX11_isLitBy_19 ?_
      refine ev_iconst (pc := 20) (v := 1) dX11_isLitBy_20 kc_1 ?_
      refine ev_icmp_ne (pc := 21) (tgt := 28) dX11_isLitBy_21 (by decide) (fun c3 => ?_) (fun c3 => ?_)
      · have hf := hf.1 c3
        refine ev_iconst (pc := 28) (v := 0) dX11_isLitBy_28 kc_0 ?_
        exact p_X11_isLitBy_J29_2 a1 (f_X11_isLitBy_L2 a1 post n) post hagain2 _ _ _ hf
      · have hf := hf.2 c3
        refine ev_iconst (pc := 24) (v := 1) dX11_isLitBy_24 kc_1 ?_
        refine ev_goto (pc := 25) (tgt := 29) dX11_isLitBy_25 (by decide) ?_
        exact p_X11_isLitBy_J29_2 a1 (f_X11_isLitBy_L2 a1 post n) post hagain2 _ _ _ hf
def f_X11_isLitBy (a1 : Int32) (σ : St) (post : Int32 → St → Prop) : Prop := ∃ n11 : Nat, f_X11_isLitBy_L2 a1 post n11 0 σ
set_option maxRecDepth 100000 in
set_option maxHeartbeats 4000000 in
theorem c_X11_isLitBy (a1 : Int32) (σ : St) (post : Int32 → St → Prop) (hf : f_X11_isLitBy a1 σ post) : Ct SX yX11_isLitBy cX11_isLitBy 4 (some .boolean) 2 (EQi SX post) [.ref 0, .int a1] σ := by
  rw [f_X11_isLitBy] at hf
  refine ct_of (by decide) rfl (Nat.le_of_ble_eq_true rfl) ?_
  show Ev SX RX11 cX11_isLitBy 4 (some .boolean) 2 (EQi SX post) 0 [some (.ref 0), some (.int a1), none, none] [] σ
  refine ev_iconst (pc := 0) (v := 0) dX11_isLitBy_0 kc_0 ?_
  refine ev_istore_n (pc := 1) (L' := [some (.ref 0), some (.int a1), some (.int 0), none]) dX11_isLitBy_1 rfl (by decide) rfl rfl ?_
  obtain ⟨n11, hf⟩ := hf
  exact p_X11_isLitBy_L2 a1 post n11 _ _ hf
def f_X11_whose_L4 (post : Int32 → St → Prop) : Nat → Int32 → Int32 → St → Prop
  | 0, _, _, _ => False
  | n + 1, v1, v2, σ => ((σ.1 21 0) ≤ v2 → (post v1 σ)) ∧ (¬ (σ.1 21 0) ≤ v2 → (f_X11_isLitBy v2 σ (fun x3 σ2 => (x3 = 0 → ((f_X11_whose_L4 post n) (v1 ||| 0) (v2 + 1) σ2)) ∧ (¬ x3 = 0 → ((f_X11_whose_L4 post n) (v1 ||| (1 <<< (v2 &&& 31))) (v2 + 1) σ2)))))
set_option maxRecDepth 100000 in
set_option maxHeartbeats 4000000 in
theorem p_X11_whose_L4 (post : Int32 → St → Prop) : ∀ (n : Nat) (v1 : Int32) (v2 : Int32) (σ : St), f_X11_whose_L4 post n v1 v2 σ → Ev SX RX11 cX11_whose 3 (some .int) 3 (EQi SX post) 4 [some (.ref 0), some (.int v1), some (.int v2)] [] σ := by
  intro n
  induction n with
  | zero =>
    intro v1 v2 σ hf
    exact hf.elim
  | succ n hagain4 =>
    intro v1 v2 σ hf
    rw [f_X11_whose_L4] at hf
    refine ev_iload_n (pc := 4) dX11_whose_4 rfl (i := 2) rfl ?_
    refine ev_aload_n (pc := 5) dX11_whose_5 rfl (i := 0) rfl ?_
    refine ev_get (pc := 6) fl_X11_23_11_2 rfl (by decide) rfl rfl dX11_whose_6 ?_
    refine ev_get (pc := 9) fl_X11_158_0_0 rfl (by decide) rfl rfl dX11_whose_9 ?_
    refine ev_icmp_ge (pc := 12) (tgt := 39) dX11_whose_12 (by decide) (fun c1 => ?_) (fun c1 => ?_)
    · have hf := hf.1 c1
      refine ev_iload_n (pc := 39) dX11_whose_39 rfl (i := 1) rfl ?_
      exact ev_iret (pc := 40) rfl dX11_whose_40 hf
    · have hf := hf.2 c1
      refine ev_iload_n (pc := 15) dX11_whose_15 rfl (i := 1) rfl ?_
      refine ev_aload_n (pc := 16) dX11_whose_16 rfl (i := 0) rfl ?_
      refine ev_iload_n (pc := 17) dX11_whose_17 rfl (i := 2) rfl ?_
      refine ev_calli (pc := 18) (stk := [.int v1]) (ce_V (c_X11_isLitBy v2 σ _ hf) wv_X11_225_X11_isLitBy rfl (by decide) rfl (by decide) rfl (Nat.le_of_ble_eq_true rfl) rfl dX11_whose_18) (fun x3 σ2 hf => ?_)
      refine ev_if_eq (pc := 21) (tgt := 30) dX11_whose_21 (by decide) (fun c4 => ?_) (fun c4 => ?_)
      · have hf := hf.1 c4
        refine ev_iconst (pc := 30) (v := 0) dX11_whose_30 kc_0 ?_
        refine ev_ior (pc := 31) dX11_whose_31 ?_
        refine ev_istore_n (pc := 32) (L' := [some (.ref 0), some (.int (v1 ||| 0)), some (.int v2)]) dX11_whose_32 rfl (by decide) rfl rfl ?_
        refine ev_iinc (pc := 33) (v := v2 + 1) (L' := [some (.ref 0), some (.int (v1 ||| 0)), some (.int (v2 + 1))]) dX11_whose_33 rfl (by rw [kc_1]) (by decide) rfl rfl ?_
        refine ev_goto (pc := 36) (tgt := 4) dX11_whose_36 (by decide) ?_
        exact hagain4 _ _ _ hf
      · have hf := hf.2 c4
        refine ev_iconst (pc := 24) (v := 1) dX11_whose_24 kc_1 ?_
        refine ev_iload_n (pc := 25) dX11_whose_25 rfl (i := 2) rfl ?_
        refine ev_ishl (pc := 26) dX11_whose_26 ?_
        refine ev_goto (pc := 27) (tgt := 31) dX11_whose_27 (by decide) ?_
        refine ev_ior (pc := 31) dX11_whose_31 ?_
        refine ev_istore_n (pc := 32) (L' := [some (.ref 0), some (.int (v1 ||| (1 <<< (v2 &&& 31)))), some (.int v2)]) dX11_whose_32 rfl (by decide) rfl rfl ?_
        refine ev_iinc (pc := 33) (v := v2 + 1) (L' := [some (.ref 0), some (.int (v1 ||| (1 <<< (v2 &&& 31)))), some (.int (v2 + 1))]) dX11_whose_33 rfl (by rw [kc_1]) (by decide) rfl rfl ?_
        refine ev_goto (pc := 36) (tgt := 4) dX11_whose_36 (by decide) ?_
        exact hagain4 _ _ _ hf
def f_X11_whose (σ : St) (post : Int32 → St → Prop) : Prop := ∃ n5 : Nat, f_X11_whose_L4 post n5 0 0 σ
set_option maxRecDepth 100000 in
set_option maxHeartbeats 4000000 in
theorem c_X11_whose (σ : St) (post : Int32 → St → Prop) (hf : f_X11_whose σ post) : Ct SX yX11_whose cX11_whose 3 (some .int) 3 (EQi SX post) [.ref 0] σ := by
  rw [f_X11_whose] at hf
  refine ct_of (by decide) rfl (Nat.le_of_ble_eq_true rfl) ?_
  show Ev SX RX11 cX11_whose 3 (some .int) 3 (EQi SX post) 0 [some (.ref 0), none, none] [] σ
  refine ev_iconst (pc := 0) (v := 0) dX11_whose_0 kc_0 ?_
  refine ev_istore_n (pc := 1) (L' := [some (.ref 0), some (.int 0), none]) dX11_whose_1 rfl (by decide) rfl rfl ?_
  refine ev_iconst (pc := 2) (v := 0) dX11_whose_2 kc_0 ?_
  refine ev_istore_n (pc := 3) (L' := [some (.ref 0), some (.int 0), some (.int 0)]) dX11_whose_3 rfl (by decide) rfl rfl ?_
  obtain ⟨n5, hf⟩ := hf
  exact p_X11_whose_L4 post n5 _ _ _ hf
def f_X11_heapOf_L4 (a1 : Int32) (post : Int32 → St → Prop) : Nat → Int32 → Int32 → St → Prop
  | 0, _, _, _ => False
  | n + 1, v2, v3, σ => ((σ.1 21 0) ≤ v3 → (post v2 σ)) ∧ (¬ (σ.1 21 0) ≤ v3 → ((¬ ((a1 >>> (v3 &&& 31)) &&& 1) = 1 → ((f_X11_heapOf_L4 a1 post n) (v2 + 0) (v3 + 1) σ)) ∧ (((a1 >>> (v3 &&& 31)) &&& 1) = 1 → (vp_in v3 6 ∧ ((f_X11_heapOf_L4 a1 post n) (v2 + (σ.1 41 v3.toNatClampNeg)) (v3 + 1) σ)))))
set_option maxRecDepth 100000 in
set_option maxHeartbeats 4000000 in
theorem p_X11_heapOf_L4 (a1 : Int32) (post : Int32 → St → Prop) : ∀ (n : Nat) (v2 : Int32) (v3 : Int32) (σ : St), f_X11_heapOf_L4 a1 post n v2 v3 σ → Ev SX RX11 cX11_heapOf 4 (some .int) 0 (EQi SX post) 4 [some (.ref 0), some (.int a1), some (.int v2), some (.int v3)] [] σ := by
  intro n
  induction n with
  | zero =>
    intro v2 v3 σ hf
    exact hf.elim
  | succ n hagain4 =>
    intro v2 v3 σ hf
    rw [f_X11_heapOf_L4] at hf
    refine ev_iload_n (pc := 4) dX11_heapOf_4 rfl (i := 3) rfl ?_
    refine ev_aload_n (pc := 5) dX11_heapOf_5 rfl (i := 0) rfl ?_
    refine ev_get (pc := 6) fl_X11_23_11_2 rfl (by decide) rfl rfl dX11_heapOf_6 ?_
    refine ev_get (pc := 9) fl_X11_158_0_0 rfl (by decide) rfl rfl dX11_heapOf_9 ?_
    refine ev_icmp_ge (pc := 12) (tgt := 46) dX11_heapOf_12 (by decide) (fun c1 => ?_) (fun c1 => ?_)
    · have hf := hf.1 c1
      refine ev_iload_n (pc := 46) dX11_heapOf_46 rfl (i := 2) rfl ?_
      exact ev_iret (pc := 47) rfl dX11_heapOf_47 hf
    · have hf := hf.2 c1
      refine ev_iload_n (pc := 15) dX11_heapOf_15 rfl (i := 2) rfl ?_
      refine ev_iload_n (pc := 16) dX11_heapOf_16 rfl (i := 1) rfl ?_
      refine ev_iload_n (pc := 17) dX11_heapOf_17 rfl (i := 3) rfl ?_
      refine ev_ishr (pc := 18) dX11_heapOf_18 ?_
      refine ev_iconst (pc := 19) (v := 1) dX11_heapOf_19 kc_1 ?_
      refine ev_iand (pc := 20) dX11_heapOf_20 ?_
      refine ev_iconst (pc := 21) (v := 1) dX11_heapOf_21 kc_1 ?_
      refine ev_icmp_ne (pc := 22) (tgt := 37) dX11_heapOf_22 (by decide) (fun c2 => ?_) (fun c2 => ?_)
      · have hf := hf.1 c2
        refine ev_iconst (pc := 37) (v := 0) dX11_heapOf_37 kc_0 ?_
        refine ev_iadd (pc := 38) dX11_heapOf_38 ?_
        refine ev_istore_n (pc := 39) (L' := [some (.ref 0), some (.int a1), some (.int (v2 + 0)), some (.int v3)]) dX11_heapOf_39 rfl (by decide) rfl rfl ?_
        refine ev_iinc (pc := 40) (v := v3 + 1) (L' := [some (.ref 0), some (.int a1), some (.int (v2 + 0)), some (.int (v3 + 1))]) dX11_heapOf_40 rfl (by rw [kc_1]) (by decide) rfl rfl ?_
        refine ev_goto (pc := 43) (tgt := 4) dX11_heapOf_43 (by decide) ?_
        exact hagain4 _ _ _ hf
      · have hf := hf.2 c2
        refine ev_aload_n (pc := 25) dX11_heapOf_25 rfl (i := 0) rfl ?_
        refine ev_get (pc := 26) fl_X11_29_11_3 rfl (by decide) rfl rfl dX11_heapOf_26 ?_
        refine ev_get (pc := 29) fl_X11_137_4_1 rfl (by decide) rfl rfl dX11_heapOf_29 ?_
        refine ev_iload_n (pc := 32) dX11_heapOf_32 rfl (i := 3) rfl ?_
        obtain ⟨h3, hf⟩ := hf
        refine ev_iald (pc := 33) rfl rfl h3 rfl dX11_heapOf_33 ?_
        refine ev_goto (pc := 34) (tgt := 38) dX11_heapOf_34 (by decide) ?_
        refine ev_iadd (pc := 38) dX11_heapOf_38 ?_
        refine ev_istore_n (pc := 39) (L' := [some (.ref 0), some (.int a1), some (.int (v2 + (σ.1 41 v3.toNatClampNeg))), some (.int v3)]) dX11_heapOf_39 rfl (by decide) rfl rfl ?_
        refine ev_iinc (pc := 40) (v := v3 + 1) (L' := [some (.ref 0), some (.int a1), some (.int (v2 + (σ.1 41 v3.toNatClampNeg))), some (.int (v3 + 1))]) dX11_heapOf_40 rfl (by rw [kc_1]) (by decide) rfl rfl ?_
        refine ev_goto (pc := 43) (tgt := 4) dX11_heapOf_43 (by decide) ?_
        exact hagain4 _ _ _ hf
def f_X11_heapOf (a1 : Int32) (σ : St) (post : Int32 → St → Prop) : Prop := ∃ n4 : Nat, f_X11_heapOf_L4 a1 post n4 0 0 σ
set_option maxRecDepth 100000 in
set_option maxHeartbeats 4000000 in
theorem c_X11_heapOf (a1 : Int32) (σ : St) (post : Int32 → St → Prop) (hf : f_X11_heapOf a1 σ post) : Ct SX yX11_heapOf cX11_heapOf 4 (some .int) 0 (EQi SX post) [.ref 0, .int a1] σ := by
  rw [f_X11_heapOf] at hf
  refine ct_of (by decide) rfl (Nat.le_of_ble_eq_true rfl) ?_
  show Ev SX RX11 cX11_heapOf 4 (some .int) 0 (EQi SX post) 0 [some (.ref 0), some (.int a1), none, none] [] σ
  refine ev_iconst (pc := 0) (v := 0) dX11_heapOf_0 kc_0 ?_
  refine ev_istore_n (pc := 1) (L' := [some (.ref 0), some (.int a1), some (.int 0), none]) dX11_heapOf_1 rfl (by decide) rfl rfl ?_
  refine ev_iconst (pc := 2) (v := 0) dX11_heapOf_2 kc_0 ?_
  refine ev_istore_n (pc := 3) (L' := [some (.ref 0), some (.int a1), some (.int 0), some (.int 0)]) dX11_heapOf_3 rfl (by decide) rfl rfl ?_
  obtain ⟨n4, hf⟩ := hf
  exact p_X11_heapOf_L4 a1 post n4 _ _ _ hf
def f_X11_sold_L30 (a1 : Int32) (a2 : Int32) (k77 : Int32 → Int32 → St → Prop) (post : Int32 → St → Prop) : Nat → Int32 → Int32 → Int32 → St → Prop
  | 0, _, _, _, _ => False
  | n + 1, v3, v4, v5, σ => ((1 <<< ((σ.1 21 0) &&& 31)) ≤ v5 → (k77 v3 v4 σ)) ∧ (¬ (1 <<< ((σ.1 21 0) &&& 31)) ≤ v5 → (f_X11_heapOf v5 σ (fun x7 σ6 => (a1 < x7 → ((f_X11_sold_L30 a1 a2 k77 post n) v3 v4 (v5 + 1) σ6)) ∧ (¬ a1 < x7 → ((x7 ≤ v3 → ((f_X11_sold_L30 a1 a2 k77 post n) v3 v4 (v5 + 1) σ6)) ∧ (¬ x7 ≤ v3 → ((f_X11_sold_L30 a1 a2 k77 post n) x7 v5 (v5 + 1) σ6)))))))
set_option maxRecDepth 100000 in
set_option maxHeartbeats 4000000 in
theorem p_X11_sold_L30 (a1 : Int32) (a2 : Int32) (k77 : Int32 → Int32 → St → Prop) (post : Int32 → St → Prop) (hk77 : ∀ (v3 : Int32) (v4 : Int32) (τ : St), k77 v3 v4 τ → Ev SX RX11 cX11_sold 7 (some .int) 1 (EQi SX post) 77 [some (.ref 0), some (.int a1), some (.int a2), some (.int v3), some (.int v4), none, none] [] τ) : ∀ (n : Nat) (v3 : Int32) (v4 : Int32) (v5 : Int32) (σ : St), f_X11_sold_L30 a1 a2 k77 post n v3 v4 v5 σ → Ev SX RX11 cX11_sold 7 (some .int) 1 (EQi SX post) 30 [some (.ref 0), some (.int a1), some (.int a2), some (.int v3), some (.int v4), some (.int v5), none] [] σ := by
  intro n
  induction n with
  | zero =>
    intro v3 v4 v5 σ hf
    exact hf.elim
  | succ n hagain30 =>
    intro v3 v4 v5 σ hf
    rw [f_X11_sold_L30] at hf
    refine ev_iload (pc := 30) dX11_sold_30 rfl ?_
    refine ev_iconst (pc := 32) (v := 1) dX11_sold_32 kc_1 ?_
    refine ev_aload_n (pc := 33) dX11_sold_33 rfl (i := 0) rfl ?_
    refine ev_get (pc := 34) fl_X11_23_11_2 rfl (by decide) rfl rfl dX11_sold_34 ?_
    refine ev_get (pc := 37) fl_X11_158_0_0 rfl (by decide) rfl rfl dX11_sold_37 ?_
    refine ev_ishl (pc := 40) dX11_sold_40 ?_
    refine ev_icmp_ge (pc := 41) (tgt := 77) dX11_sold_41 (by decide) (fun c5 => ?_) (fun c5 => ?_)
    · have hf := hf.1 c5
      refine ev_mask [true, true, true, true, true, false, false] (L' := [some (.ref 0), some (.int a1), some (.int a2), some (.int v3), some (.int v4), none, none]) rfl ?_
      exact hk77 _ _ _ hf
    · have hf := hf.2 c5
      refine ev_aload_n (pc := 44) dX11_sold_44 rfl (i := 0) rfl ?_
      refine ev_iload (pc := 45) dX11_sold_45 rfl ?_
      refine ev_calli (pc := 47) (stk := []) (ce_V (c_X11_heapOf v5 σ _ hf) wv_X11_231_X11_heapOf rfl (by decide) rfl (by decide) rfl (Nat.le_of_ble_eq_true rfl) rfl dX11_sold_47) (fun x7 σ6 hf => ?_)
      refine ev_istore (pc := 50) (L' := [some (.ref 0), some (.int a1), some (.int a2), some (.int v3), some (.int v4), some (.int v5), some (.int x7)]) dX11_sold_50 (by decide) rfl rfl ?_
      refine ev_iload (pc := 52) dX11_sold_52 rfl ?_
      refine ev_iload_n (pc := 54) dX11_sold_54 rfl (i := 1) rfl ?_
      refine ev_icmp_gt (pc := 55) (tgt := 71) dX11_sold_55 (by decide) (fun c8 => ?_) (fun c8 => ?_)
      · have hf := hf.1 c8
        refine ev_iinc (pc := 71) (v := v5 + 1) (L' := [some (.ref 0), some (.int a1), some (.int a2), some (.int v3), some (.int v4), some (.int (v5 + 1)), some (.int x7)]) dX11_sold_71 rfl (by rw [kc_1]) (by decide) rfl rfl ?_
        refine ev_goto (pc := 74) (tgt := 30) dX11_sold_74 (by decide) ?_
        refine ev_mask [true, true, true, true, true, true, false] (L' := [some (.ref 0), some (.int a1), some (.int a2), some (.int v3), some (.int v4), some (.int (v5 + 1)), none]) rfl ?_
        exact hagain30 _ _ _ _ hf
      · have hf := hf.2 c8
        refine ev_iload (pc := 58) dX11_sold_58 rfl ?_
        refine ev_iload_n (pc := 60) dX11_sold_60 rfl (i := 3) rfl ?_
        refine ev_icmp_le (pc := 61) (tgt := 71) dX11_sold_61 (by decide) (fun c9 => ?_) (fun c9 => ?_)
        · have hf := hf.1 c9
          refine ev_iinc (pc := 71) (v := v5 + 1) (L' := [some (.ref 0), some (.int a1), some (.int a2), some (.int v3), some (.int v4), some (.int (v5 + 1)), some (.int x7)]) dX11_sold_71 rfl (by rw [kc_1]) (by decide) rfl rfl ?_
          refine ev_goto (pc := 74) (tgt := 30) dX11_sold_74 (by decide) ?_
          refine ev_mask [true, true, true, true, true, true, false] (L' := [some (.ref 0), some (.int a1), some (.int a2), some (.int v3), some (.int v4), some (.int (v5 + 1)), none]) rfl ?_
          exact hagain30 _ _ _ _ hf
        · have hf := hf.2 c9
          refine ev_iload (pc := 64) dX11_sold_64 rfl ?_
          refine ev_istore_n (pc := 66) (L' := [some (.ref 0), some (.int a1), some (.int a2), some (.int x7), some (.int v4), some (.int v5), some (.int x7)]) dX11_sold_66 rfl (by decide) rfl rfl ?_
          refine ev_iload (pc := 67) dX11_sold_67 rfl ?_
          refine ev_istore (pc := 69) (L' := [some (.ref 0), some (.int a1), some (.int a2), some (.int x7), some (.int v5), some (.int v5), some (.int x7)]) dX11_sold_69 (by decide) rfl rfl ?_
          refine ev_iinc (pc := 71) (v := v5 + 1) (L' := [some (.ref 0), some (.int a1), some (.int a2), some (.int x7), some (.int v5), some (.int (v5 + 1)), some (.int x7)]) dX11_sold_71 rfl (by rw [kc_1]) (by decide) rfl rfl ?_
          refine ev_goto (pc := 74) (tgt := 30) dX11_sold_74 (by decide) ?_
          refine ev_mask [true, true, true, true, true, true, false] (L' := [some (.ref 0), some (.int a1), some (.int a2), some (.int x7), some (.int v5), some (.int (v5 + 1)), none]) rfl ?_
          exact hagain30 _ _ _ _ hf
def f_X11_sold (a1 : Int32) (a2 : Int32) (σ : St) (post : Int32 → St → Prop) : Prop := (a1 < 0 → (post (-1) σ)) ∧ (¬ a1 < 0 → ((999 < a1 → (post (-1) σ)) ∧ (¬ 999 < a1 → ((a2 < 0 → (post (-1) σ)) ∧ (¬ a2 < 0 → ((a2 ≤ 1 → (∃ n14 : Nat, f_X11_sold_L30 a1 a2 (fun x11 x12 σ10 => (¬ a2 = 0 → (post x12 σ10)) ∧ (a2 = 0 → (post x11 σ10))) post n14 0 0 1 σ)) ∧ (¬ a2 ≤ 1 → (post (-1) σ))))))))
set_option maxRecDepth 100000 in
set_option maxHeartbeats 4000000 in
theorem c_X11_sold (a1 : Int32) (a2 : Int32) (σ : St) (post : Int32 → St → Prop) (hf : f_X11_sold a1 a2 σ post) : Ct SX yX11_sold cX11_sold 7 (some .int) 1 (EQi SX post) [.ref 0, .int a1, .int a2] σ := by
  rw [f_X11_sold] at hf
  refine ct_of (by decide) rfl (Nat.le_of_ble_eq_true rfl) ?_
  show Ev SX RX11 cX11_sold 7 (some .int) 1 (EQi SX post) 0 [some (.ref 0), some (.int a1), some (.int a2), none, none, none, none] [] σ
  refine ev_iload_n (pc := 0) dX11_sold_0 rfl (i := 1) rfl ?_
  refine ev_if_lt (pc := 1) (tgt := 20) dX11_sold_1 (by decide) (fun c1 => ?_) (fun c1 => ?_)
  · have hf := hf.1 c1
    refine ev_iconst (pc := 20) (v := (-1)) dX11_sold_20 kc_m1 ?_
    exact ev_iret (pc := 21) rfl dX11_sold_21 hf
  · have hf := hf.2 c1
    refine ev_iload_n (pc := 4) dX11_sold_4 rfl (i := 1) rfl ?_
    refine ev_sipush (pc := 5) (v := 999) dX11_sold_5 ks_999 ?_
    refine ev_icmp_gt (pc := 8) (tgt := 20) dX11_sold_8 (by decide) (fun c2 => ?_) (fun c2 => ?_)
    · have hf := hf.1 c2
      refine ev_iconst (pc := 20) (v := (-1)) dX11_sold_20 kc_m1 ?_
      exact ev_iret (pc := 21) rfl dX11_sold_21 hf
    · have hf := hf.2 c2
      refine ev_iload_n (pc := 11) dX11_sold_11 rfl (i := 2) rfl ?_
      refine ev_if_lt (pc := 12) (tgt := 20) dX11_sold_12 (by decide) (fun c3 => ?_) (fun c3 => ?_)
      · have hf := hf.1 c3
        refine ev_iconst (pc := 20) (v := (-1)) dX11_sold_20 kc_m1 ?_
        exact ev_iret (pc := 21) rfl dX11_sold_21 hf
      · have hf := hf.2 c3
        refine ev_iload_n (pc := 15) dX11_sold_15 rfl (i := 2) rfl ?_
        refine ev_iconst (pc := 16) (v := 1) dX11_sold_16 kc_1 ?_
        refine ev_icmp_le (pc := 17) (tgt := 22) dX11_sold_17 (by decide) (fun c4 => ?_) (fun c4 => ?_)
        · have hf := hf.1 c4
          refine ev_iconst (pc := 22) (v := 0) dX11_sold_22 kc_0 ?_
          refine ev_istore_n (pc := 23) (L' := [some (.ref 0), some (.int a1), some (.int a2), some (.int 0), none, none, none]) dX11_sold_23 rfl (by decide) rfl rfl ?_
          refine ev_iconst (pc := 24) (v := 0) dX11_sold_24 kc_0 ?_
          refine ev_istore (pc := 25) (L' := [some (.ref 0), some (.int a1), some (.int a2), some (.int 0), some (.int 0), none, none]) dX11_sold_25 (by decide) rfl rfl ?_
          refine ev_iconst (pc := 27) (v := 1) dX11_sold_27 kc_1 ?_
          refine ev_istore (pc := 28) (L' := [some (.ref 0), some (.int a1), some (.int a2), some (.int 0), some (.int 0), some (.int 1), none]) dX11_sold_28 (by decide) rfl rfl ?_
          obtain ⟨n14, hf⟩ := hf
          exact p_X11_sold_L30 a1 a2 _ post (fun x11 x12 σ10 hf => by
            refine ev_iload_n (pc := 77) dX11_sold_77 rfl (i := 2) rfl ?_
            refine ev_if_ne (pc := 78) (tgt := 85) dX11_sold_78 (by decide) (fun c13 => ?_) (fun c13 => ?_)
            · have hf := hf.1 c13
              refine ev_iload (pc := 85) dX11_sold_85 rfl ?_
              exact ev_iret (pc := 87) rfl dX11_sold_87 hf
            · have hf := hf.2 c13
              refine ev_iload_n (pc := 81) dX11_sold_81 rfl (i := 3) rfl ?_
              refine ev_goto (pc := 82) (tgt := 87) dX11_sold_82 (by decide) ?_
              exact ev_iret (pc := 87) rfl dX11_sold_87 hf) n14 _ _ _ _ hf
        · have hf := hf.2 c4
          refine ev_iconst (pc := 20) (v := (-1)) dX11_sold_20 kc_m1 ?_
          exact ev_iret (pc := 21) rfl dX11_sold_21 hf
def f_X11_tells (a1 : Int32) (a2 : Int32) (σ : St) (post : Int32 → St → Prop) : Prop := (a1 < 0 → (post (-1) σ)) ∧ (¬ a1 < 0 → ((99 < a1 → (post (-1) σ)) ∧ (¬ 99 < a1 → ((a2 < 0 → (post (-1) σ)) ∧ (¬ a2 < 0 → ((a2 ≤ 299 → (((σ.1 0 17) < 6 → (vp_in (σ.1 0 17) 6 ∧ (∀ σ7 : St, σ7 = (st_up σ 74 ((σ.1 0 17).toNatClampNeg) a1) → (vp_in ((st_up σ 74 ((σ.1 0 17).toNatClampNeg) a1).1 0 17) 6 ∧ (∀ σ9 : St, σ9 = (st_up σ7 75 (((st_up σ 74 ((σ.1 0 17).toNatClampNeg) a1).1 0 17).toNatClampNeg) a2) → (post ((st_up σ9 0 17 (((st_up σ7 75 (((st_up σ 74 ((σ.1 0 17).toNatClampNeg) a1).1 0 17).toNatClampNeg) a2).1 0 17) + 1)).1 0 17) (st_up σ9 0 17 (((st_up σ7 75 (((st_up σ 74 ((σ.1 0 17).toNatClampNeg) a1).1 0 17).toNatClampNeg) a2).1 0 17) + 1)))))))) ∧ (¬ (σ.1 0 17) < 6 → (post (-3) σ)))) ∧ (¬ a2 ≤ 299 → (post (-1) σ))))))))
set_option maxRecDepth 100000 in
set_option maxHeartbeats 4000000 in
theorem c_X11_tells (a1 : Int32) (a2 : Int32) (σ : St) (post : Int32 → St → Prop) (hf : f_X11_tells a1 a2 σ post) : Ct SX yX11_tells cX11_tells 3 (some .int) 0 (EQi SX post) [.ref 0, .int a1, .int a2] σ := by
  rw [f_X11_tells] at hf
  refine ct_of (by decide) rfl (Nat.le_of_ble_eq_true rfl) ?_
  show Ev SX RX11 cX11_tells 3 (some .int) 0 (EQi SX post) 0 [some (.ref 0), some (.int a1), some (.int a2)] [] σ
  refine ev_iload_n (pc := 0) dX11_tells_0 rfl (i := 1) rfl ?_
  refine ev_if_lt (pc := 1) (tgt := 21) dX11_tells_1 (by decide) (fun c1 => ?_) (fun c1 => ?_)
  · have hf := hf.1 c1
    refine ev_iconst (pc := 21) (v := (-1)) dX11_tells_21 kc_m1 ?_
    exact ev_iret (pc := 22) rfl dX11_tells_22 hf
  · have hf := hf.2 c1
    refine ev_iload_n (pc := 4) dX11_tells_4 rfl (i := 1) rfl ?_
    refine ev_bipush (pc := 5) (v := 99) dX11_tells_5 kb_99 ?_
    refine ev_icmp_gt (pc := 7) (tgt := 21) dX11_tells_7 (by decide) (fun c2 => ?_) (fun c2 => ?_)
    · have hf := hf.1 c2
      refine ev_iconst (pc := 21) (v := (-1)) dX11_tells_21 kc_m1 ?_
      exact ev_iret (pc := 22) rfl dX11_tells_22 hf
    · have hf := hf.2 c2
      refine ev_iload_n (pc := 10) dX11_tells_10 rfl (i := 2) rfl ?_
      refine ev_if_lt (pc := 11) (tgt := 21) dX11_tells_11 (by decide) (fun c3 => ?_) (fun c3 => ?_)
      · have hf := hf.1 c3
        refine ev_iconst (pc := 21) (v := (-1)) dX11_tells_21 kc_m1 ?_
        exact ev_iret (pc := 22) rfl dX11_tells_22 hf
      · have hf := hf.2 c3
        refine ev_iload_n (pc := 14) dX11_tells_14 rfl (i := 2) rfl ?_
        refine ev_sipush (pc := 15) (v := 299) dX11_tells_15 ks_299 ?_
        refine ev_icmp_le (pc := 18) (tgt := 23) dX11_tells_18 (by decide) (fun c4 => ?_) (fun c4 => ?_)
        · have hf := hf.1 c4
          refine ev_aload_n (pc := 23) dX11_tells_23 rfl (i := 0) rfl ?_
          refine ev_get (pc := 24) fl_X11_124_11_17 rfl (by decide) rfl rfl dX11_tells_24 ?_
          refine ev_bipush (pc := 27) (v := 6) dX11_tells_27 kb_6 ?_
          refine ev_icmp_lt (pc := 29) (tgt := 35) dX11_tells_29 (by decide) (fun c5 => ?_) (fun c5 => ?_)
          · have hf := hf.1 c5
            refine ev_aload_n (pc := 35) dX11_tells_35 rfl (i := 0) rfl ?_
            refine ev_get (pc := 36) fl_X11_87_11_12 rfl (by decide) rfl rfl dX11_tells_36 ?_
            refine ev_aload_n (pc := 39) dX11_tells_39 rfl (i := 0) rfl ?_
            refine ev_get (pc := 40) fl_X11_124_11_17 rfl (by decide) rfl rfl dX11_tells_40 ?_
            refine ev_iload_n (pc := 43) dX11_tells_43 rfl (i := 1) rfl ?_
            obtain ⟨h6, hf⟩ := hf
            refine ev_iast (pc := 44) rfl rfl h6 rfl dX11_tells_44 ?_
            refine ev_aload_n (pc := 45) dX11_tells_45 rfl (i := 0) rfl ?_
            refine ev_get (pc := 46) fl_X11_90_11_13 rfl (by decide) rfl rfl dX11_tells_46 ?_
            refine ev_aload_n (pc := 49) dX11_tells_49 rfl (i := 0) rfl ?_
            refine ev_get (pc := 50) fl_X11_124_11_17 rfl (by decide) rfl rfl dX11_tells_50 ?_
            refine ev_iload_n (pc := 53) dX11_tells_53 rfl (i := 2) rfl ?_
            refine ev_nm (fun σ7 q7 => ?_)
            have hf := hf σ7 q7
            obtain ⟨h8, hf⟩ := hf
            refine ev_iast (pc := 54) rfl rfl h8 rfl dX11_tells_54 ?_
            refine ev_aload_n (pc := 55) dX11_tells_55 rfl (i := 0) rfl ?_
            refine ev_dup (pc := 56) dX11_tells_56 rfl ?_
            refine ev_get (pc := 57) fl_X11_124_11_17 rfl (by decide) rfl rfl dX11_tells_57 ?_
            refine ev_iconst (pc := 60) (v := 1) dX11_tells_60 kc_1 ?_
            refine ev_iadd (pc := 61) dX11_tells_61 ?_
            refine ev_nm (fun σ9 q9 => ?_)
            have hf := hf σ9 q9
            refine ev_puti (pc := 62) fp_X11_124_11_17 rfl (by decide) rfl rfl rfl dX11_tells_62 ?_
            refine ev_aload_n (pc := 65) dX11_tells_65 rfl (i := 0) rfl ?_
            refine ev_get (pc := 66) fl_X11_124_11_17 rfl (by decide) rfl rfl dX11_tells_66 ?_
            exact ev_iret (pc := 69) rfl dX11_tells_69 hf
          · have hf := hf.2 c5
            refine ev_bipush (pc := 32) (v := (-3)) dX11_tells_32 kb_m3 ?_
            exact ev_iret (pc := 34) rfl dX11_tells_34 hf
        · have hf := hf.2 c4
          refine ev_iconst (pc := 21) (v := (-1)) dX11_tells_21 kc_m1 ?_
          exact ev_iret (pc := 22) rfl dX11_tells_22 hf
def f_X11_lawOf (a0 : Int32) (a1 : Int32) (σ : St) (post : Int32 → St → Prop) : Prop := post ((a1 + (((a0 / 10) * a1) / 10)) + (a0 - a0 / 10 * 10)) σ
set_option maxRecDepth 100000 in
set_option maxHeartbeats 4000000 in
theorem c_X11_lawOf (a0 : Int32) (a1 : Int32) (σ : St) (post : Int32 → St → Prop) (hf : f_X11_lawOf a0 a1 σ post) : Ct SX yX11_lawOf cX11_lawOf 2 (some .int) 0 (EQi SX post) [.int a0, .int a1] σ := by
  rw [f_X11_lawOf] at hf
  refine ct_of (by decide) rfl (Nat.le_of_ble_eq_true rfl) ?_
  show Ev SX RX11 cX11_lawOf 2 (some .int) 0 (EQi SX post) 0 [some (.int a0), some (.int a1)] [] σ
  refine ev_iload_n (pc := 0) dX11_lawOf_0 rfl (i := 1) rfl ?_
  refine ev_iload_n (pc := 1) dX11_lawOf_1 rfl (i := 0) rfl ?_
  refine ev_bipush (pc := 2) (v := 10) dX11_lawOf_2 kb_10 ?_
  refine ev_idiv (pc := 4) dX11_lawOf_4 (by decide) ?_
  refine ev_iload_n (pc := 5) dX11_lawOf_5 rfl (i := 1) rfl ?_
  refine ev_imul (pc := 6) dX11_lawOf_6 ?_
  refine ev_bipush (pc := 7) (v := 10) dX11_lawOf_7 kb_10 ?_
  refine ev_idiv (pc := 9) dX11_lawOf_9 (by decide) ?_
  refine ev_iadd (pc := 10) dX11_lawOf_10 ?_
  refine ev_iload_n (pc := 11) dX11_lawOf_11 rfl (i := 0) rfl ?_
  refine ev_bipush (pc := 12) (v := 10) dX11_lawOf_12 kb_10 ?_
  refine ev_irem (pc := 14) dX11_lawOf_14 (by decide) ?_
  refine ev_iadd (pc := 15) dX11_lawOf_15 ?_
  exact ev_iret (pc := 16) rfl dX11_lawOf_16 hf
def f_X11_mostTelling_L28 (a1 : Int32) (k82 : Int32 → Int32 → Int32 → Int32 → St → Prop) (post : Int32 → St → Prop) : Nat → Int32 → Int32 → Int32 → Int32 → Int32 → St → Prop
  | 0, _, _, _, _, _, _ => False
  | n + 1, v2, v3, v4, v5, v6, σ => (a1 ≤ v6 → (k82 v2 v3 v4 v5 σ)) ∧ (¬ a1 ≤ v6 → (vp_in v6 100 ∧ (f_X11_lawOf (σ.1 76 v6.toNatClampNeg) v4 σ (fun x7 σ6 => vp_in x7 300 ∧ (((σ6.1 77 x7.toNatClampNeg) = (v4 + 1) → ((f_X11_mostTelling_L28 a1 k82 post n) v2 v3 v4 v5 (v6 + 1) σ6)) ∧ (¬ (σ6.1 77 x7.toNatClampNeg) = (v4 + 1) → (vp_in x7 300 ∧ ((f_X11_mostTelling_L28 a1 k82 post n) v2 v3 v4 (v5 + 1) (v6 + 1) (st_up σ6 77 x7.toNatClampNeg (v4 + 1))))))))))
set_option maxRecDepth 100000 in
set_option maxHeartbeats 4000000 in
theorem p_X11_mostTelling_L28 (a1 : Int32) (k82 : Int32 → Int32 → Int32 → Int32 → St → Prop) (post : Int32 → St → Prop) (hk82 : ∀ (v2 : Int32) (v3 : Int32) (v4 : Int32) (v5 : Int32) (τ : St), k82 v2 v3 v4 v5 τ → Ev SX RX11 cX11_mostTelling 8 (some .int) 1 (EQi SX post) 82 [some (.ref 0), some (.int a1), some (.int v2), some (.int v3), some (.int v4), some (.int v5), none, none] [] τ) : ∀ (n : Nat) (v2 : Int32) (v3 : Int32) (v4 : Int32) (v5 : Int32) (v6 : Int32) (σ : St), f_X11_mostTelling_L28 a1 k82 post n v2 v3 v4 v5 v6 σ → Ev SX RX11 cX11_mostTelling 8 (some .int) 1 (EQi SX post) 28 [some (.ref 0), some (.int a1), some (.int v2), some (.int v3), some (.int v4), some (.int v5), some (.int v6), none] [] σ := by
  intro n
  induction n with
  | zero =>
    intro v2 v3 v4 v5 v6 σ hf
    exact hf.elim
  | succ n hagain28 =>
    intro v2 v3 v4 v5 v6 σ hf
    rw [f_X11_mostTelling_L28] at hf
    refine ev_iload (pc := 28) dX11_mostTelling_28 rfl ?_
    refine ev_iload_n (pc := 30) dX11_mostTelling_30 rfl (i := 1) rfl ?_
    refine ev_icmp_ge (pc := 31) (tgt := 82) dX11_mostTelling_31 (by decide) (fun c4 => ?_) (fun c4 => ?_)
    · have hf := hf.1 c4
      refine ev_mask [true, true, true, true, true, true, false, false] (L' := [some (.ref 0), some (.int a1), some (.int v2), some (.int v3), some (.int v4), some (.int v5), none, none]) rfl ?_
      exact hk82 _ _ _ _ _ hf
    · have hf := hf.2 c4
      refine ev_aload_n (pc := 34) dX11_mostTelling_34 rfl (i := 0) rfl ?_
      refine ev_get (pc := 35) fl_X11_93_11_14 rfl (by decide) rfl rfl dX11_mostTelling_35 ?_
      refine ev_iload (pc := 38) dX11_mostTelling_38 rfl ?_
      obtain ⟨h5, hf⟩ := hf
      refine ev_iald (pc := 40) rfl rfl h5 rfl dX11_mostTelling_40 ?_
      refine ev_iload (pc := 41) dX11_mostTelling_41 rfl ?_
      refine ev_calli (pc := 43) (stk := []) (ce_S (c_X11_lawOf (σ.1 76 v6.toNatClampNeg) v4 σ _ hf) wt_X11_241_X11_lawOf  (by decide) rfl (Nat.le_of_ble_eq_true rfl) rfl dX11_mostTelling_43) (fun x7 σ6 hf => ?_)
      refine ev_istore (pc := 46) (L' := [some (.ref 0), some (.int a1), some (.int v2), some (.int v3), some (.int v4), some (.int v5), some (.int v6), some (.int x7)]) dX11_mostTelling_46 (by decide) rfl rfl ?_
      refine ev_aload_n (pc := 48) dX11_mostTelling_48 rfl (i := 0) rfl ?_
      refine ev_get (pc := 49) fl_X11_96_11_15 rfl (by decide) rfl rfl dX11_mostTelling_49 ?_
      refine ev_iload (pc := 52) dX11_mostTelling_52 rfl ?_
      obtain ⟨h8, hf⟩ := hf
      refine ev_iald (pc := 54) rfl rfl h8 rfl dX11_mostTelling_54 ?_
      refine ev_iload (pc := 55) dX11_mostTelling_55 rfl ?_
      refine ev_iconst (pc := 57) (v := 1) dX11_mostTelling_57 kc_1 ?_
      refine ev_iadd (pc := 58) dX11_mostTelling_58 ?_
      refine ev_icmp_eq (pc := 59) (tgt := 76) dX11_mostTelling_59 (by decide) (fun c9 => ?_) (fun c9 => ?_)
      · have hf := hf.1 c9
        refine ev_iinc (pc := 76) (v := v6 + 1) (L' := [some (.ref 0), some (.int a1), some (.int v2), some (.int v3), some (.int v4), some (.int v5), some (.int (v6 + 1)), some (.int x7)]) dX11_mostTelling_76 rfl (by rw [kc_1]) (by decide) rfl rfl ?_
        refine ev_goto (pc := 79) (tgt := 28) dX11_mostTelling_79 (by decide) ?_
        refine ev_mask [true, true, true, true, true, true, true, false] (L' := [some (.ref 0), some (.int a1), some (.int v2), some (.int v3), some (.int v4), some (.int v5), some (.int (v6 + 1)), none]) rfl ?_
        exact hagain28 _ _ _ _ _ _ hf
      · have hf := hf.2 c9
        refine ev_aload_n (pc := 62) dX11_mostTelling_62 rfl (i := 0) rfl ?_
        refine ev_get (pc := 63) fl_X11_96_11_15 rfl (by decide) rfl rfl dX11_mostTelling_63 ?_
        refine ev_iload (pc := 66) dX11_mostTelling_66 rfl ?_
        refine ev_iload (pc := 68) dX11_mostTelling_68 rfl ?_
        refine ev_iconst (pc := 70) (v := 1) dX11_mostTelling_70 kc_1 ?_
        refine ev_iadd (pc := 71) dX11_mostTelling_71 ?_
        obtain ⟨h10, hf⟩ := hf
        refine ev_iast (pc := 72) rfl rfl h10 rfl dX11_mostTelling_72 ?_
        refine ev_iinc (pc := 73) (v := v5 + 1) (L' := [some (.ref 0), some (.int a1), some (.int v2), some (.int v3), some (.int v4), some (.int (v5 + 1)), some (.int v6), some (.int x7)]) dX11_mostTelling_73 rfl (by rw [kc_1]) (by decide) rfl rfl ?_
        refine ev_iinc (pc := 76) (v := v6 + 1) (L' := [some (.ref 0), some (.int a1), some (.int v2), some (.int v3), some (.int v4), some (.int (v5 + 1)), some (.int (v6 + 1)), some (.int x7)]) dX11_mostTelling_76 rfl (by rw [kc_1]) (by decide) rfl rfl ?_
        refine ev_goto (pc := 79) (tgt := 28) dX11_mostTelling_79 (by decide) ?_
        refine ev_mask [true, true, true, true, true, true, true, false] (L' := [some (.ref 0), some (.int a1), some (.int v2), some (.int v3), some (.int v4), some (.int (v5 + 1)), some (.int (v6 + 1)), none]) rfl ?_
        exact hagain28 _ _ _ _ _ _ hf
def f_X11_mostTelling_L15 (a1 : Int32) (post : Int32 → St → Prop) : Nat → Int32 → Int32 → Int32 → St → Prop
  | 0, _, _, _, _ => False
  | n + 1, v2, v3, v4, σ => (99 < v4 → (post v3 σ)) ∧ (¬ 99 < v4 → (∃ n17 : Nat, f_X11_mostTelling_L28 a1 (fun x12 x13 x14 x15 σ11 => (x15 ≤ x12 → ((f_X11_mostTelling_L15 a1 post n) x12 x13 (x14 + 1) σ11)) ∧ (¬ x15 ≤ x12 → ((f_X11_mostTelling_L15 a1 post n) x15 x14 (x14 + 1) σ11))) post n17 v2 v3 v4 0 0 σ))
set_option maxRecDepth 100000 in
set_option maxHeartbeats 4000000 in
theorem p_X11_mostTelling_L15 (a1 : Int32) (post : Int32 → St → Prop) : ∀ (n : Nat) (v2 : Int32) (v3 : Int32) (v4 : Int32) (σ : St), f_X11_mostTelling_L15 a1 post n v2 v3 v4 σ → Ev SX RX11 cX11_mostTelling 8 (some .int) 1 (EQi SX post) 15 [some (.ref 0), some (.int a1), some (.int v2), some (.int v3), some (.int v4), none, none, none] [] σ := by
  intro n
  induction n with
  | zero =>
    intro v2 v3 v4 σ hf
    exact hf.elim
  | succ n hagain15 =>
    intro v2 v3 v4 σ hf
    rw [f_X11_mostTelling_L15] at hf
    refine ev_iload (pc := 15) dX11_mostTelling_15 rfl ?_
    refine ev_bipush (pc := 17) (v := 99) dX11_mostTelling_17 kb_99 ?_
    refine ev_icmp_gt (pc := 19) (tgt := 100) dX11_mostTelling_19 (by decide) (fun c3 => ?_) (fun c3 => ?_)
    · have hf := hf.1 c3
      refine ev_iload_n (pc := 100) dX11_mostTelling_100 rfl (i := 3) rfl ?_
      exact ev_iret (pc := 101) rfl dX11_mostTelling_101 hf
    · have hf := hf.2 c3
      refine ev_iconst (pc := 22) (v := 0) dX11_mostTelling_22 kc_0 ?_
      refine ev_istore (pc := 23) (L' := [some (.ref 0), some (.int a1), some (.int v2), some (.int v3), some (.int v4), some (.int 0), none, none]) dX11_mostTelling_23 (by decide) rfl rfl ?_
      refine ev_iconst (pc := 25) (v := 0) dX11_mostTelling_25 kc_0 ?_
      refine ev_istore (pc := 26) (L' := [some (.ref 0), some (.int a1), some (.int v2), some (.int v3), some (.int v4), some (.int 0), some (.int 0), none]) dX11_mostTelling_26 (by decide) rfl rfl ?_
      obtain ⟨n17, hf⟩ := hf
      exact p_X11_mostTelling_L28 a1 _ post (fun x12 x13 x14 x15 σ11 hf => by
        refine ev_iload (pc := 82) dX11_mostTelling_82 rfl ?_
        refine ev_iload_n (pc := 84) dX11_mostTelling_84 rfl (i := 2) rfl ?_
        refine ev_icmp_le (pc := 85) (tgt := 94) dX11_mostTelling_85 (by decide) (fun c16 => ?_) (fun c16 => ?_)
        · have hf := hf.1 c16
          refine ev_iinc (pc := 94) (v := x14 + 1) (L' := [some (.ref 0), some (.int a1), some (.int x12), some (.int x13), some (.int (x14 + 1)), some (.int x15), none, none]) dX11_mostTelling_94 rfl (by rw [kc_1]) (by decide) rfl rfl ?_
          refine ev_goto (pc := 97) (tgt := 15) dX11_mostTelling_97 (by decide) ?_
          refine ev_mask [true, true, true, true, true, false, false, false] (L' := [some (.ref 0), some (.int a1), some (.int x12), some (.int x13), some (.int (x14 + 1)), none, none, none]) rfl ?_
          exact hagain15 _ _ _ _ hf
        · have hf := hf.2 c16
          refine ev_iload (pc := 88) dX11_mostTelling_88 rfl ?_
          refine ev_istore_n (pc := 90) (L' := [some (.ref 0), some (.int a1), some (.int x15), some (.int x13), some (.int x14), some (.int x15), none, none]) dX11_mostTelling_90 rfl (by decide) rfl rfl ?_
          refine ev_iload (pc := 91) dX11_mostTelling_91 rfl ?_
          refine ev_istore_n (pc := 93) (L' := [some (.ref 0), some (.int a1), some (.int x15), some (.int x14), some (.int x14), some (.int x15), none, none]) dX11_mostTelling_93 rfl (by decide) rfl rfl ?_
          refine ev_iinc (pc := 94) (v := x14 + 1) (L' := [some (.ref 0), some (.int a1), some (.int x15), some (.int x14), some (.int (x14 + 1)), some (.int x15), none, none]) dX11_mostTelling_94 rfl (by rw [kc_1]) (by decide) rfl rfl ?_
          refine ev_goto (pc := 97) (tgt := 15) dX11_mostTelling_97 (by decide) ?_
          refine ev_mask [true, true, true, true, true, false, false, false] (L' := [some (.ref 0), some (.int a1), some (.int x15), some (.int x14), some (.int (x14 + 1)), none, none, none]) rfl ?_
          exact hagain15 _ _ _ _ hf) n17 _ _ _ _ _ _ hf
def f_X11_mostTelling (a1 : Int32) (σ : St) (post : Int32 → St → Prop) : Prop := f_J7_fill_53178 77 300 0 σ (fun σ1 => ∃ n18 : Nat, f_X11_mostTelling_L15 a1 post n18 0 0 0 σ1)
set_option maxRecDepth 100000 in
set_option maxHeartbeats 4000000 in
theorem c_X11_mostTelling (a1 : Int32) (σ : St) (post : Int32 → St → Prop) (hf : f_X11_mostTelling a1 σ post) : Ct SX yX11_mostTelling cX11_mostTelling 8 (some .int) 1 (EQi SX post) [.ref 0, .int a1] σ := by
  rw [f_X11_mostTelling] at hf
  refine ct_of (by decide) rfl (Nat.le_of_ble_eq_true rfl) ?_
  show Ev SX RX11 cX11_mostTelling 8 (some .int) 1 (EQi SX post) 0 [some (.ref 0), some (.int a1), none, none, none, none, none, none] [] σ
  refine ev_aload_n (pc := 0) dX11_mostTelling_0 rfl (i := 0) rfl ?_
  refine ev_get (pc := 1) fl_X11_96_11_15 rfl (by decide) rfl rfl dX11_mostTelling_1 ?_
  refine ev_iconst (pc := 4) (v := 0) dX11_mostTelling_4 kc_0 ?_
  refine ev_callv (pc := 5) (stk := []) (ce_S (c_J7_fill_53178 77 300 0 rfl σ _ hf) wt_X11_244_J7_fill_53178  (by decide) rfl (Nat.le_of_ble_eq_true rfl) rfl dX11_mostTelling_5) (fun σ1 hf => ?_)
  refine ev_iconst (pc := 8) (v := 0) dX11_mostTelling_8 kc_0 ?_
  refine ev_istore_n (pc := 9) (L' := [some (.ref 0), some (.int a1), some (.int 0), none, none, none, none, none]) dX11_mostTelling_9 rfl (by decide) rfl rfl ?_
  refine ev_iconst (pc := 10) (v := 0) dX11_mostTelling_10 kc_0 ?_
  refine ev_istore_n (pc := 11) (L' := [some (.ref 0), some (.int a1), some (.int 0), some (.int 0), none, none, none, none]) dX11_mostTelling_11 rfl (by decide) rfl rfl ?_
  refine ev_iconst (pc := 12) (v := 0) dX11_mostTelling_12 kc_0 ?_
  refine ev_istore (pc := 13) (L' := [some (.ref 0), some (.int a1), some (.int 0), some (.int 0), some (.int 0), none, none, none]) dX11_mostTelling_13 (by decide) rfl rfl ?_
  obtain ⟨n18, hf⟩ := hf
  exact p_X11_mostTelling_L15 a1 post n18 _ _ _ _ hf
