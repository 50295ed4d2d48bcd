def f_X11_gathersFitting_L15 (k61 : Int32 → Int32 → Int32 → St → Prop) (post : Int32 → St → Prop) : Nat → Int32 → Int32 → Int32 → Int32 → St → Prop
  | 0, _, _, _, _, _ => False
  | n + 1, v1, v2, v3, v4, σ => ((σ.1 0 17) ≤ v4 → (k61 v1 v2 v3 σ)) ∧ (¬ (σ.1 0 17) ≤ v4 → ((v3 = 0 → ((f_X11_gathersFitting_L15 k61 post n) v1 v2 0 (v4 + 1) σ)) ∧ (¬ v3 = 0 → (vp_in v4 6 ∧ (f_X11_lawOf v2 (σ.1 74 v4.toNatClampNeg) σ (fun x6 σ5 => vp_in v4 6 ∧ ((¬ x6 = (σ5.1 75 v4.toNatClampNeg) → ((f_X11_gathersFitting_L15 k61 post n) v1 v2 0 (v4 + 1) σ5)) ∧ (x6 = (σ5.1 75 v4.toNatClampNeg) → ((f_X11_gathersFitting_L15 k61 post n) v1 v2 1 (v4 + 1) σ5)))))))))
set_option maxRecDepth 100000 in
set_option maxHeartbeats 4000000 in
theorem p_X11_gathersFitting_L15 (k61 : Int32 → Int32 → Int32 → St → Prop) (post : Int32 → St → Prop) (hk61 : ∀ (v1 : Int32) (v2 : Int32) (v3 : Int32) (τ : St), k61 v1 v2 v3 τ → Ev SX RX11 cX11_gathersFitting 5 (some .int) 1 (EQi SX post) 61 [some (.ref 0), some (.int v1), some (.int v2), some (.int v3), none] [] τ) : ∀ (n : Nat) (v1 : Int32) (v2 : Int32) (v3 : Int32) (v4 : Int32) (σ : St), f_X11_gathersFitting_L15 k61 post n v1 v2 v3 v4 σ → Ev SX RX11 cX11_gathersFitting 5 (some .int) 1 (EQi SX post) 15 [some (.ref 0), some (.int v1), some (.int v2), some (.int v3), some (.int v4)] [] σ := by
  intro n
  induction n with
  | zero =>
    intro v1 v2 v3 v4 σ hf
    exact hf.elim
  | succ n hagain15 =>
    intro v1 v2 v3 v4 σ hf
    rw [f_X11_gathersFitting_L15] at hf
    refine ev_iload (pc := 15) dX11_gathersFitting_15 rfl ?_
    refine ev_aload_n (pc := 17) dX11_gathersFitting_17 rfl (i := 0) rfl ?_
    refine ev_get (pc := 18) fl_X11_124_11_17 rfl (by decide) rfl rfl dX11_gathersFitting_18 ?_
    refine ev_icmp_ge (pc := 21) (tgt := 61) dX11_gathersFitting_21 (by decide) (fun c2 => ?_) (fun c2 => ?_)
    · have hf := hf.1 c2
      refine ev_mask [true, true, true, true, false] (L' := [some (.ref 0), some (.int v1), some (.int v2), some (.int v3), none]) rfl ?_
      exact hk61 _ _ _ _ hf
    · have hf := hf.2 c2
      refine ev_iload_n (pc := 24) dX11_gathersFitting_24 rfl (i := 3) rfl ?_
      refine ev_if_eq (pc := 25) (tgt := 53) dX11_gathersFitting_25 (by decide) (fun c3 => ?_) (fun c3 => ?_)
      · have hf := hf.1 c3
        refine ev_iconst (pc := 53) (v := 0) dX11_gathersFitting_53 kc_0 ?_
        refine ev_istore_n (pc := 54) (L' := [some (.ref 0), some (.int v1), some (.int v2), some (.int 0), some (.int v4)]) dX11_gathersFitting_54 rfl (by decide) rfl rfl ?_
        refine ev_iinc (pc := 55) (v := v4 + 1) (L' := [some (.ref 0), some (.int v1), some (.int v2), some (.int 0), some (.int (v4 + 1))]) dX11_gathersFitting_55 rfl (by rw [kc_1]) (by decide) rfl rfl ?_
        refine ev_goto (pc := 58) (tgt := 15) dX11_gathersFitting_58 (by decide) ?_
        exact hagain15 _ _ _ _ _ hf
      · have hf := hf.2 c3
        refine ev_iload_n (pc := 28) dX11_gathersFitting_28 rfl (i := 2) rfl ?_
        refine ev_aload_n (pc := 29) dX11_gathersFitting_29 rfl (i := 0) rfl ?_
        refine ev_get (pc := 30) fl_X11_87_11_12 rfl (by decide) rfl rfl dX11_gathersFitting_30 ?_
        refine ev_iload (pc := 33) dX11_gathersFitting_33 rfl ?_
        obtain ⟨h4, hf⟩ := hf
        refine ev_iald (pc := 35) rfl rfl h4 rfl dX11_gathersFitting_35 ?_
        refine ev_calli (pc := 36) (stk := []) (ce_S (c_X11_lawOf v2 (σ.1 74 v4.toNatClampNeg) σ _ hf) wt_X11_241_X11_lawOf  (by decide) rfl (Nat.le_of_ble_eq_true rfl) rfl dX11_gathersFitting_36) (fun x6 σ5 hf => ?_)
        refine ev_aload_n (pc := 39) dX11_gathersFitting_39 rfl (i := 0) rfl ?_
        refine ev_get (pc := 40) fl_X11_90_11_13 rfl (by decide) rfl rfl dX11_gathersFitting_40 ?_
        refine ev_iload (pc := 43) dX11_gathersFitting_43 rfl ?_
        obtain ⟨h7, hf⟩ := hf
        refine ev_iald (pc := 45) rfl rfl h7 rfl dX11_gathersFitting_45 ?_
        refine ev_icmp_ne (pc := 46) (tgt := 53) dX11_gathersFitting_46 (by decide) (fun c8 => ?_) (fun c8 => ?_)
        · have hf := hf.1 c8
          refine ev_iconst (pc := 53) (v := 0) dX11_gathersFitting_53 kc_0 ?_
          refine ev_istore_n (pc := 54) (L' := [some (.ref 0), some (.int v1), some (.int v2), some (.int 0), some (.int v4)]) dX11_gathersFitting_54 rfl (by decide) rfl rfl ?_
          refine ev_iinc (pc := 55) (v := v4 + 1) (L' := [some (.ref 0), some (.int v1), some (.int v2), some (.int 0), some (.int (v4 + 1))]) dX11_gathersFitting_55 rfl (by rw [kc_1]) (by decide) rfl rfl ?_
          refine ev_goto (pc := 58) (tgt := 15) dX11_gathersFitting_58 (by decide) ?_
          exact hagain15 _ _ _ _ _ hf
        · have hf := hf.2 c8
          refine ev_iconst (pc := 49) (v := 1) dX11_gathersFitting_49 kc_1 ?_
          refine ev_goto (pc := 50) (tgt := 54) dX11_gathersFitting_50 (by decide) ?_
          refine ev_istore_n (pc := 54) (L' := [some (.ref 0), some (.int v1), some (.int v2), some (.int 1), some (.int v4)]) dX11_gathersFitting_54 rfl (by decide) rfl rfl ?_
          refine ev_iinc (pc := 55) (v := v4 + 1) (L' := [some (.ref 0), some (.int v1), some (.int v2), some (.int 1), some (.int (v4 + 1))]) dX11_gathersFitting_55 rfl (by rw [kc_1]) (by decide) rfl rfl ?_
          refine ev_goto (pc := 58) (tgt := 15) dX11_gathersFitting_58 (by decide) ?_
          exact hagain15 _ _ _ _ _ hf
def f_X11_gathersFitting_L4 (post : Int32 → St → Prop) : Nat → Int32 → Int32 → St → Prop
  | 0, _, _, _ => False
  | n + 1, v1, v2, σ => (100 ≤ v2 → (post v1 σ)) ∧ (¬ 100 ≤ v2 → (∃ n15 : Nat, f_X11_gathersFitting_L15 (fun x10 x11 x12 σ9 => (x12 = 0 → ((f_X11_gathersFitting_L4 post n) x10 (x11 + 1) σ9)) ∧ (¬ x12 = 0 → (vp_in x10 100 ∧ ((f_X11_gathersFitting_L4 post n) (x10 + 1) (x11 + 1) (st_up σ9 76 x10.toNatClampNeg x11))))) post n15 v1 v2 1 0 σ))
set_option maxRecDepth 100000 in
set_option maxHeartbeats 4000000 in
theorem p_X11_gathersFitting_L4 (post : Int32 → St → Prop) : ∀ (n : Nat) (v1 : Int32) (v2 : Int32) (σ : St), f_X11_gathersFitting_L4 post n v1 v2 σ → Ev SX RX11 cX11_gathersFitting 5 (some .int) 1 (EQi SX post) 4 [some (.ref 0), some (.int v1), some (.int v2), none, none] [] σ := by
  intro n
  induction n with
  | zero =>
    intro v1 v2 σ hf
    exact hf.elim
  | succ n hagain4 =>
    intro v1 v2 σ hf
    rw [f_X11_gathersFitting_L4] at hf
    refine ev_iload_n (pc := 4) dX11_gathersFitting_4 rfl (i := 2) rfl ?_
    refine ev_bipush (pc := 5) (v := 100) dX11_gathersFitting_5 kb_100 ?_
    refine ev_icmp_ge (pc := 7) (tgt := 81) dX11_gathersFitting_7 (by decide) (fun c1 => ?_) (fun c1 => ?_)
    · have hf := hf.1 c1
      refine ev_iload_n (pc := 81) dX11_gathersFitting_81 rfl (i := 1) rfl ?_
      exact ev_iret (pc := 82) rfl dX11_gathersFitting_82 hf
    · have hf := hf.2 c1
      refine ev_iconst (pc := 10) (v := 1) dX11_gathersFitting_10 kc_1 ?_
      refine ev_istore_n (pc := 11) (L' := [some (.ref 0), some (.int v1), some (.int v2), some (.int 1), none]) dX11_gathersFitting_11 rfl (by decide) rfl rfl ?_
      refine ev_iconst (pc := 12) (v := 0) dX11_gathersFitting_12 kc_0 ?_
      refine ev_istore (pc := 13) (L' := [some (.ref 0), some (.int v1), some (.int v2), some (.int 1), some (.int 0)]) dX11_gathersFitting_13 (by decide) rfl rfl ?_
      obtain ⟨n15, hf⟩ := hf
      exact p_X11_gathersFitting_L15 _ post (fun x10 x11 x12 σ9 hf => by
        refine ev_iload_n (pc := 61) dX11_gathersFitting_61 rfl (i := 3) rfl ?_
        refine ev_if_eq (pc := 62) (tgt := 75) dX11_gathersFitting_62 (by decide) (fun c13 => ?_) (fun c13 => ?_)
        · have hf := hf.1 c13
          refine ev_iinc (pc := 75) (v := x11 + 1) (L' := [some (.ref 0), some (.int x10), some (.int (x11 + 1)), some (.int x12), none]) dX11_gathersFitting_75 rfl (by rw [kc_1]) (by decide) rfl rfl ?_
          refine ev_goto (pc := 78) (tgt := 4) dX11_gathersFitting_78 (by decide) ?_
          refine ev_mask [true, true, true, false, false] (L' := [some (.ref 0), some (.int x10), some (.int (x11 + 1)), none, none]) rfl ?_
          exact hagain4 _ _ _ hf
        · have hf := hf.2 c13
          refine ev_aload_n (pc := 65) dX11_gathersFitting_65 rfl (i := 0) rfl ?_
          refine ev_get (pc := 66) fl_X11_93_11_14 rfl (by decide) rfl rfl dX11_gathersFitting_66 ?_
          refine ev_iload_n (pc := 69) dX11_gathersFitting_69 rfl (i := 1) rfl ?_
          refine ev_iload_n (pc := 70) dX11_gathersFitting_70 rfl (i := 2) rfl ?_
          obtain ⟨h14, hf⟩ := hf
          refine ev_iast (pc := 71) rfl rfl h14 rfl dX11_gathersFitting_71 ?_
          refine ev_iinc (pc := 72) (v := x10 + 1) (L' := [some (.ref 0), some (.int (x10 + 1)), some (.int x11), some (.int x12), none]) dX11_gathersFitting_72 rfl (by rw [kc_1]) (by decide) rfl rfl ?_
          refine ev_iinc (pc := 75) (v := x11 + 1) (L' := [some (.ref 0), some (.int (x10 + 1)), some (.int (x11 + 1)), some (.int x12), none]) dX11_gathersFitting_75 rfl (by rw [kc_1]) (by decide) rfl rfl ?_
          refine ev_goto (pc := 78) (tgt := 4) dX11_gathersFitting_78 (by decide) ?_
          refine ev_mask [true, true, true, false, false] (L' := [some (.ref 0), some (.int (x10 + 1)), some (.int (x11 + 1)), none, none]) rfl ?_
          exact hagain4 _ _ _ hf) n15 _ _ _ _ _ hf
def f_X11_gathersFitting (σ : St) (post : Int32 → St → Prop) : Prop := ∃ n16 : Nat, f_X11_gathersFitting_L4 post n16 0 0 σ
set_option maxRecDepth 100000 in
set_option maxHeartbeats 4000000 in
theorem c_X11_gathersFitting (σ : St) (post : Int32 → St → Prop) (hf : f_X11_gathersFitting σ post) : Ct SX yX11_gathersFitting cX11_gathersFitting 5 (some .int) 1 (EQi SX post) [.ref 0] σ := by
  rw [f_X11_gathersFitting] at hf
  refine ct_of (by decide) rfl (Nat.le_of_ble_eq_true rfl) ?_
  show Ev SX RX11 cX11_gathersFitting 5 (some .int) 1 (EQi SX post) 0 [some (.ref 0), none, none, none, none] [] σ
  refine ev_iconst (pc := 0) (v := 0) dX11_gathersFitting_0 kc_0 ?_
  refine ev_istore_n (pc := 1) (L' := [some (.ref 0), some (.int 0), none, none, none]) dX11_gathersFitting_1 rfl (by decide) rfl rfl ?_
  refine ev_iconst (pc := 2) (v := 0) dX11_gathersFitting_2 kc_0 ?_
  refine ev_istore_n (pc := 3) (L' := [some (.ref 0), some (.int 0), some (.int 0), none, none]) dX11_gathersFitting_3 rfl (by decide) rfl rfl ?_
  obtain ⟨n16, hf⟩ := hf
  exact p_X11_gathersFitting_L4 post n16 _ _ _ hf
def f_X11_fit (a1 : Int32) (σ : St) (post : Int32 → St → Prop) : Prop := (a1 < 0 → (post (-1) σ)) ∧ (¬ a1 < 0 → ((a1 ≤ 2 → (f_X11_gathersFitting σ (fun x4 σ3 => (¬ a1 = 0 → ((¬ x4 = 0 → ((¬ a1 = 1 → (f_X11_mostTelling x4 σ3 (fun x9 σ8 => post x9 σ8))) ∧ (a1 = 1 → (post (σ3.1 76 0) σ3)))) ∧ (x4 = 0 → (post (-9) σ3)))) ∧ (a1 = 0 → (post x4 σ3))))) ∧ (¬ a1 ≤ 2 → (post (-1) σ))))
set_option maxRecDepth 100000 in
set_option maxHeartbeats 4000000 in
theorem c_X11_fit (a1 : Int32) (σ : St) (post : Int32 → St → Prop) (hf : f_X11_fit a1 σ post) : Ct SX yX11_fit cX11_fit 3 (some .int) 2 (EQi SX post) [.ref 0, .int a1] σ := by
  rw [f_X11_fit] at hf
  refine ct_of (by decide) rfl (Nat.le_of_ble_eq_true rfl) ?_
  show Ev SX RX11 cX11_fit 3 (some .int) 2 (EQi SX post) 0 [some (.ref 0), some (.int a1), none] [] σ
  refine ev_iload_n (pc := 0) dX11_fit_0 rfl (i := 1) rfl ?_
  refine ev_if_lt (pc := 1) (tgt := 9) dX11_fit_1 (by decide) (fun c1 => ?_) (fun c1 => ?_)
  · have hf := hf.1 c1
    refine ev_iconst (pc := 9) (v := (-1)) dX11_fit_9 kc_m1 ?_
    exact ev_iret (pc := 10) rfl dX11_fit_10 hf
  · have hf := hf.2 c1
    refine ev_iload_n (pc := 4) dX11_fit_4 rfl (i := 1) rfl ?_
    refine ev_iconst (pc := 5) (v := 2) dX11_fit_5 kc_2 ?_
    refine ev_icmp_le (pc := 6) (tgt := 11) dX11_fit_6 (by decide) (fun c2 => ?_) (fun c2 => ?_)
    · have hf := hf.1 c2
      refine ev_aload_n (pc := 11) dX11_fit_11 rfl (i := 0) rfl ?_
      refine ev_calli (pc := 12) (stk := []) (ce_V (c_X11_gathersFitting σ _ hf) wv_X11_235_X11_gathersFitting rfl (by decide) rfl (by decide) rfl (Nat.le_of_ble_eq_true rfl) rfl dX11_fit_12) (fun x4 σ3 hf => ?_)
      refine ev_istore_n (pc := 15) (L' := [some (.ref 0), some (.int a1), some (.int x4)]) dX11_fit_15 rfl (by decide) rfl rfl ?_
      refine ev_iload_n (pc := 16) dX11_fit_16 rfl (i := 1) rfl ?_
      refine ev_if_ne (pc := 17) (tgt := 22) dX11_fit_17 (by decide) (fun c5 => ?_) (fun c5 => ?_)
      · have hf := hf.1 c5
        refine ev_iload_n (pc := 22) dX11_fit_22 rfl (i := 2) rfl ?_
        refine ev_if_ne (pc := 23) (tgt := 29) dX11_fit_23 (by decide) (fun c6 => ?_) (fun c6 => ?_)
        · have hf := hf.1 c6
          refine ev_iload_n (pc := 29) dX11_fit_29 rfl (i := 1) rfl ?_
          refine ev_iconst (pc := 30) (v := 1) dX11_fit_30 kc_1 ?_
          refine ev_icmp_ne (pc := 31) (tgt := 43) dX11_fit_31 (by decide) (fun c7 => ?_) (fun c7 => ?_)
          · have hf := hf.1 c7
            refine ev_aload_n (pc := 43) dX11_fit_43 rfl (i := 0) rfl ?_
            refine ev_iload_n (pc := 44) dX11_fit_44 rfl (i := 2) rfl ?_
            refine ev_calli (pc := 45) (stk := []) (ce_V (c_X11_mostTelling x4 σ3 _ hf) wv_X11_238_X11_mostTelling rfl (by decide) rfl (by decide) rfl (Nat.le_of_ble_eq_true rfl) rfl dX11_fit_45) (fun x9 σ8 hf => ?_)
            exact ev_iret (pc := 48) rfl dX11_fit_48 hf
          · have hf := hf.2 c7
            refine ev_aload_n (pc := 34) dX11_fit_34 rfl (i := 0) rfl ?_
            refine ev_get (pc := 35) fl_X11_93_11_14 rfl (by decide) rfl rfl dX11_fit_35 ?_
            refine ev_iconst (pc := 38) (v := 0) dX11_fit_38 kc_0 ?_
            refine ev_iald (pc := 39) rfl rfl ki_0_100 kn_0 dX11_fit_39 ?_
            refine ev_goto (pc := 40) (tgt := 48) dX11_fit_40 (by decide) ?_
            exact ev_iret (pc := 48) rfl dX11_fit_48 hf
        · have hf := hf.2 c6
          refine ev_bipush (pc := 26) (v := (-9)) dX11_fit_26 kb_m9 ?_
          exact ev_iret (pc := 28) rfl dX11_fit_28 hf
      · have hf := hf.2 c5
        refine ev_iload_n (pc := 20) dX11_fit_20 rfl (i := 2) rfl ?_
        exact ev_iret (pc := 21) rfl dX11_fit_21 hf
    · have hf := hf.2 c2
      refine ev_iconst (pc := 9) (v := (-1)) dX11_fit_9 kc_m1 ?_
      exact ev_iret (pc := 10) rfl dX11_fit_10 hf
def f_X11_commonOf_L7 (a0 : Int32) (a1 : Int32) (post : Int32 → St → Prop) : Nat → Int32 → Int32 → Int32 → St → Prop
  | 0, _, _, _, _ => False
  | n + 1, v2, v3, v4, σ => (64 ≤ v4 → (post v2 σ)) ∧ (¬ 64 ≤ v4 → ((v3 = 0 → (post v2 σ)) ∧ (¬ v3 = 0 → (¬ v3 = 0 ∧ ((f_X11_commonOf_L7 a0 a1 post n) v3 (v2 - v2 / v3 * v3) (v4 + 1) σ)))))
set_option maxRecDepth 100000 in
set_option maxHeartbeats 4000000 in
theorem p_X11_commonOf_L7 (a0 : Int32) (a1 : Int32) (post : Int32 → St → Prop) : ∀ (n : Nat) (v2 : Int32) (v3 : Int32) (v4 : Int32) (σ : St), f_X11_commonOf_L7 a0 a1 post n v2 v3 v4 σ → Ev SX RX11 cX11_commonOf 6 (some .int) 0 (EQi SX post) 7 [some (.int a0), some (.int a1), some (.int v2), some (.int v3), some (.int v4), none] [] σ := by
  intro n
  induction n with
  | zero =>
    intro v2 v3 v4 σ hf
    exact hf.elim
  | succ n hagain7 =>
    intro v2 v3 v4 σ hf
    rw [f_X11_commonOf_L7] at hf
    refine ev_iload (pc := 7) dX11_commonOf_7 rfl ?_
    refine ev_bipush (pc := 9) (v := 64) dX11_commonOf_9 kb_64 ?_
    refine ev_icmp_ge (pc := 11) (tgt := 34) dX11_commonOf_11 (by decide) (fun c1 => ?_) (fun c1 => ?_)
    · have hf := hf.1 c1
      refine ev_iload_n (pc := 34) dX11_commonOf_34 rfl (i := 2) rfl ?_
      exact ev_iret (pc := 35) rfl dX11_commonOf_35 hf
    · have hf := hf.2 c1
      refine ev_iload_n (pc := 14) dX11_commonOf_14 rfl (i := 3) rfl ?_
      refine ev_if_eq (pc := 15) (tgt := 34) dX11_commonOf_15 (by decide) (fun c2 => ?_) (fun c2 => ?_)
      · have hf := hf.1 c2
        refine ev_iload_n (pc := 34) dX11_commonOf_34 rfl (i := 2) rfl ?_
        exact ev_iret (pc := 35) rfl dX11_commonOf_35 hf
      · have hf := hf.2 c2
        refine ev_iload_n (pc := 18) dX11_commonOf_18 rfl (i := 2) rfl ?_
        refine ev_iload_n (pc := 19) dX11_commonOf_19 rfl (i := 3) rfl ?_
        obtain ⟨h3, hf⟩ := hf
        refine ev_irem (pc := 20) dX11_commonOf_20 h3 ?_
        refine ev_istore (pc := 21) (L' := [some (.int a0), some (.int a1), some (.int v2), some (.int v3), some (.int v4), some (.int (v2 - v2 / v3 * v3))]) dX11_commonOf_21 (by decide) rfl rfl ?_
        refine ev_iload_n (pc := 23) dX11_commonOf_23 rfl (i := 3) rfl ?_
        refine ev_istore_n (pc := 24) (L' := [some (.int a0), some (.int a1), some (.int v3), some (.int v3), some (.int v4), some (.int (v2 - v2 / v3 * v3))]) dX11_commonOf_24 rfl (by decide) rfl rfl ?_
        refine ev_iload (pc := 25) dX11_commonOf_25 rfl ?_
        refine ev_istore_n (pc := 27) (L' := [some (.int a0), some (.int a1), some (.int v3), some (.int (v2 - v2 / v3 * v3)), some (.int v4), some (.int (v2 - v2 / v3 * v3))]) dX11_commonOf_27 rfl (by decide) rfl rfl ?_
        refine ev_iinc (pc := 28) (v := v4 + 1) (L' := [some (.int a0), some (.int a1), some (.int v3), some (.int (v2 - v2 / v3 * v3)), some (.int (v4 + 1)), some (.int (v2 - v2 / v3 * v3))]) dX11_commonOf_28 rfl (by rw [kc_1]) (by decide) rfl rfl ?_
        refine ev_goto (pc := 31) (tgt := 7) dX11_commonOf_31 (by decide) ?_
        refine ev_mask [true, true, true, true, true, false] (L' := [some (.int a0), some (.int a1), some (.int v3), some (.int (v2 - v2 / v3 * v3)), some (.int (v4 + 1)), none]) rfl ?_
        exact hagain7 _ _ _ _ hf
def f_X11_commonOf (a0 : Int32) (a1 : Int32) (σ : St) (post : Int32 → St → Prop) : Prop := ∃ n4 : Nat, f_X11_commonOf_L7 a0 a1 post n4 a0 a1 0 σ
set_option maxRecDepth 100000 in
set_option maxHeartbeats 4000000 in
theorem c_X11_commonOf (a0 : Int32) (a1 : Int32) (σ : St) (post : Int32 → St → Prop) (hf : f_X11_commonOf a0 a1 σ post) : Ct SX yX11_commonOf cX11_commonOf 6 (some .int) 0 (EQi SX post) [.int a0, .int a1] σ := by
  rw [f_X11_commonOf] at hf
  refine ct_of (by decide) rfl (Nat.le_of_ble_eq_true rfl) ?_
  show Ev SX RX11 cX11_commonOf 6 (some .int) 0 (EQi SX post) 0 [some (.int a0), some (.int a1), none, none, none, none] [] σ
  refine ev_iload_n (pc := 0) dX11_commonOf_0 rfl (i := 0) rfl ?_
  refine ev_istore_n (pc := 1) (L' := [some (.int a0), some (.int a1), some (.int a0), none, none, none]) dX11_commonOf_1 rfl (by decide) rfl rfl ?_
  refine ev_iload_n (pc := 2) dX11_commonOf_2 rfl (i := 1) rfl ?_
  refine ev_istore_n (pc := 3) (L' := [some (.int a0), some (.int a1), some (.int a0), some (.int a1), none, none]) dX11_commonOf_3 rfl (by decide) rfl rfl ?_
  refine ev_iconst (pc := 4) (v := 0) dX11_commonOf_4 kc_0 ?_
  refine ev_istore (pc := 5) (L' := [some (.int a0), some (.int a1), some (.int a0), some (.int a1), some (.int 0), none]) dX11_commonOf_5 (by decide) rfl rfl ?_
  obtain ⟨n4, hf⟩ := hf
  exact p_X11_commonOf_L7 a0 a1 post n4 _ _ _ _ hf
def f_X11_below_L49 (a1 : Int32) (a2 : Int32) (a3 : Int32) (k77 : Int32 → Int32 → St → Prop) (post : Int32 → St → Prop) : Nat → Int32 → Int32 → Int32 → St → Prop
  | 0, _, _, _, _ => False
  | n + 1, v4, v5, v6, σ => (a2 ≤ v6 → (k77 v4 v5 σ)) ∧ (¬ a2 ≤ v6 → ((f_X11_below_L49 a1 a2 a3 k77 post n) (v4 * (10 - a1)) (v5 * 10) (v6 + 1) σ))
set_option maxRecDepth 100000 in
set_option maxHeartbeats 4000000 in
theorem p_X11_below_L49 (a1 : Int32) (a2 : Int32) (a3 : Int32) (k77 : Int32 → Int32 → St → Prop) (post : Int32 → St → Prop) (hk77 : ∀ (v4 : Int32) (v5 : Int32) (τ : St), k77 v4 v5 τ → Ev SX RX11 cX11_below 7 (some .int) 1 (EQi SX post) 77 [some (.ref 0), some (.int a1), some (.int a2), some (.int a3), some (.int v4), some (.int v5), none] [] τ) : ∀ (n : Nat) (v4 : Int32) (v5 : Int32) (v6 : Int32) (σ : St), f_X11_below_L49 a1 a2 a3 k77 post n v4 v5 v6 σ → Ev SX RX11 cX11_below 7 (some .int) 1 (EQi SX post) 49 [some (.ref 0), some (.int a1), some (.int a2), some (.int a3), some (.int v4), some (.int v5), some (.int v6)] [] σ := by
  intro n
  induction n with
  | zero =>
    intro v4 v5 v6 σ hf
    exact hf.elim
  | succ n hagain49 =>
    intro v4 v5 v6 σ hf
    rw [f_X11_below_L49] at hf
    refine ev_iload (pc := 49) dX11_below_49 rfl ?_
    refine ev_iload_n (pc := 51) dX11_below_51 rfl (i := 2) rfl ?_
    refine ev_icmp_ge (pc := 52) (tgt := 77) dX11_below_52 (by decide) (fun c9 => ?_) (fun c9 => ?_)
    · have hf := hf.1 c9
      refine ev_mask [true, true, true, true, true, true, false] (L' := [some (.ref 0), some (.int a1), some (.int a2), some (.int a3), some (.int v4), some (.int v5), none]) rfl ?_
      exact hk77 _ _ _ hf
    · have hf := hf.2 c9
      refine ev_iload (pc := 55) dX11_below_55 rfl ?_
      refine ev_bipush (pc := 57) (v := 10) dX11_below_57 kb_10 ?_
      refine ev_iload_n (pc := 59) dX11_below_59 rfl (i := 1) rfl ?_
      refine ev_isub (pc := 60) dX11_below_60 ?_
      refine ev_imul (pc := 61) dX11_below_61 ?_
      refine ev_istore (pc := 62) (L' := [some (.ref 0), some (.int a1), some (.int a2), some (.int a3), some (.int (v4 * (10 - a1))), some (.int v5), some (.int v6)]) dX11_below_62 (by decide) rfl rfl ?_
      refine ev_iload (pc := 64) dX11_below_64 rfl ?_
      refine ev_bipush (pc := 66) (v := 10) dX11_below_66 kb_10 ?_
      refine ev_imul (pc := 68) dX11_below_68 ?_
      refine ev_istore (pc := 69) (L' := [some (.ref 0), some (.int a1), some (.int a2), some (.int a3), some (.int (v4 * (10 - a1))), some (.int (v5 * 10)), some (.int v6)]) dX11_below_69 (by decide) rfl rfl ?_
      refine ev_iinc (pc := 71) (v := v6 + 1) (L' := [some (.ref 0), some (.int a1), some (.int a2), some (.int a3), some (.int (v4 * (10 - a1))), some (.int (v5 * 10)), some (.int (v6 + 1))]) dX11_below_71 rfl (by rw [kc_1]) (by decide) rfl rfl ?_
      refine ev_goto (pc := 74) (tgt := 49) dX11_below_74 (by decide) ?_
      exact hagain49 _ _ _ _ hf
def f_X11_below (a1 : Int32) (a2 : Int32) (a3 : Int32) (σ : St) (post : Int32 → St → Prop) : Prop := (a1 < 0 → (post (-1) σ)) ∧ (¬ a1 < 0 → ((10 < a1 → (post (-1) σ)) ∧ (¬ 10 < a1 → ((a2 < 0 → (post (-1) σ)) ∧ (¬ a2 < 0 → ((4 < a2 → (post (-1) σ)) ∧ (¬ 4 < a2 → ((a3 < 0 → (post (-1) σ)) ∧ (¬ a3 < 0 → ((a3 ≤ 1 → (f_X11_sumOf 40 6 σ (fun x8 σ7 => ∃ n18 : Nat, f_X11_below_L49 a1 a2 a3 (fun x11 x12 σ10 => f_X11_commonOf x11 x12 σ10 (fun x14 σ13 => (¬ a3 = 0 → (¬ (if 1 < x14 then x14 else 1) = 0 ∧ (post (x12 / (if 1 < x14 then x14 else 1)) σ13))) ∧ (a3 = 0 → (¬ (if 1 < x14 then x14 else 1) = 0 ∧ (post (x11 / (if 1 < x14 then x14 else 1)) σ13))))) post n18 x8 1 0 σ7))) ∧ (¬ a3 ≤ 1 → (post (-1) σ))))))))))))
set_option maxRecDepth 100000 in
set_option maxHeartbeats 4000000 in
theorem c_X11_below (a1 : Int32) (a2 : Int32) (a3 : Int32) (σ : St) (post : Int32 → St → Prop) (hf : f_X11_below a1 a2 a3 σ post) : Ct SX yX11_below cX11_below 7 (some .int) 1 (EQi SX post) [.ref 0, .int a1, .int a2, .int a3] σ := by
  rw [f_X11_below] at hf
  refine ct_of (by decide) rfl (Nat.le_of_ble_eq_true rfl) ?_
  show Ev SX RX11 cX11_below 7 (some .int) 1 (EQi SX post) 0 [some (.ref 0), some (.int a1), some (.int a2), some (.int a3), none, none, none] [] σ
  refine ev_iload_n (pc := 0) dX11_below_0 rfl (i := 1) rfl ?_
  refine ev_if_lt (pc := 1) (tgt := 28) dX11_below_1 (by decide) (fun c1 => ?_) (fun c1 => ?_)
  · have hf := hf.1 c1
    refine ev_iconst (pc := 28) (v := (-1)) dX11_below_28 kc_m1 ?_
    exact ev_iret (pc := 29) rfl dX11_below_29 hf
  · have hf := hf.2 c1
    refine ev_iload_n (pc := 4) dX11_below_4 rfl (i := 1) rfl ?_
    refine ev_bipush (pc := 5) (v := 10) dX11_below_5 kb_10 ?_
    refine ev_icmp_gt (pc := 7) (tgt := 28) dX11_below_7 (by decide) (fun c2 => ?_) (fun c2 => ?_)
    · have hf := hf.1 c2
      refine ev_iconst (pc := 28) (v := (-1)) dX11_below_28 kc_m1 ?_
      exact ev_iret (pc := 29) rfl dX11_below_29 hf
    · have hf := hf.2 c2
      refine ev_iload_n (pc := 10) dX11_below_10 rfl (i := 2) rfl ?_
      refine ev_if_lt (pc := 11) (tgt := 28) dX11_below_11 (by decide) (fun c3 => ?_) (fun c3 => ?_)
      · have hf := hf.1 c3
        refine ev_iconst (pc := 28) (v := (-1)) dX11_below_28 kc_m1 ?_
        exact ev_iret (pc := 29) rfl dX11_below_29 hf
      · have hf := hf.2 c3
        refine ev_iload_n (pc := 14) dX11_below_14 rfl (i := 2) rfl ?_
        refine ev_iconst (pc := 15) (v := 4) dX11_below_15 kc_4 ?_
        refine ev_icmp_gt (pc := 16) (tgt := 28) dX11_below_16 (by decide) (fun c4 => ?_) (fun c4 => ?_)
        · have hf := hf.1 c4
          refine ev_iconst (pc := 28) (v := (-1)) dX11_below_28 kc_m1 ?_
          exact ev_iret (pc := 29) rfl dX11_below_29 hf
        · have hf := hf.2 c4
          refine ev_iload_n (pc := 19) dX11_below_19 rfl (i := 3) rfl ?_
          refine ev_if_lt (pc := 20) (tgt := 28) dX11_below_20 (by decide) (fun c5 => ?_) (fun c5 => ?_)
          · have hf := hf.1 c5
            refine ev_iconst (pc := 28) (v := (-1)) dX11_below_28 kc_m1 ?_
            exact ev_iret (pc := 29) rfl dX11_below_29 hf
          · have hf := hf.2 c5
            refine ev_iload_n (pc := 23) dX11_below_23 rfl (i := 3) rfl ?_
            refine ev_iconst (pc := 24) (v := 1) dX11_below_24 kc_1 ?_
            refine ev_icmp_le (pc := 25) (tgt := 30) dX11_below_25 (by decide) (fun c6 => ?_) (fun c6 => ?_)
            · have hf := hf.1 c6
              refine ev_aload_n (pc := 30) dX11_below_30 rfl (i := 0) rfl ?_
              refine ev_aload_n (pc := 31) dX11_below_31 rfl (i := 0) rfl ?_
              refine ev_get (pc := 32) fl_X11_29_11_3 rfl (by decide) rfl rfl dX11_below_32 ?_
              refine ev_get (pc := 35) fl_X11_131_4_0 rfl (by decide) rfl rfl dX11_below_35 ?_
              refine ev_calli (pc := 38) (stk := []) (ce_V (c_X11_sumOf 40 6 rfl σ _ hf) wv_X11_185_X11_sumOf rfl (by decide) rfl (by decide) rfl (Nat.le_of_ble_eq_true rfl) rfl dX11_below_38) (fun x8 σ7 hf => ?_)
              refine ev_istore (pc := 41) (L' := [some (.ref 0), some (.int a1), some (.int a2), some (.int a3), some (.int x8), none, none]) dX11_below_41 (by decide) rfl rfl ?_
              refine ev_iconst (pc := 43) (v := 1) dX11_below_43 kc_1 ?_
              refine ev_istore (pc := 44) (L' := [some (.ref 0), some (.int a1), some (.int a2), some (.int a3), some (.int x8), some (.int 1), none]) dX11_below_44 (by decide) rfl rfl ?_
              refine ev_iconst (pc := 46) (v := 0) dX11_below_46 kc_0 ?_
              refine ev_istore (pc := 47) (L' := [some (.ref 0), some (.int a1), some (.int a2), some (.int a3), some (.int x8), some (.int 1), some (.int 0)]) dX11_below_47 (by decide) rfl rfl ?_
              obtain ⟨n18, hf⟩ := hf
              exact p_X11_below_L49 a1 a2 a3 _ post (fun x11 x12 σ10 hf => by
                refine ev_iconst (pc := 77) (v := 1) dX11_below_77 kc_1 ?_
                refine ev_iload (pc := 78) dX11_below_78 rfl ?_
                refine ev_iload (pc := 80) dX11_below_80 rfl ?_
                refine ev_calli (pc := 82) (stk := [.int 1]) (ce_S (c_X11_commonOf x11 x12 σ10 _ hf) wt_X11_250_X11_commonOf  (by decide) rfl (Nat.le_of_ble_eq_true rfl) rfl dX11_below_82) (fun x14 σ13 hf => ?_)
                refine ev_max (pc := 85) wmax_X11_193 (by omega) (Nat.le_of_ble_eq_true rfl) dX11_below_85 ?_
                refine ev_istore (pc := 88) (L' := [some (.ref 0), some (.int a1), some (.int a2), some (.int a3), some (.int x11), some (.int x12), some (.int (if 1 < x14 then x14 else 1))]) dX11_below_88 (by decide) rfl rfl ?_
                refine ev_iload_n (pc := 90) dX11_below_90 rfl (i := 3) rfl ?_
                refine ev_if_ne (pc := 91) (tgt := 102) dX11_below_91 (by decide) (fun c15 => ?_) (fun c15 => ?_)
                · have hf := hf.1 c15
                  refine ev_iload (pc := 102) dX11_below_102 rfl ?_
                  refine ev_iload (pc := 104) dX11_below_104 rfl ?_
                  obtain ⟨h16, hf⟩ := hf
                  refine ev_idiv (pc := 106) dX11_below_106 h16 ?_
                  exact ev_iret (pc := 107) rfl dX11_below_107 hf
                · have hf := hf.2 c15
                  refine ev_iload (pc := 94) dX11_below_94 rfl ?_
                  refine ev_iload (pc := 96) dX11_below_96 rfl ?_
                  obtain ⟨h17, hf⟩ := hf
                  refine ev_idiv (pc := 98) dX11_below_98 h17 ?_
                  refine ev_goto (pc := 99) (tgt := 107) dX11_below_99 (by decide) ?_
                  exact ev_iret (pc := 107) rfl dX11_below_107 hf) n18 _ _ _ _ hf
            · have hf := hf.2 c6
              refine ev_iconst (pc := 28) (v := (-1)) dX11_below_28 kc_m1 ?_
              exact ev_iret (pc := 29) rfl dX11_below_29 hf
def f_X2_worth_67 (a3 : Int32) (σ : St) (post : Int32 → St → Prop) : Prop := vp_in a3 6 ∧ (post (((st_lo σ 67 ((σ.2 67) + 1)).1 40 a3.toNatClampNeg) / 2) (st_lo σ 67 ((σ.2 67) + 1)))
set_option maxRecDepth 100000 in
set_option maxHeartbeats 4000000 in
theorem c_X2_worth_67 (a3 : Int32) (σ : St) (post : Int32 → St → Prop) (hf : f_X2_worth_67 a3 σ post) : Ct SX yX2_worth cX2_worth 4 (some .int) 0 (EQi SX post) [.ref 67, .ref 21, .ref 39, .int a3] σ := by
  rw [f_X2_worth_67] at hf
  refine ct_of (by decide) rfl (Nat.le_of_ble_eq_true rfl) ?_
  show Ev SX RX2 cX2_worth 4 (some .int) 0 (EQi SX post) 0 [some (.ref 67), some (.ref 21), some (.ref 39), some (.int a3)] [] σ
  refine ev_aload_n (pc := 0) dX2_worth_0 rfl (i := 0) rfl ?_
  refine ev_dup (pc := 1) dX2_worth_1 rfl ?_
  refine ev_get (pc := 2) fl_X2_7_6_0 rfl (by decide) rfl rfl dX2_worth_2 ?_
  refine ev_lconst (pc := 5) (v := 1) dX2_worth_5 (by decide) ?_
  refine ev_ladd (pc := 6) dX2_worth_6 ?_
  refine ev_putl (pc := 7) fp_X2_7_6_0 rfl (by decide) rfl ko_1_0_1 dX2_worth_7 ?_
  refine ev_aload_n (pc := 10) dX2_worth_10 rfl (i := 2) rfl ?_
  refine ev_get (pc := 11) fl_X2_13_4_0 rfl (by decide) rfl rfl dX2_worth_11 ?_
  refine ev_iload_n (pc := 14) dX2_worth_14 rfl (i := 3) rfl ?_
  obtain ⟨h1, hf⟩ := hf
  refine ev_iald (pc := 15) rfl rfl h1 rfl dX2_worth_15 ?_
  refine ev_iconst (pc := 16) (v := 2) dX2_worth_16 kc_2 ?_
  refine ev_idiv (pc := 17) dX2_worth_17 (by decide) ?_
  exact ev_iret (pc := 18) rfl dX2_worth_18 hf
def f_X6_worth_67 (a3 : Int32) (σ : St) (post : Int32 → St → Prop) : Prop := f_X2_worth_67 a3 (st_lo σ 67 ((σ.2 67) + 100)) (fun x2 σ1 => vp_in a3 6 ∧ (post (x2 - (σ1.1 41 a3.toNatClampNeg)) σ1))
set_option maxRecDepth 100000 in
set_option maxHeartbeats 4000000 in
theorem c_X6_worth_67 (a3 : Int32) (σ : St) (post : Int32 → St → Prop) (hf : f_X6_worth_67 a3 σ post) : Ct SX yX6_worth cX6_worth 4 (some .int) 1 (EQi SX post) [.ref 67, .ref 21, .ref 39, .int a3] σ := by
  rw [f_X6_worth_67] at hf
  refine ct_of (by decide) rfl (Nat.le_of_ble_eq_true rfl) ?_
  show Ev SX RX6 cX6_worth 4 (some .int) 1 (EQi SX post) 0 [some (.ref 67), some (.ref 21), some (.ref 39), some (.int a3)] [] σ
  refine ev_aload_n (pc := 0) dX6_worth_0 rfl (i := 0) rfl ?_
  refine ev_dup (pc := 1) dX6_worth_1 rfl ?_
  refine ev_get (pc := 2) fl_X6_7_6_0 rfl (by decide) rfl rfl dX6_worth_2 ?_
  refine ev_ldc2 (pc := 5) wl_X6_13 dX6_worth_5 ?_
  refine ev_ladd (pc := 8) dX6_worth_8 ?_
  refine ev_putl (pc := 9) fp_X6_7_6_0 rfl (by decide) rfl ko_1_0_1 dX6_worth_9 ?_
  refine ev_aload_n (pc := 12) dX6_worth_12 rfl (i := 0) rfl ?_
  refine ev_aload_n (pc := 13) dX6_worth_13 rfl (i := 1) rfl ?_
  refine ev_aload_n (pc := 14) dX6_worth_14 rfl (i := 2) rfl ?_
  refine ev_iload_n (pc := 15) dX6_worth_15 rfl (i := 3) rfl ?_
  refine ev_calli (pc := 16) (stk := []) (ce_U (c_X2_worth_67 a3 (st_lo σ 67 ((σ.2 67) + 100)) _ hf) wu_X6_15_X2_worth rfl (by decide) rfl (by decide) rfl (Nat.le_of_ble_eq_true rfl) rfl dX6_worth_16) (fun x2 σ1 hf => ?_)
  refine ev_aload_n (pc := 19) dX6_worth_19 rfl (i := 2) rfl ?_
  refine ev_get (pc := 20) fl_X6_19_4_1 rfl (by decide) rfl rfl dX6_worth_20 ?_
  refine ev_iload_n (pc := 23) dX6_worth_23 rfl (i := 3) rfl ?_
  obtain ⟨h3, hf⟩ := hf
  refine ev_iald (pc := 24) rfl rfl h3 rfl dX6_worth_24 ?_
  refine ev_isub (pc := 25) dX6_worth_25 ?_
  exact ev_iret (pc := 26) rfl dX6_worth_26 hf
def f_X2_worth_65 (a3 : Int32) (σ : St) (post : Int32 → St → Prop) : Prop := vp_in a3 6 ∧ (post (((st_lo σ 65 ((σ.2 65) + 1)).1 40 a3.toNatClampNeg) / 2) (st_lo σ 65 ((σ.2 65) + 1)))
set_option maxRecDepth 100000 in
set_option maxHeartbeats 4000000 in
theorem c_X2_worth_65 (a3 : Int32) (σ : St) (post : Int32 → St → Prop) (hf : f_X2_worth_65 a3 σ post) : Ct SX yX2_worth cX2_worth 4 (some .int) 0 (EQi SX post) [.ref 65, .ref 21, .ref 39, .int a3] σ := by
  rw [f_X2_worth_65] at hf
  refine ct_of (by decide) rfl (Nat.le_of_ble_eq_true rfl) ?_
  show Ev SX RX2 cX2_worth 4 (some .int) 0 (EQi SX post) 0 [some (.ref 65), some (.ref 21), some (.ref 39), some (.int a3)] [] σ
  refine ev_aload_n (pc := 0) dX2_worth_0 rfl (i := 0) rfl ?_
  refine ev_dup (pc := 1) dX2_worth_1 rfl ?_
  refine ev_get (pc := 2) fl_X2_7_2_0 rfl (by decide) rfl rfl dX2_worth_2 ?_
  refine ev_lconst (pc := 5) (v := 1) dX2_worth_5 (by decide) ?_
  refine ev_ladd (pc := 6) dX2_worth_6 ?_
  refine ev_putl (pc := 7) fp_X2_7_2_0 rfl (by decide) rfl ko_1_0_1 dX2_worth_7 ?_
  refine ev_aload_n (pc := 10) dX2_worth_10 rfl (i := 2) rfl ?_
  refine ev_get (pc := 11) fl_X2_13_4_0 rfl (by decide) rfl rfl dX2_worth_11 ?_
  refine ev_iload_n (pc := 14) dX2_worth_14 rfl (i := 3) rfl ?_
  obtain ⟨h1, hf⟩ := hf
  refine ev_iald (pc := 15) rfl rfl h1 rfl dX2_worth_15 ?_
  refine ev_iconst (pc := 16) (v := 2) dX2_worth_16 kc_2 ?_
  refine ev_idiv (pc := 17) dX2_worth_17 (by decide) ?_
  exact ev_iret (pc := 18) rfl dX2_worth_18 hf
def f_X2_worth_66 (a3 : Int32) (σ : St) (post : Int32 → St → Prop) : Prop := vp_in a3 6 ∧ (post (((st_lo σ 66 ((σ.2 66) + 1)).1 40 a3.toNatClampNeg) / 2) (st_lo σ 66 ((σ.2 66) + 1)))
set_option maxRecDepth 100000 in
set_option maxHeartbeats 4000000 in
theorem c_X2_worth_66 (a3 : Int32) (σ : St) (post : Int32 → St → Prop) (hf : f_X2_worth_66 a3 σ post) : Ct SX yX2_worth cX2_worth 4 (some .int) 0 (EQi SX post) [.ref 66, .ref 21, .ref 39, .int a3] σ := by
  rw [f_X2_worth_66] at hf
  refine ct_of (by decide) rfl (Nat.le_of_ble_eq_true rfl) ?_
  show Ev SX RX2 cX2_worth 4 (some .int) 0 (EQi SX post) 0 [some (.ref 66), some (.ref 21), some (.ref 39), some (.int a3)] [] σ
  refine ev_aload_n (pc := 0) dX2_worth_0 rfl (i := 0) rfl ?_
  refine ev_dup (pc := 1) dX2_worth_1 rfl ?_
  refine ev_get (pc := 2) fl_X2_7_9_0 rfl (by decide) rfl rfl dX2_worth_2 ?_
  refine ev_lconst (pc := 5) (v := 1) dX2_worth_5 (by decide) ?_
  refine ev_ladd (pc := 6) dX2_worth_6 ?_
  refine ev_putl (pc := 7) fp_X2_7_9_0 rfl (by decide) rfl ko_1_0_1 dX2_worth_7 ?_
  refine ev_aload_n (pc := 10) dX2_worth_10 rfl (i := 2) rfl ?_
  refine ev_get (pc := 11) fl_X2_13_4_0 rfl (by decide) rfl rfl dX2_worth_11 ?_
  refine ev_iload_n (pc := 14) dX2_worth_14 rfl (i := 3) rfl ?_
  obtain ⟨h1, hf⟩ := hf
  refine ev_iald (pc := 15) rfl rfl h1 rfl dX2_worth_15 ?_
  refine ev_iconst (pc := 16) (v := 2) dX2_worth_16 kc_2 ?_
  refine ev_idiv (pc := 17) dX2_worth_17 (by decide) ?_
  exact ev_iret (pc := 18) rfl dX2_worth_18 hf
def f_X9_worth_66 (a3 : Int32) (σ : St) (post : Int32 → St → Prop) : Prop := f_X2_worth_66 a3 (st_lo σ 66 ((σ.2 66) + 10)) (fun x2 σ1 => vp_in a3 6 ∧ (post (x2 + (σ1.1 23 a3.toNatClampNeg)) σ1))
set_option maxRecDepth 100000 in
set_option maxHeartbeats 4000000 in
theorem c_X9_worth_66 (a3 : Int32) (σ : St) (post : Int32 → St → Prop) (hf : f_X9_worth_66 a3 σ post) : Ct SX yX9_worth cX9_worth 4 (some .int) 1 (EQi SX post) [.ref 66, .ref 21, .ref 39, .int a3] σ := by
  rw [f_X9_worth_66] at hf
  refine ct_of (by decide) rfl (Nat.le_of_ble_eq_true rfl) ?_
  show Ev SX RX9 cX9_worth 4 (some .int) 1 (EQi SX post) 0 [some (.ref 66), some (.ref 21), some (.ref 39), some (.int a3)] [] σ
  refine ev_aload_n (pc := 0) dX9_worth_0 rfl (i := 0) rfl ?_
  refine ev_dup (pc := 1) dX9_worth_1 rfl ?_
  refine ev_get (pc := 2) fl_X9_7_9_0 rfl (by decide) rfl rfl dX9_worth_2 ?_
  refine ev_ldc2 (pc := 5) wl_X9_13 dX9_worth_5 ?_
  refine ev_ladd (pc := 8) dX9_worth_8 ?_
  refine ev_putl (pc := 9) fp_X9_7_9_0 rfl (by decide) rfl ko_1_0_1 dX9_worth_9 ?_
  refine ev_aload_n (pc := 12) dX9_worth_12 rfl (i := 0) rfl ?_
  refine ev_aload_n (pc := 13) dX9_worth_13 rfl (i := 1) rfl ?_
  refine ev_aload_n (pc := 14) dX9_worth_14 rfl (i := 2) rfl ?_
  refine ev_iload_n (pc := 15) dX9_worth_15 rfl (i := 3) rfl ?_
  refine ev_calli (pc := 16) (stk := []) (ce_U (c_X2_worth_66 a3 (st_lo σ 66 ((σ.2 66) + 10)) _ hf) wu_X9_15_X2_worth rfl (by decide) rfl (by decide) rfl (Nat.le_of_ble_eq_true rfl) rfl dX9_worth_16) (fun x2 σ1 hf => ?_)
  refine ev_aload_n (pc := 19) dX9_worth_19 rfl (i := 1) rfl ?_
  refine ev_get (pc := 20) fl_X9_19_0_4 rfl (by decide) rfl rfl dX9_worth_20 ?_
  refine ev_iload_n (pc := 23) dX9_worth_23 rfl (i := 3) rfl ?_
  obtain ⟨h3, hf⟩ := hf
  refine ev_iald (pc := 24) rfl rfl h3 rfl dX9_worth_24 ?_
  refine ev_iadd (pc := 25) dX9_worth_25 ?_
  exact ev_iret (pc := 26) rfl dX9_worth_26 hf
def f_X2_worth_69 (a3 : Int32) (σ : St) (post : Int32 → St → Prop) : Prop := vp_in a3 6 ∧ (post (((st_lo σ 69 ((σ.2 69) + 1)).1 40 a3.toNatClampNeg) / 2) (st_lo σ 69 ((σ.2 69) + 1)))
set_option maxRecDepth 100000 in
set_option maxHeartbeats 4000000 in
theorem c_X2_worth_69 (a3 : Int32) (σ : St) (post : Int32 → St → Prop) (hf : f_X2_worth_69 a3 σ post) : Ct SX yX2_worth cX2_worth 4 (some .int) 0 (EQi SX post) [.ref 69, .ref 21, .ref 39, .int a3] σ := by
  rw [f_X2_worth_69] at hf
  refine ct_of (by decide) rfl (Nat.le_of_ble_eq_true rfl) ?_
  show Ev SX RX2 cX2_worth 4 (some .int) 0 (EQi SX post) 0 [some (.ref 69), some (.ref 21), some (.ref 39), some (.int a3)] [] σ
  refine ev_aload_n (pc := 0) dX2_worth_0 rfl (i := 0) rfl ?_
  refine ev_dup (pc := 1) dX2_worth_1 rfl ?_
  refine ev_get (pc := 2) fl_X2_7_8_0 rfl (by decide) rfl rfl dX2_worth_2 ?_
  refine ev_lconst (pc := 5) (v := 1) dX2_worth_5 (by decide) ?_
  refine ev_ladd (pc := 6) dX2_worth_6 ?_
  refine ev_putl (pc := 7) fp_X2_7_8_0 rfl (by decide) rfl ko_1_0_1 dX2_worth_7 ?_
  refine ev_aload_n (pc := 10) dX2_worth_10 rfl (i := 2) rfl ?_
  refine ev_get (pc := 11) fl_X2_13_4_0 rfl (by decide) rfl rfl dX2_worth_11 ?_
  refine ev_iload_n (pc := 14) dX2_worth_14 rfl (i := 3) rfl ?_
  obtain ⟨h1, hf⟩ := hf
  refine ev_iald (pc := 15) rfl rfl h1 rfl dX2_worth_15 ?_
  refine ev_iconst (pc := 16) (v := 2) dX2_worth_16 kc_2 ?_
  refine ev_idiv (pc := 17) dX2_worth_17 (by decide) ?_
  exact ev_iret (pc := 18) rfl dX2_worth_18 hf
def f_X6_worth_69 (a3 : Int32) (σ : St) (post : Int32 → St → Prop) : Prop := f_X2_worth_69 a3 (st_lo σ 69 ((σ.2 69) + 100)) (fun x2 σ1 => vp_in a3 6 ∧ (post (x2 - (σ1.1 41 a3.toNatClampNeg)) σ1))
set_option maxRecDepth 100000 in
set_option maxHeartbeats 4000000 in
theorem c_X6_worth_69 (a3 : Int32) (σ : St) (post : Int32 → St → Prop) (hf : f_X6_worth_69 a3 σ post) : Ct SX yX6_worth cX6_worth 4 (some .int) 1 (EQi SX post) [.ref 69, .ref 21, .ref 39, .int a3] σ := by
  rw [f_X6_worth_69] at hf
  refine ct_of (by decide) rfl (Nat.le_of_ble_eq_true rfl) ?_
  show Ev SX RX6 cX6_worth 4 (some .int) 1 (EQi SX post) 0 [some (.ref 69), some (.ref 21), some (.ref 39), some (.int a3)] [] σ
  refine ev_aload_n (pc := 0) dX6_worth_0 rfl (i := 0) rfl ?_
  refine ev_dup (pc := 1) dX6_worth_1 rfl ?_
  refine ev_get (pc := 2) fl_X6_7_8_0 rfl (by decide) rfl rfl dX6_worth_2 ?_
  refine ev_ldc2 (pc := 5) wl_X6_13 dX6_worth_5 ?_
  refine ev_ladd (pc := 8) dX6_worth_8 ?_
  refine ev_putl (pc := 9) fp_X6_7_8_0 rfl (by decide) rfl ko_1_0_1 dX6_worth_9 ?_
  refine ev_aload_n (pc := 12) dX6_worth_12 rfl (i := 0) rfl ?_
  refine ev_aload_n (pc := 13) dX6_worth_13 rfl (i := 1) rfl ?_
  refine ev_aload_n (pc := 14) dX6_worth_14 rfl (i := 2) rfl ?_
  refine ev_iload_n (pc := 15) dX6_worth_15 rfl (i := 3) rfl ?_
  refine ev_calli (pc := 16) (stk := []) (ce_U (c_X2_worth_69 a3 (st_lo σ 69 ((σ.2 69) + 100)) _ hf) wu_X6_15_X2_worth rfl (by decide) rfl (by decide) rfl (Nat.le_of_ble_eq_true rfl) rfl dX6_worth_16) (fun x2 σ1 hf => ?_)
  refine ev_aload_n (pc := 19) dX6_worth_19 rfl (i := 2) rfl ?_
  refine ev_get (pc := 20) fl_X6_19_4_1 rfl (by decide) rfl rfl dX6_worth_20 ?_
  refine ev_iload_n (pc := 23) dX6_worth_23 rfl (i := 3) rfl ?_
  obtain ⟨h3, hf⟩ := hf
  refine ev_iald (pc := 24) rfl rfl h3 rfl dX6_worth_24 ?_
  refine ev_isub (pc := 25) dX6_worth_25 ?_
  exact ev_iret (pc := 26) rfl dX6_worth_26 hf
def f_X8_worth (a3 : Int32) (σ : St) (post : Int32 → St → Prop) : Prop := f_X6_worth_69 a3 (st_lo σ 69 ((σ.2 69) + 10000)) (fun x2 σ1 => f_X0_pullOf a3 ((1 <<< ((σ1.1 21 0) &&& 31)) - 1) σ1 (fun x4 σ3 => post (x2 + x4) σ3))
set_option maxRecDepth 100000 in
set_option maxHeartbeats 4000000 in
theorem c_X8_worth (a3 : Int32) (σ : St) (post : Int32 → St → Prop) (hf : f_X8_worth a3 σ post) : Ct SX yX8_worth cX8_worth 4 (some .int) 2 (EQi SX post) [.ref 69, .ref 21, .ref 39, .int a3] σ := by
  rw [f_X8_worth] at hf
  refine ct_of (by decide) rfl (Nat.le_of_ble_eq_true rfl) ?_
  show Ev SX RX8 cX8_worth 4 (some .int) 2 (EQi SX post) 0 [some (.ref 69), some (.ref 21), some (.ref 39), some (.int a3)] [] σ
  refine ev_aload_n (pc := 0) dX8_worth_0 rfl (i := 0) rfl ?_
  refine ev_dup (pc := 1) dX8_worth_1 rfl ?_
  refine ev_get (pc := 2) fl_X8_7_8_0 rfl (by decide) rfl rfl dX8_worth_2 ?_
  refine ev_ldc2 (pc := 5) wl_X8_13 dX8_worth_5 ?_
  refine ev_ladd (pc := 8) dX8_worth_8 ?_
  refine ev_putl (pc := 9) fp_X8_7_8_0 rfl (by decide) rfl ko_1_0_1 dX8_worth_9 ?_
  refine ev_aload_n (pc := 12) dX8_worth_12 rfl (i := 0) rfl ?_
  refine ev_aload_n (pc := 13) dX8_worth_13 rfl (i := 1) rfl ?_
  refine ev_aload_n (pc := 14) dX8_worth_14 rfl (i := 2) rfl ?_
  refine ev_iload_n (pc := 15) dX8_worth_15 rfl (i := 3) rfl ?_
  refine ev_calli (pc := 16) (stk := []) (ce_U (c_X6_worth_69 a3 (st_lo σ 69 ((σ.2 69) + 10000)) _ hf) wu_X8_15_X6_worth rfl (by decide) rfl (by decide) rfl (Nat.le_of_ble_eq_true rfl) rfl dX8_worth_16) (fun x2 σ1 hf => ?_)
  refine ev_aload_n (pc := 19) dX8_worth_19 rfl (i := 1) rfl ?_
  refine ev_iload_n (pc := 20) dX8_worth_20 rfl (i := 3) rfl ?_
  refine ev_iconst (pc := 21) (v := 1) dX8_worth_21 kc_1 ?_
  refine ev_aload_n (pc := 22) dX8_worth_22 rfl (i := 1) rfl ?_
  refine ev_get (pc := 23) fl_X8_19_0_0 rfl (by decide) rfl rfl dX8_worth_23 ?_
  refine ev_ishl (pc := 26) dX8_worth_26 ?_
  refine ev_iconst (pc := 27) (v := 1) dX8_worth_27 kc_1 ?_
  refine ev_isub (pc := 28) dX8_worth_28 ?_
  refine ev_calli (pc := 29) (stk := [.int x2]) (ce_V (c_X0_pullOf a3 ((1 <<< ((σ1.1 21 0) &&& 31)) - 1) σ1 _ hf) wv_X8_25_X0_pullOf rfl (by decide) rfl (by decide) rfl (Nat.le_of_ble_eq_true rfl) rfl dX8_worth_29) (fun x4 σ3 hf => ?_)
  refine ev_iadd (pc := 32) dX8_worth_32 ?_
  exact ev_iret (pc := 33) rfl dX8_worth_33 hf
def f_X2_worth_68 (a3 : Int32) (σ : St) (post : Int32 → St → Prop) : Prop := vp_in a3 6 ∧ (post (((st_lo σ 68 ((σ.2 68) + 1)).1 40 a3.toNatClampNeg) / 2) (st_lo σ 68 ((σ.2 68) + 1)))
set_option maxRecDepth 100000 in
set_option maxHeartbeats 4000000 in
theorem c_X2_worth_68 (a3 : Int32) (σ : St) (post : Int32 → St → Prop) (hf : f_X2_worth_68 a3 σ post) : Ct SX yX2_worth cX2_worth 4 (some .int) 0 (EQi SX post) [.ref 68, .ref 21, .ref 39, .int a3] σ := by
  rw [f_X2_worth_68] at hf
  refine ct_of (by decide) rfl (Nat.le_of_ble_eq_true rfl) ?_
  show Ev SX RX2 cX2_worth 4 (some .int) 0 (EQi SX post) 0 [some (.ref 68), some (.ref 21), some (.ref 39), some (.int a3)] [] σ
  refine ev_aload_n (pc := 0) dX2_worth_0 rfl (i := 0) rfl ?_
  refine ev_dup (pc := 1) dX2_worth_1 rfl ?_
  refine ev_get (pc := 2) fl_X2_7_7_0 rfl (by decide) rfl rfl dX2_worth_2 ?_
  refine ev_lconst (pc := 5) (v := 1) dX2_worth_5 (by decide) ?_
  refine ev_ladd (pc := 6) dX2_worth_6 ?_
  refine ev_putl (pc := 7) fp_X2_7_7_0 rfl (by decide) rfl ko_1_0_1 dX2_worth_7 ?_
  refine ev_aload_n (pc := 10) dX2_worth_10 rfl (i := 2) rfl ?_
  refine ev_get (pc := 11) fl_X2_13_4_0 rfl (by decide) rfl rfl dX2_worth_11 ?_
  refine ev_iload_n (pc := 14) dX2_worth_14 rfl (i := 3) rfl ?_
  obtain ⟨h1, hf⟩ := hf
  refine ev_iald (pc := 15) rfl rfl h1 rfl dX2_worth_15 ?_
  refine ev_iconst (pc := 16) (v := 2) dX2_worth_16 kc_2 ?_
  refine ev_idiv (pc := 17) dX2_worth_17 (by decide) ?_
  exact ev_iret (pc := 18) rfl dX2_worth_18 hf
def f_X9_worth_68 (a3 : Int32) (σ : St) (post : Int32 → St → Prop) : Prop := f_X2_worth_68 a3 (st_lo σ 68 ((σ.2 68) + 10)) (fun x2 σ1 => vp_in a3 6 ∧ (post (x2 + (σ1.1 23 a3.toNatClampNeg)) σ1))
set_option maxRecDepth 100000 in
set_option maxHeartbeats 4000000 in
theorem c_X9_worth_68 (a3 : Int32) (σ : St) (post : Int32 → St → Prop) (hf : f_X9_worth_68 a3 σ post) : Ct SX yX9_worth cX9_worth 4 (some .int) 1 (EQi SX post) [.ref 68, .ref 21, .ref 39, .int a3] σ := by
  rw [f_X9_worth_68] at hf
  refine ct_of (by decide) rfl (Nat.le_of_ble_eq_true rfl) ?_
  show Ev SX RX9 cX9_worth 4 (some .int) 1 (EQi SX post) 0 [some (.ref 68), some (.ref 21), some (.ref 39), some (.int a3)] [] σ
  refine ev_aload_n (pc := 0) dX9_worth_0 rfl (i := 0) rfl ?_
  refine ev_dup (pc := 1) dX9_worth_1 rfl ?_
  refine ev_get (pc := 2) fl_X9_7_7_0 rfl (by decide) rfl rfl dX9_worth_2 ?_
  refine ev_ldc2 (pc := 5) wl_X9_13 dX9_worth_5 ?_
  refine ev_ladd (pc := 8) dX9_worth_8 ?_
  refine ev_putl (pc := 9) fp_X9_7_7_0 rfl (by decide) rfl ko_1_0_1 dX9_worth_9 ?_
  refine ev_aload_n (pc := 12) dX9_worth_12 rfl (i := 0) rfl ?_
  refine ev_aload_n (pc := 13) dX9_worth_13 rfl (i := 1) rfl ?_
  refine ev_aload_n (pc := 14) dX9_worth_14 rfl (i := 2) rfl ?_
  refine ev_iload_n (pc := 15) dX9_worth_15 rfl (i := 3) rfl ?_
  refine ev_calli (pc := 16) (stk := []) (ce_U (c_X2_worth_68 a3 (st_lo σ 68 ((σ.2 68) + 10)) _ hf) wu_X9_15_X2_worth rfl (by decide) rfl (by decide) rfl (Nat.le_of_ble_eq_true rfl) rfl dX9_worth_16) (fun x2 σ1 hf => ?_)
  refine ev_aload_n (pc := 19) dX9_worth_19 rfl (i := 1) rfl ?_
  refine ev_get (pc := 20) fl_X9_19_0_4 rfl (by decide) rfl rfl dX9_worth_20 ?_
  refine ev_iload_n (pc := 23) dX9_worth_23 rfl (i := 3) rfl ?_
  obtain ⟨h3, hf⟩ := hf
  refine ev_iald (pc := 24) rfl rfl h3 rfl dX9_worth_24 ?_
  refine ev_iadd (pc := 25) dX9_worth_25 ?_
  exact ev_iret (pc := 26) rfl dX9_worth_26 hf
def f_X7_worth (a3 : Int32) (σ : St) (post : Int32 → St → Prop) : Prop := f_X9_worth_68 a3 (st_lo σ 68 ((σ.2 68) + 1000)) (fun x2 σ1 => post (x2 * 2) σ1)
set_option maxRecDepth 100000 in
set_option maxHeartbeats 4000000 in
theorem c_X7_worth (a3 : Int32) (σ : St) (post : Int32 → St → Prop) (hf : f_X7_worth a3 σ post) : Ct SX yX7_worth cX7_worth 4 (some .int) 2 (EQi SX post) [.ref 68, .ref 21, .ref 39, .int a3] σ := by
  rw [f_X7_worth] at hf
  refine ct_of (by decide) rfl (Nat.le_of_ble_eq_true rfl) ?_
  show Ev SX RX7 cX7_worth 4 (some .int) 2 (EQi SX post) 0 [some (.ref 68), some (.ref 21), some (.ref 39), some (.int a3)] [] σ
  refine ev_aload_n (pc := 0) dX7_worth_0 rfl (i := 0) rfl ?_
  refine ev_dup (pc := 1) dX7_worth_1 rfl ?_
  refine ev_get (pc := 2) fl_X7_7_7_0 rfl (by decide) rfl rfl dX7_worth_2 ?_
  refine ev_ldc2 (pc := 5) wl_X7_13 dX7_worth_5 ?_
  refine ev_ladd (pc := 8) dX7_worth_8 ?_
  refine ev_putl (pc := 9) fp_X7_7_7_0 rfl (by decide) rfl ko_1_0_1 dX7_worth_9 ?_
  refine ev_aload_n (pc := 12) dX7_worth_12 rfl (i := 0) rfl ?_
  refine ev_aload_n (pc := 13) dX7_worth_13 rfl (i := 1) rfl ?_
  refine ev_aload_n (pc := 14) dX7_worth_14 rfl (i := 2) rfl ?_
  refine ev_iload_n (pc := 15) dX7_worth_15 rfl (i := 3) rfl ?_
  refine ev_calli (pc := 16) (stk := []) (ce_U (c_X9_worth_68 a3 (st_lo σ 68 ((σ.2 68) + 1000)) _ hf) wu_X7_15_X9_worth rfl (by decide) rfl (by decide) rfl (Nat.le_of_ble_eq_true rfl) rfl dX7_worth_16) (fun x2 σ1 hf => ?_)
  refine ev_iconst (pc := 19) (v := 2) dX7_worth_19 kc_2 ?_
  refine ev_imul (pc := 20) dX7_worth_20 ?_
  exact ev_iret (pc := 21) rfl dX7_worth_21 hf
def f_X2_worth_70 (a3 : Int32) (σ : St) (post : Int32 → St → Prop) : Prop := vp_in a3 6 ∧ (post (((st_lo σ 70 ((σ.2 70) + 1)).1 40 a3.toNatClampNeg) / 2) (st_lo σ 70 ((σ.2 70) + 1)))
set_option maxRecDepth 100000 in
set_option maxHeartbeats 4000000 in
theorem c_X2_worth_70 (a3 : Int32) (σ : St) (post : Int32 → St → Prop) (hf : f_X2_worth_70 a3 σ post) : Ct SX yX2_worth cX2_worth 4 (some .int) 0 (EQi SX post) [.ref 70, .ref 21, .ref 39, .int a3] σ := by
  rw [f_X2_worth_70] at hf
  refine ct_of (by decide) rfl (Nat.le_of_ble_eq_true rfl) ?_
  show Ev SX RX2 cX2_worth 4 (some .int) 0 (EQi SX post) 0 [some (.ref 70), some (.ref 21), some (.ref 39), some (.int a3)] [] σ
  refine ev_aload_n (pc := 0) dX2_worth_0 rfl (i := 0) rfl ?_
  refine ev_dup (pc := 1) dX2_worth_1 rfl ?_
  refine ev_get (pc := 2) fl_X2_7_1_0 rfl (by decide) rfl rfl dX2_worth_2 ?_
  refine ev_lconst (pc := 5) (v := 1) dX2_worth_5 (by decide) ?_
  refine ev_ladd (pc := 6) dX2_worth_6 ?_
  refine ev_putl (pc := 7) fp_X2_7_1_0 rfl (by decide) rfl ko_1_0_1 dX2_worth_7 ?_
  refine ev_aload_n (pc := 10) dX2_worth_10 rfl (i := 2) rfl ?_
  refine ev_get (pc := 11) fl_X2_13_4_0 rfl (by decide) rfl rfl dX2_worth_11 ?_
  refine ev_iload_n (pc := 14) dX2_worth_14 rfl (i := 3) rfl ?_
  obtain ⟨h1, hf⟩ := hf
  refine ev_iald (pc := 15) rfl rfl h1 rfl dX2_worth_15 ?_
  refine ev_iconst (pc := 16) (v := 2) dX2_worth_16 kc_2 ?_
  refine ev_idiv (pc := 17) dX2_worth_17 (by decide) ?_
  exact ev_iret (pc := 18) rfl dX2_worth_18 hf
def f_X1_worth (a3 : Int32) (σ : St) (post : Int32 → St → Prop) : Prop := f_X2_worth_70 a3 (st_lo σ 70 ((σ.2 70) + 100000)) (fun x2 σ1 => post (x2 + (σ1.1 39 3)) σ1)
set_option maxRecDepth 100000 in
set_option maxHeartbeats 4000000 in
theorem c_X1_worth (a3 : Int32) (σ : St) (post : Int32 → St → Prop) (hf : f_X1_worth a3 σ post) : Ct SX yX1_worth cX1_worth 4 (some .int) 1 (EQi SX post) [.ref 70, .ref 21, .ref 39, .int a3] σ := by
  rw [f_X1_worth] at hf
  refine ct_of (by decide) rfl (Nat.le_of_ble_eq_true rfl) ?_
  show Ev SX RX1 cX1_worth 4 (some .int) 1 (EQi SX post) 0 [some (.ref 70), some (.ref 21), some (.ref 39), some (.int a3)] [] σ
  refine ev_aload_n (pc := 0) dX1_worth_0 rfl (i := 0) rfl ?_
  refine ev_dup (pc := 1) dX1_worth_1 rfl ?_
  refine ev_get (pc := 2) fl_X1_7_1_0 rfl (by decide) rfl rfl dX1_worth_2 ?_
  refine ev_ldc2 (pc := 5) wl_X1_13 dX1_worth_5 ?_
  refine ev_ladd (pc := 8) dX1_worth_8 ?_
  refine ev_putl (pc := 9) fp_X1_7_1_0 rfl (by decide) rfl ko_1_0_1 dX1_worth_9 ?_
  refine ev_aload_n (pc := 12) dX1_worth_12 rfl (i := 0) rfl ?_
  refine ev_aload_n (pc := 13) dX1_worth_13 rfl (i := 1) rfl ?_
  refine ev_aload_n (pc := 14) dX1_worth_14 rfl (i := 2) rfl ?_
  refine ev_iload_n (pc := 15) dX1_worth_15 rfl (i := 3) rfl ?_
  refine ev_calli (pc := 16) (stk := []) (ce_U (c_X2_worth_70 a3 (st_lo σ 70 ((σ.2 70) + 100000)) _ hf) wu_X1_15_X2_worth rfl (by decide) rfl (by decide) rfl (Nat.le_of_ble_eq_true rfl) rfl dX1_worth_16) (fun x2 σ1 hf => ?_)
  refine ev_aload_n (pc := 19) dX1_worth_19 rfl (i := 2) rfl ?_
  refine ev_get (pc := 20) fl_X1_19_4_3 rfl (by decide) rfl rfl dX1_worth_20 ?_
  refine ev_iadd (pc := 23) dX1_worth_23 ?_
  exact ev_iret (pc := 24) rfl dX1_worth_24 hf
def f_X11_mark (a1 : Int32) (a2 : Int32) (σ : St) (post : Int32 → St → Prop) : Prop := (a1 < 0 → (post (-1000000) σ)) ∧ (¬ a1 < 0 → ((6 ≤ a1 → (post (-1000000) σ)) ∧ (¬ 6 ≤ a1 → (f_X0_isMan a2 σ (fun x4 σ3 => (¬ x4 = 0 → (vp_in a1 6 ∧ ((a1 = 0 → (f_X2_worth_65 a2 σ3 (fun x14 σ13 => post x14 σ13))) ∧ (a1 = 1 → (f_X9_worth_66 a2 σ3 (fun x16 σ15 => post x16 σ15))) ∧ (a1 = 2 → (f_X6_worth_67 a2 σ3 (fun x18 σ17 => post x18 σ17))) ∧ (a1 = 3 → (f_X7_worth a2 σ3 (fun x20 σ19 => post x20 σ19))) ∧ (a1 = 4 → (f_X8_worth a2 σ3 (fun x22 σ21 => post x22 σ21))) ∧ (a1 = 5 → (f_X1_worth a2 σ3 (fun x24 σ23 => post x24 σ23)))))) ∧ (x4 = 0 → (post (-1000000) σ3)))))))
set_option maxRecDepth 100000 in
set_option maxHeartbeats 4000000 in
theorem c_X11_mark (a1 : Int32) (a2 : Int32) (σ : St) (post : Int32 → St → Prop) (hf : f_X11_mark a1 a2 σ post) : Ct SX yX11_mark cX11_mark 3 (some .int) 3 (EQi SX post) [.ref 0, .int a1, .int a2] σ := by
  rw [f_X11_mark] at hf
  refine ct_of (by decide) rfl (Nat.le_of_ble_eq_true rfl) ?_
  show Ev SX RX11 cX11_mark 3 (some .int) 3 (EQi SX post) 0 [some (.ref 0), some (.int a1), some (.int a2)] [] σ
  refine ev_iload_n (pc := 0) dX11_mark_0 rfl (i := 1) rfl ?_
  refine ev_if_lt (pc := 1) (tgt := 24) dX11_mark_1 (by decide) (fun c1 => ?_) (fun c1 => ?_)
  · have hf := hf.1 c1
    refine ev_ldc (pc := 24) wk_X11_148 dX11_mark_24 ?_
    exact ev_iret (pc := 26) rfl dX11_mark_26 hf
  · have hf := hf.2 c1
    refine ev_iload_n (pc := 4) dX11_mark_4 rfl (i := 1) rfl ?_
    refine ev_aload_n (pc := 5) dX11_mark_5 rfl (i := 0) rfl ?_
    refine ev_get (pc := 6) fl_X11_73_11_8 rfl (by decide) rfl rfl dX11_mark_6 ?_
    refine ev_alenr (pc := 9) (v := 6) (t := 3) rfl rfl rfl (by decide) dX11_mark_9 ?_
    refine ev_icmp_ge (pc := 10) (tgt := 24) dX11_mark_10 (by decide) (fun c2 => ?_) (fun c2 => ?_)
    · have hf := hf.1 c2
      refine ev_ldc (pc := 24) wk_X11_148 dX11_mark_24 ?_
      exact ev_iret (pc := 26) rfl dX11_mark_26 hf
    · have hf := hf.2 c2
      refine ev_aload_n (pc := 13) dX11_mark_13 rfl (i := 0) rfl ?_
      refine ev_get (pc := 14) fl_X11_23_11_2 rfl (by decide) rfl rfl dX11_mark_14 ?_
      refine ev_iload_n (pc := 17) dX11_mark_17 rfl (i := 2) rfl ?_
      refine ev_calli (pc := 18) (stk := []) (ce_V (c_X0_isMan a2 σ _ hf) wv_X11_127_X0_isMan rfl (by decide) rfl (by decide) rfl (Nat.le_of_ble_eq_true rfl) rfl dX11_mark_18) (fun x4 σ3 hf => ?_)
      refine ev_if_ne (pc := 21) (tgt := 27) dX11_mark_21 (by decide) (fun c5 => ?_) (fun c5 => ?_)
      · have hf := hf.1 c5
        refine ev_aload_n (pc := 27) dX11_mark_27 rfl (i := 0) rfl ?_
        refine ev_get (pc := 28) fl_X11_73_11_8 rfl (by decide) rfl rfl dX11_mark_28 ?_
        refine ev_iload_n (pc := 31) dX11_mark_31 rfl (i := 1) rfl ?_
        obtain ⟨h6, hf⟩ := hf
        rcases kx_6 h6 with e7 | e8 | e9 | e10 | e11 | e12
        · have hf := hf.1 e7
          refine ev_aald (pc := 32) (t := 3) rfl rfl rfl rfl h6 (j := 0) (by rw [e7]; decide) dX11_mark_32 ?_
          refine ev_aload_n (pc := 33) dX11_mark_33 rfl (i := 0) rfl ?_
          refine ev_get (pc := 34) fl_X11_23_11_2 rfl (by decide) rfl rfl dX11_mark_34 ?_
          refine ev_aload_n (pc := 37) dX11_mark_37 rfl (i := 0) rfl ?_
          refine ev_get (pc := 38) fl_X11_29_11_3 rfl (by decide) rfl rfl dX11_mark_38 ?_
          refine ev_iload_n (pc := 41) dX11_mark_41 rfl (i := 2) rfl ?_
          refine ev_calli (pc := 42) (stk := []) (ce_V (c_X2_worth_65 a2 σ3 _ hf) wv_X11_253_X2_worth rfl (by decide) rfl (by decide) rfl (Nat.le_of_ble_eq_true rfl) rfl dX11_mark_42) (fun x14 σ13 hf => ?_)
          exact ev_iret (pc := 45) rfl dX11_mark_45 hf
        · have hf := hf.2.1 e8
          refine ev_aald (pc := 32) (t := 3) rfl rfl rfl rfl h6 (j := 1) (by rw [e8]; decide) dX11_mark_32 ?_
          refine ev_aload_n (pc := 33) dX11_mark_33 rfl (i := 0) rfl ?_
          refine ev_get (pc := 34) fl_X11_23_11_2 rfl (by decide) rfl rfl dX11_mark_34 ?_
          refine ev_aload_n (pc := 37) dX11_mark_37 rfl (i := 0) rfl ?_
          refine ev_get (pc := 38) fl_X11_29_11_3 rfl (by decide) rfl rfl dX11_mark_38 ?_
          refine ev_iload_n (pc := 41) dX11_mark_41 rfl (i := 2) rfl ?_
          refine ev_calli (pc := 42) (stk := []) (ce_O (c_X9_worth_66 a2 σ3 _ hf) wo_X11_253_X9_worth rfl (by decide) rfl (by decide) rfl (Nat.le_of_ble_eq_true rfl) rfl dX11_mark_42) (fun x16 σ15 hf => ?_)
          exact ev_iret (pc := 45) rfl dX11_mark_45 hf
        · have hf := hf.2.2.1 e9
          refine ev_aald (pc := 32) (t := 3) rfl rfl rfl rfl h6 (j := 2) (by rw [e9]; decide) dX11_mark_32 ?_
          refine ev_aload_n (pc := 33) dX11_mark_33 rfl (i := 0) rfl ?_
          refine ev_get (pc := 34) fl_X11_23_11_2 rfl (by decide) rfl rfl dX11_mark_34 ?_
          refine ev_aload_n (pc := 37) dX11_mark_37 rfl (i := 0) rfl ?_
          refine ev_get (pc := 38) fl_X11_29_11_3 rfl (by decide) rfl rfl dX11_mark_38 ?_
          refine ev_iload_n (pc := 41) dX11_mark_41 rfl (i := 2) rfl ?_
          refine ev_calli (pc := 42) (stk := []) (ce_O (c_X6_worth_67 a2 σ3 _ hf) wo_X11_253_X6_worth rfl (by decide) rfl (by decide) rfl (Nat.le_of_ble_eq_true rfl) rfl dX11_mark_42) (fun x18 σ17 hf => ?_)
          exact ev_iret (pc := 45) rfl dX11_mark_45 hf
        · have hf := hf.2.2.2.1 e10
          refine ev_aald (pc := 32) (t := 3) rfl rfl rfl rfl h6 (j := 3) (by rw [e10]; decide) dX11_mark_32 ?_
          refine ev_aload_n (pc := 33) dX11_mark_33 rfl (i := 0) rfl ?_
          refine ev_get (pc := 34) fl_X11_23_11_2 rfl (by decide) rfl rfl dX11_mark_34 ?_
          refine ev_aload_n (pc := 37) dX11_mark_37 rfl (i := 0) rfl ?_
          refine ev_get (pc := 38) fl_X11_29_11_3 rfl (by decide) rfl rfl dX11_mark_38 ?_
          refine ev_iload_n (pc := 41) dX11_mark_41 rfl (i := 2) rfl ?_
          refine ev_calli (pc := 42) (stk := []) (ce_O (c_X7_worth a2 σ3 _ hf) wo_X11_253_X7_worth rfl (by decide) rfl (by decide) rfl (Nat.le_of_ble_eq_true rfl) rfl dX11_mark_42) (fun x20 σ19 hf => ?_)
          exact ev_iret (pc := 45) rfl dX11_mark_45 hf
        · have hf := hf.2.2.2.2.1 e11
          refine ev_aald (pc := 32) (t := 3) rfl rfl rfl rfl h6 (j := 4) (by rw [e11]; decide) dX11_mark_32 ?_
          refine ev_aload_n (pc := 33) dX11_mark_33 rfl (i := 0) rfl ?_
          refine ev_get (pc := 34) fl_X11_23_11_2 rfl (by decide) rfl rfl dX11_mark_34 ?_
          refine ev_aload_n (pc := 37) dX11_mark_37 rfl (i := 0) rfl ?_
          refine ev_get (pc := 38) fl_X11_29_11_3 rfl (by decide) rfl rfl dX11_mark_38 ?_
          refine ev_iload_n (pc := 41) dX11_mark_41 rfl (i := 2) rfl ?_
          refine ev_calli (pc := 42) (stk := []) (ce_O (c_X8_worth a2 σ3 _ hf) wo_X11_253_X8_worth rfl (by decide) rfl (by decide) rfl (Nat.le_of_ble_eq_true rfl) rfl dX11_mark_42) (fun x22 σ21 hf => ?_)
          exact ev_iret (pc := 45) rfl dX11_mark_45 hf
        · have hf := hf.2.2.2.2.2 e12
          refine ev_aald (pc := 32) (t := 3) rfl rfl rfl rfl h6 (j := 5) (by rw [e12]; decide) dX11_mark_32 ?_
          refine ev_aload_n (pc := 33) dX11_mark_33 rfl (i := 0) rfl ?_
          refine ev_get (pc := 34) fl_X11_23_11_2 rfl (by decide) rfl rfl dX11_mark_34 ?_
          refine ev_aload_n (pc := 37) dX11_mark_37 rfl (i := 0) rfl ?_
          refine ev_get (pc := 38) fl_X11_29_11_3 rfl (by decide) rfl rfl dX11_mark_38 ?_
          refine ev_iload_n (pc := 41) dX11_mark_41 rfl (i := 2) rfl ?_
          refine ev_calli (pc := 42) (stk := []) (ce_O (c_X1_worth a2 σ3 _ hf) wo_X11_253_X1_worth rfl (by decide) rfl (by decide) rfl (Nat.le_of_ble_eq_true rfl) rfl dX11_mark_42) (fun x24 σ23 hf => ?_)
          exact ev_iret (pc := 45) rfl dX11_mark_45 hf
      · have hf := hf.2 c5
        refine ev_ldc (pc := 24) wk_X11_148 dX11_mark_24 ?_
        exact ev_iret (pc := 26) rfl dX11_mark_26 hf
def f_X4_becomes_44_39 (σ : St) (post : St → Prop) : Prop := ∀ σ1 : St, σ1 = (st_row σ 46 (va_cpy (σ.1 40) (σ.1 46) 0 0 6)) → (∀ σ2 : St, σ2 = (st_row σ1 47 (va_cpy (σ1.1 41) (σ1.1 47) 0 0 6)) → (∀ σ3 : St, σ3 = (st_row σ2 48 (va_cpy (σ2.1 42) (σ2.1 48) 0 0 140)) → (∀ σ4 : St, σ4 = (st_up σ3 44 2 ((st_row σ2 48 (va_cpy (σ2.1 42) (σ2.1 48) 0 0 140)).1 39 2)) → (∀ σ5 : St, σ5 = (st_up σ4 44 3 ((st_up σ3 44 2 ((st_row σ2 48 (va_cpy (σ2.1 42) (σ2.1 48) 0 0 140)).1 39 2)).1 39 3)) → (post (st_up σ5 44 4 ((st_up σ4 44 3 ((st_up σ3 44 2 ((st_row σ2 48 (va_cpy (σ2.1 42) (σ2.1 48) 0 0 140)).1 39 2)).1 39 3)).1 39 4)))))))
set_option maxRecDepth 100000 in
set_option maxHeartbeats 4000000 in
theorem c_X4_becomes_44_39 (σ : St) (post : St → Prop) (hf : f_X4_becomes_44_39 σ post) : Ct SX yX4_becomes cX4_becomes 2 none 1 (EQv SX post) [.ref 44, .ref 39] σ := by
  rw [f_X4_becomes_44_39] at hf
  refine ct_of (by decide) rfl (Nat.le_of_ble_eq_true rfl) ?_
  show Ev SX RX4 cX4_becomes 2 none 1 (EQv SX post) 0 [some (.ref 44), some (.ref 39)] [] σ
  refine ev_aload_n (pc := 0) dX4_becomes_0 rfl (i := 1) rfl ?_
  refine ev_get (pc := 1) fl_X4_9_4_0 rfl (by decide) rfl rfl dX4_becomes_1 ?_
  refine ev_iconst (pc := 4) (v := 0) dX4_becomes_4 kc_0 ?_
  refine ev_aload_n (pc := 5) dX4_becomes_5 rfl (i := 0) rfl ?_
  refine ev_get (pc := 6) fl_X4_9_4_0 rfl (by decide) rfl rfl dX4_becomes_6 ?_
  refine ev_iconst (pc := 9) (v := 0) dX4_becomes_9 kc_0 ?_
  refine ev_bipush (pc := 10) (v := 6) dX4_becomes_10 kb_6 ?_
  refine ev_copy (pc := 12) wcp_X4_24 rfl rfl rfl (by decide) kn_0 kn_0 kn_6 (by omega) (Nat.le_of_ble_eq_true rfl) dX4_becomes_12 ?_
  refine ev_aload_n (pc := 15) dX4_becomes_15 rfl (i := 1) rfl ?_
  refine ev_get (pc := 16) fl_X4_15_4_1 rfl (by decide) rfl rfl dX4_becomes_16 ?_
  refine ev_iconst (pc := 19) (v := 0) dX4_becomes_19 kc_0 ?_
  refine ev_aload_n (pc := 20) dX4_becomes_20 rfl (i := 0) rfl ?_
  refine ev_get (pc := 21) fl_X4_15_4_1 rfl (by decide) rfl rfl dX4_becomes_21 ?_
  refine ev_iconst (pc := 24) (v := 0) dX4_becomes_24 kc_0 ?_
  refine ev_bipush (pc := 25) (v := 6) dX4_becomes_25 kb_6 ?_
  refine ev_nm (fun σ1 q1 => ?_)
  have hf := hf σ1 q1
  refine ev_copy (pc := 27) wcp_X4_24 rfl rfl rfl (by decide) kn_0 kn_0 kn_6 (by omega) (Nat.le_of_ble_eq_true rfl) dX4_becomes_27 ?_
  refine ev_aload_n (pc := 30) dX4_becomes_30 rfl (i := 1) rfl ?_
  refine ev_get (pc := 31) fl_X4_18_4_5 rfl (by decide) rfl rfl dX4_becomes_31 ?_
  refine ev_iconst (pc := 34) (v := 0) dX4_becomes_34 kc_0 ?_
  refine ev_aload_n (pc := 35) dX4_becomes_35 rfl (i := 0) rfl ?_
  refine ev_get (pc := 36) fl_X4_18_4_5 rfl (by decide) rfl rfl dX4_becomes_36 ?_
  refine ev_iconst (pc := 39) (v := 0) dX4_becomes_39 kc_0 ?_
  refine ev_aload_n (pc := 40) dX4_becomes_40 rfl (i := 0) rfl ?_
  refine ev_get (pc := 41) fl_X4_18_4_5 rfl (by decide) rfl rfl dX4_becomes_41 ?_
  refine ev_alen (pc := 44) (v := 140) (t := 0) rfl rfl rfl (by decide) dX4_becomes_44 ?_
  refine ev_nm (fun σ2 q2 => ?_)
  have hf := hf σ2 q2
  refine ev_copy (pc := 45) wcp_X4_24 rfl rfl rfl (by decide) kn_0 kn_0 kn_140 (by omega) (Nat.le_of_ble_eq_true rfl) dX4_becomes_45 ?_
  refine ev_aload_n (pc := 48) dX4_becomes_48 rfl (i := 0) rfl ?_
  refine ev_aload_n (pc := 49) dX4_becomes_49 rfl (i := 1) rfl ?_
  refine ev_get (pc := 50) fl_X4_36_4_2 rfl (by decide) rfl rfl dX4_becomes_50 ?_
  refine ev_nm (fun σ3 q3 => ?_)
  have hf := hf σ3 q3
  refine ev_puti (pc := 53) fp_X4_36_4_2 rfl (by decide) rfl rfl rfl dX4_becomes_53 ?_
  refine ev_aload_n (pc := 56) dX4_becomes_56 rfl (i := 0) rfl ?_
  refine ev_aload_n (pc := 57) dX4_becomes_57 rfl (i := 1) rfl ?_
  refine ev_get (pc := 58) fl_X4_40_4_3 rfl (by decide) rfl rfl dX4_becomes_58 ?_
  refine ev_nm (fun σ4 q4 => ?_)
  have hf := hf σ4 q4
  refine ev_puti (pc := 61) fp_X4_40_4_3 rfl (by decide) rfl rfl rfl dX4_becomes_61 ?_
  refine ev_aload_n (pc := 64) dX4_becomes_64 rfl (i := 0) rfl ?_
  refine ev_aload_n (pc := 65) dX4_becomes_65 rfl (i := 1) rfl ?_
  refine ev_get (pc := 66) fl_X4_43_4_4 rfl (by decide) rfl rfl dX4_becomes_66 ?_
  refine ev_nm (fun σ5 q5 => ?_)
  have hf := hf σ5 q5
  refine ev_puti (pc := 69) fp_X4_43_4_4 rfl (by decide) rfl rfl rfl dX4_becomes_69 ?_
  exact ev_vret (pc := 72) rfl dX4_becomes_72 hf
def f_X4_becomes_45_39 (σ : St) (post : St → Prop) : Prop := ∀ σ1 : St, σ1 = (st_row σ 49 (va_cpy (σ.1 40) (σ.1 49) 0 0 6)) → (∀ σ2 : St, σ2 = (st_row σ1 50 (va_cpy (σ1.1 41) (σ1.1 50) 0 0 6)) → (∀ σ3 : St, σ3 = (st_row σ2 51 (va_cpy (σ2.1 42) (σ2.1 51) 0 0 140)) → (∀ σ4 : St, σ4 = (st_up σ3 45 2 ((st_row σ2 51 (va_cpy (σ2.1 42) (σ2.1 51) 0 0 140)).1 39 2)) → (∀ σ5 : St, σ5 = (st_up σ4 45 3 ((st_up σ3 45 2 ((st_row σ2 51 (va_cpy (σ2.1 42) (σ2.1 51) 0 0 140)).1 39 2)).1 39 3)) → (post (st_up σ5 45 4 ((st_up σ4 45 3 ((st_up σ3 45 2 ((st_row σ2 51 (va_cpy (σ2.1 42) (σ2.1 51) 0 0 140)).1 39 2)).1 39 3)).1 39 4)))))))
set_option maxRecDepth 100000 in
set_option maxHeartbeats 4000000 in
theorem c_X4_becomes_45_39 (σ : St) (post : St → Prop) (hf : f_X4_becomes_45_39 σ post) : Ct SX yX4_becomes cX4_becomes 2 none 1 (EQv SX post) [.ref 45, .ref 39] σ := by
  rw [f_X4_becomes_45_39] at hf
  refine ct_of (by decide) rfl (Nat.le_of_ble_eq_true rfl) ?_
  show Ev SX RX4 cX4_becomes 2 none 1 (EQv SX post) 0 [some (.ref 45), some (.ref 39)] [] σ
  refine ev_aload_n (pc := 0) dX4_becomes_0 rfl (i := 1) rfl ?_
  refine ev_get (pc := 1) fl_X4_9_4_0 rfl (by decide) rfl rfl dX4_becomes_1 ?_
  refine ev_iconst (pc := 4) (v := 0) dX4_becomes_4 kc_0 ?_
  refine ev_aload_n (pc := 5) dX4_becomes_5 rfl (i := 0) rfl ?_
  refine ev_get (pc := 6) fl_X4_9_4_0 rfl (by decide) rfl rfl dX4_becomes_6 ?_
  refine ev_iconst (pc := 9) (v := 0) dX4_becomes_9 kc_0 ?_
  refine ev_bipush (pc := 10) (v := 6) dX4_becomes_10 kb_6 ?_
  refine ev_copy (pc := 12) wcp_X4_24 rfl rfl rfl (by decide) kn_0 kn_0 kn_6 (by omega) (Nat.le_of_ble_eq_true rfl) dX4_becomes_12 ?_
  refine ev_aload_n (pc := 15) dX4_becomes_15 rfl (i := 1) rfl ?_
  refine ev_get (pc := 16) fl_X4_15_4_1 rfl (by decide) rfl rfl dX4_becomes_16 ?_
  refine ev_iconst (pc := 19) (v := 0) dX4_becomes_19 kc_0 ?_
  refine ev_aload_n (pc := 20) dX4_becomes_20 rfl (i := 0) rfl ?_
  refine ev_get (pc := 21) fl_X4_15_4_1 rfl (by decide) rfl rfl dX4_becomes_21 ?_
  refine ev_iconst (pc := 24) (v := 0) dX4_becomes_24 kc_0 ?_
  refine ev_bipush (pc := 25) (v := 6) dX4_becomes_25 kb_6 ?_
  refine ev_nm (fun σ1 q1 => ?_)
  have hf := hf σ1 q1
  refine ev_copy (pc := 27) wcp_X4_24 rfl rfl rfl (by decide) kn_0 kn_0 kn_6 (by omega) (Nat.le_of_ble_eq_true rfl) dX4_becomes_27 ?_
  refine ev_aload_n (pc := 30) dX4_becomes_30 rfl (i := 1) rfl ?_
  refine ev_get (pc := 31) fl_X4_18_4_5 rfl (by decide) rfl rfl dX4_becomes_31 ?_
  refine ev_iconst (pc := 34) (v := 0) dX4_becomes_34 kc_0 ?_
  refine ev_aload_n (pc := 35) dX4_becomes_35 rfl (i := 0) rfl ?_
  refine ev_get (pc := 36) fl_X4_18_4_5 rfl (by decide) rfl rfl dX4_becomes_36 ?_
  refine ev_iconst (pc := 39) (v := 0) dX4_becomes_39 kc_0 ?_
  refine ev_aload_n (pc := 40) dX4_becomes_40 rfl (i := 0) rfl ?_
  refine ev_get (pc := 41) fl_X4_18_4_5 rfl (by decide) rfl rfl dX4_becomes_41 ?_
  refine ev_alen (pc := 44) (v := 140) (t := 0) rfl rfl rfl (by decide) dX4_becomes_44 ?_
  refine ev_nm (fun σ2 q2 => ?_)
  have hf := hf σ2 q2
  refine ev_copy (pc := 45) wcp_X4_24 rfl rfl rfl (by decide) kn_0 kn_0 kn_140 (by omega) (Nat.le_of_ble_eq_true rfl) dX4_becomes_45 ?_
  refine ev_aload_n (pc := 48) dX4_becomes_48 rfl (i := 0) rfl ?_
  refine ev_aload_n (pc := 49) dX4_becomes_49 rfl (i := 1) rfl ?_
  refine ev_get (pc := 50) fl_X4_36_4_2 rfl (by decide) rfl rfl dX4_becomes_50 ?_
  refine ev_nm (fun σ3 q3 => ?_)
  have hf := hf σ3 q3
  refine ev_puti (pc := 53) fp_X4_36_4_2 rfl (by decide) rfl rfl rfl dX4_becomes_53 ?_
  refine ev_aload_n (pc := 56) dX4_becomes_56 rfl (i := 0) rfl ?_
  refine ev_aload_n (pc := 57) dX4_becomes_57 rfl (i := 1) rfl ?_
  refine ev_get (pc := 58) fl_X4_40_4_3 rfl (by decide) rfl rfl dX4_becomes_58 ?_
  refine ev_nm (fun σ4 q4 => ?_)
  have hf := hf σ4 q4
  refine ev_puti (pc := 61) fp_X4_40_4_3 rfl (by decide) rfl rfl rfl dX4_becomes_61 ?_
  refine ev_aload_n (pc := 64) dX4_becomes_64 rfl (i := 0) rfl ?_
  refine ev_aload_n (pc := 65) dX4_becomes_65 rfl (i := 1) rfl ?_
  refine ev_get (pc := 66) fl_X4_43_4_4 rfl (by decide) rfl rfl dX4_becomes_66 ?_
  refine ev_nm (fun σ5 q5 => ?_)
  have hf := hf σ5 q5
  refine ev_puti (pc := 69) fp_X4_43_4_4 rfl (by decide) rfl rfl rfl dX4_becomes_69 ?_
  exact ev_vret (pc := 72) rfl dX4_becomes_72 hf
def f_X11_keep (a1 : Int32) (σ : St) (post : Int32 → St → Prop) : Prop := (a1 < 0 → (post (-1) σ)) ∧ (¬ a1 < 0 → ((a1 < 2 → (vp_in a1 2 ∧ ((a1 = 0 → (f_X4_becomes_44_39 σ (fun σ6 => vp_in a1 2 ∧ (post ((st_up σ6 52 a1.toNatClampNeg 1).1 39 3) (st_up σ6 52 a1.toNatClampNeg 1))))) ∧ (a1 = 1 → (f_X4_becomes_45_39 σ (fun σ9 => vp_in a1 2 ∧ (post ((st_up σ9 52 a1.toNatClampNeg 1).1 39 3) (st_up σ9 52 a1.toNatClampNeg 1)))))))) ∧ (¬ a1 < 2 → (post (-1) σ))))
set_option maxRecDepth 100000 in
set_option maxHeartbeats 4000000 in
theorem c_X11_keep (a1 : Int32) (σ : St) (post : Int32 → St → Prop) (hf : f_X11_keep a1 σ post) : Ct SX yX11_keep cX11_keep 2 (some .int) 2 (EQi SX post) [.ref 0, .int a1] σ := by
  rw [f_X11_keep] at hf
  refine ct_of (by decide) rfl (Nat.le_of_ble_eq_true rfl) ?_
  show Ev SX RX11 cX11_keep 2 (some .int) 2 (EQi SX post) 0 [some (.ref 0), some (.int a1)] [] σ
  refine ev_iload_n (pc := 0) dX11_keep_0 rfl (i := 1) rfl ?_
  refine ev_if_lt (pc := 1) (tgt := 9) dX11_keep_1 (by decide) (fun c1 => ?_) (fun c1 => ?_)
  · have hf := hf.1 c1
    refine ev_iconst (pc := 9) (v := (-1)) dX11_keep_9 kc_m1 ?_
    exact ev_iret (pc := 10) rfl dX11_keep_10 hf
  · have hf := hf.2 c1
    refine ev_iload_n (pc := 4) dX11_keep_4 rfl (i := 1) rfl ?_
    refine ev_iconst (pc := 5) (v := 2) dX11_keep_5 kc_2 ?_
    refine ev_icmp_lt (pc := 6) (tgt := 11) dX11_keep_6 (by decide) (fun c2 => ?_) (fun c2 => ?_)
    · have hf := hf.1 c2
      refine ev_aload_n (pc := 11) dX11_keep_11 rfl (i := 0) rfl ?_
      refine ev_get (pc := 12) fl_X11_33_11_4 rfl (by decide) rfl rfl dX11_keep_12 ?_
      refine ev_iload_n (pc := 15) dX11_keep_15 rfl (i := 1) rfl ?_
      obtain ⟨h3, hf⟩ := hf
      rcases kx_2 h3 with e4 | e5
      · have hf := hf.1 e4
        refine ev_aald (pc := 16) (t := 2) rfl rfl rfl rfl h3 (j := 0) (by rw [e4]; decide) dX11_keep_16 ?_
        refine ev_aload_n (pc := 17) dX11_keep_17 rfl (i := 0) rfl ?_
        refine ev_get (pc := 18) fl_X11_29_11_3 rfl (by decide) rfl rfl dX11_keep_18 ?_
        refine ev_callv (pc := 21) (stk := []) (ce_V (c_X4_becomes_44_39 σ _ hf) wv_X11_257_X4_becomes rfl (by decide) rfl (by decide) rfl (Nat.le_of_ble_eq_true rfl) rfl dX11_keep_21) (fun σ6 hf => ?_)
        refine ev_aload_n (pc := 24) dX11_keep_24 rfl (i := 0) rfl ?_
        refine ev_get (pc := 25) fl_X11_37_11_5 rfl (by decide) rfl rfl dX11_keep_25 ?_
        refine ev_iload_n (pc := 28) dX11_keep_28 rfl (i := 1) rfl ?_
        refine ev_iconst (pc := 29) (v := 1) dX11_keep_29 kc_1 ?_
        obtain ⟨h8, hf⟩ := hf
        refine ev_zast (pc := 30) rfl (t := 1) rfl rfl h8 rfl (x' := 1) rfl dX11_keep_30 ?_
        refine ev_aload_n (pc := 31) dX11_keep_31 rfl (i := 0) rfl ?_
        refine ev_get (pc := 32) fl_X11_29_11_3 rfl (by decide) rfl rfl dX11_keep_32 ?_
        refine ev_get (pc := 35) fl_X11_152_4_3 rfl (by decide) rfl rfl dX11_keep_35 ?_
        exact ev_iret (pc := 38) rfl dX11_keep_38 hf
      · have hf := hf.2 e5
        refine ev_aald (pc := 16) (t := 2) rfl rfl rfl rfl h3 (j := 1) (by rw [e5]; decide) dX11_keep_16 ?_
        refine ev_aload_n (pc := 17) dX11_keep_17 rfl (i := 0) rfl ?_
        refine ev_get (pc := 18) fl_X11_29_11_3 rfl (by decide) rfl rfl dX11_keep_18 ?_
        refine ev_callv (pc := 21) (stk := []) (ce_V (c_X4_becomes_45_39 σ _ hf) wv_X11_257_X4_becomes rfl (by decide) rfl (by decide) rfl (Nat.le_of_ble_eq_true rfl) rfl dX11_keep_21) (fun σ9 hf => ?_)
        refine ev_aload_n (pc := 24) dX11_keep_24 rfl (i := 0) rfl ?_
        refine ev_get (pc := 25) fl_X11_37_11_5 rfl (by decide) rfl rfl dX11_keep_25 ?_
        refine ev_iload_n (pc := 28) dX11_keep_28 rfl (i := 1) rfl ?_
        refine ev_iconst (pc := 29) (v := 1) dX11_keep_29 kc_1 ?_
        obtain ⟨h11, hf⟩ := hf
        refine ev_zast (pc := 30) rfl (t := 1) rfl rfl h11 rfl (x' := 1) rfl dX11_keep_30 ?_
        refine ev_aload_n (pc := 31) dX11_keep_31 rfl (i := 0) rfl ?_
        refine ev_get (pc := 32) fl_X11_29_11_3 rfl (by decide) rfl rfl dX11_keep_32 ?_
        refine ev_get (pc := 35) fl_X11_152_4_3 rfl (by decide) rfl rfl dX11_keep_35 ?_
        exact ev_iret (pc := 38) rfl dX11_keep_38 hf
    · have hf := hf.2 c2
      refine ev_iconst (pc := 9) (v := (-1)) dX11_keep_9 kc_m1 ?_
      exact ev_iret (pc := 10) rfl dX11_keep_10 hf
def f_X4_becomes_39_45 (σ : St) (post : St → Prop) : Prop := ∀ σ1 : St, σ1 = (st_row σ 40 (va_cpy (σ.1 49) (σ.1 40) 0 0 6)) → (∀ σ2 : St, σ2 = (st_row σ1 41 (va_cpy (σ1.1 50) (σ1.1 41) 0 0 6)) → (∀ σ3 : St, σ3 = (st_row σ2 42 (va_cpy (σ2.1 51) (σ2.1 42) 0 0 140)) → (∀ σ4 : St, σ4 = (st_up σ3 39 2 ((st_row σ2 42 (va_cpy (σ2.1 51) (σ2.1 42) 0 0 140)).1 45 2)) → (∀ σ5 : St, σ5 = (st_up σ4 39 3 ((st_up σ3 39 2 ((st_row σ2 42 (va_cpy (σ2.1 51) (σ2.1 42) 0 0 140)).1 45 2)).1 45 3)) → (post (st_up σ5 39 4 ((st_up σ4 39 3 ((st_up σ3 39 2 ((st_row σ2 42 (va_cpy (σ2.1 51) (σ2.1 42) 0 0 140)).1 45 2)).1 45 3)).1 45 4)))))))
set_option maxRecDepth 100000 in
set_option maxHeartbeats 4000000 in
theorem c_X4_becomes_39_45 (σ : St) (post : St → Prop) (hf : f_X4_becomes_39_45 σ post) : Ct SX yX4_becomes cX4_becomes 2 none 1 (EQv SX post) [.ref 39, .ref 45] σ := by
  rw [f_X4_becomes_39_45] at hf
  refine ct_of (by decide) rfl (Nat.le_of_ble_eq_true rfl) ?_
  show Ev SX RX4 cX4_becomes 2 none 1 (EQv SX post) 0 [some (.ref 39), some (.ref 45)] [] σ
  refine ev_aload_n (pc := 0) dX4_becomes_0 rfl (i := 1) rfl ?_
  refine ev_get (pc := 1) fl_X4_9_4_0 rfl (by decide) rfl rfl dX4_becomes_1 ?_
  refine ev_iconst (pc := 4) (v := 0) dX4_becomes_4 kc_0 ?_
  refine ev_aload_n (pc := 5) dX4_becomes_5 rfl (i := 0) rfl ?_
  refine ev_get (pc := 6) fl_X4_9_4_0 rfl (by decide) rfl rfl dX4_becomes_6 ?_
  refine ev_iconst (pc := 9) (v := 0) dX4_becomes_9 kc_0 ?_
  refine ev_bipush (pc := 10) (v := 6) dX4_becomes_10 kb_6 ?_
  refine ev_copy (pc := 12) wcp_X4_24 rfl rfl rfl (by decide) kn_0 kn_0 kn_6 (by omega) (Nat.le_of_ble_eq_true rfl) dX4_becomes_12 ?_
  refine ev_aload_n (pc := 15) dX4_becomes_15 rfl (i := 1) rfl ?_
  refine ev_get (pc := 16) fl_X4_15_4_1 rfl (by decide) rfl rfl dX4_becomes_16 ?_
  refine ev_iconst (pc := 19) (v := 0) dX4_becomes_19 kc_0 ?_
  refine ev_aload_n (pc := 20) dX4_becomes_20 rfl (i := 0) rfl ?_
  refine ev_get (pc := 21) fl_X4_15_4_1 rfl (by decide) rfl rfl dX4_becomes_21 ?_
  refine ev_iconst (pc := 24) (v := 0) dX4_becomes_24 kc_0 ?_
  refine ev_bipush (pc := 25) (v := 6) dX4_becomes_25 kb_6 ?_
  refine ev_nm (fun σ1 q1 => ?_)
  have hf := hf σ1 q1
  refine ev_copy (pc := 27) wcp_X4_24 rfl rfl rfl (by decide) kn_0 kn_0 kn_6 (by omega) (Nat.le_of_ble_eq_true rfl) dX4_becomes_27 ?_
  refine ev_aload_n (pc := 30) dX4_becomes_30 rfl (i := 1) rfl ?_
  refine ev_get (pc := 31) fl_X4_18_4_5 rfl (by decide) rfl rfl dX4_becomes_31 ?_
  refine ev_iconst (pc := 34) (v := 0) dX4_becomes_34 kc_0 ?_
  refine ev_aload_n (pc := 35) dX4_becomes_35 rfl (i := 0) rfl ?_
  refine ev_get (pc := 36) fl_X4_18_4_5 rfl (by decide) rfl rfl dX4_becomes_36 ?_
  refine ev_iconst (pc := 39) (v := 0) dX4_becomes_39 kc_0 ?_
  refine ev_aload_n (pc := 40) dX4_becomes_40 rfl (i := 0) rfl ?_
  refine ev_get (pc := 41) fl_X4_18_4_5 rfl (by decide) rfl rfl dX4_becomes_41 ?_
  refine ev_alen (pc := 44) (v := 140) (t := 0) rfl rfl rfl (by decide) dX4_becomes_44 ?_
  refine ev_nm (fun σ2 q2 => ?_)
  have hf := hf σ2 q2
  refine ev_copy (pc := 45) wcp_X4_24 rfl rfl rfl (by decide) kn_0 kn_0 kn_140 (by omega) (Nat.le_of_ble_eq_true rfl) dX4_becomes_45 ?_
  refine ev_aload_n (pc := 48) dX4_becomes_48 rfl (i := 0) rfl ?_
  refine ev_aload_n (pc := 49) dX4_becomes_49 rfl (i := 1) rfl ?_
  refine ev_get (pc := 50) fl_X4_36_4_2 rfl (by decide) rfl rfl dX4_becomes_50 ?_
  refine ev_nm (fun σ3 q3 => ?_)
  have hf := hf σ3 q3
  refine ev_puti (pc := 53) fp_X4_36_4_2 rfl (by decide) rfl rfl rfl dX4_becomes_53 ?_
  refine ev_aload_n (pc := 56) dX4_becomes_56 rfl (i := 0) rfl ?_
  refine ev_aload_n (pc := 57) dX4_becomes_57 rfl (i := 1) rfl ?_
  refine ev_get (pc := 58) fl_X4_40_4_3 rfl (by decide) rfl rfl dX4_becomes_58 ?_
  refine ev_nm (fun σ4 q4 => ?_)
  have hf := hf σ4 q4
  refine ev_puti (pc := 61) fp_X4_40_4_3 rfl (by decide) rfl rfl rfl dX4_becomes_61 ?_
  refine ev_aload_n (pc := 64) dX4_becomes_64 rfl (i := 0) rfl ?_
  refine ev_aload_n (pc := 65) dX4_becomes_65 rfl (i := 1) rfl ?_
  refine ev_get (pc := 66) fl_X4_43_4_4 rfl (by decide) rfl rfl dX4_becomes_66 ?_
  refine ev_nm (fun σ5 q5 => ?_)
  have hf := hf σ5 q5
  refine ev_puti (pc := 69) fp_X4_43_4_4 rfl (by decide) rfl rfl rfl dX4_becomes_69 ?_
  exact ev_vret (pc := 72) rfl dX4_becomes_72 hf
def f_X4_becomes_39_44 (σ : St) (post : St → Prop) : Prop := ∀ σ1 : St, σ1 = (st_row σ 40 (va_cpy (σ.1 46) (σ.1 40) 0 0 6)) → (∀ σ2 : St, σ2 = (st_row σ1 41 (va_cpy (σ1.1 47) (σ1.1 41) 0 0 6)) → (∀ σ3 : St, σ3 = (st_row σ2 42 (va_cpy (σ2.1 48) (σ2.1 42) 0 0 140)) → (∀ σ4 : St, σ4 = (st_up σ3 39 2 ((st_row σ2 42 (va_cpy (σ2.1 48) (σ2.1 42) 0 0 140)).1 44 2)) → (∀ σ5 : St, σ5 = (st_up σ4 39 3 ((st_up σ3 39 2 ((st_row σ2 42 (va_cpy (σ2.1 48) (σ2.1 42) 0 0 140)).1 44 2)).1 44 3)) → (post (st_up σ5 39 4 ((st_up σ4 39 3 ((st_up σ3 39 2 ((st_row σ2 42 (va_cpy (σ2.1 48) (σ2.1 42) 0 0 140)).1 44 2)).1 44 3)).1 44 4)))))))
set_option maxRecDepth 100000 in
set_option maxHeartbeats 4000000 in
theorem c_X4_becomes_39_44 (σ : St) (post : St → Prop) (hf : f_X4_becomes_39_44 σ post) : Ct SX yX4_becomes cX4_becomes 2 none 1 (EQv SX post) [.ref 39, .ref 44] σ := by
  rw [f_X4_becomes_39_44] at hf
  refine ct_of (by decide) rfl (Nat.le_of_ble_eq_true rfl) ?_
  show Ev SX RX4 cX4_becomes 2 none 1 (EQv SX post) 0 [some (.ref 39), some (.ref 44)] [] σ
  refine ev_aload_n (pc := 0) dX4_becomes_0 rfl (i := 1) rfl ?_
  refine ev_get (pc := 1) fl_X4_9_4_0 rfl (by decide) rfl rfl dX4_becomes_1 ?_
  refine ev_iconst (pc := 4) (v := 0) dX4_becomes_4 kc_0 ?_
  refine ev_aload_n (pc := 5) dX4_becomes_5 rfl (i := 0) rfl ?_
  refine ev_get (pc := 6) fl_X4_9_4_0 rfl (by decide) rfl rfl dX4_becomes_6 ?_
  refine ev_iconst (pc := 9) (v := 0) dX4_becomes_9 kc_0 ?_
  refine ev_bipush (pc := 10) (v := 6) dX4_becomes_10 kb_6 ?_
  refine ev_copy (pc := 12) wcp_X4_24 rfl rfl rfl (by decide) kn_0 kn_0 kn_6 (by omega) (Nat.le_of_ble_eq_true rfl) dX4_becomes_12 ?_
  refine ev_aload_n (pc := 15) dX4_becomes_15 rfl (i := 1) rfl ?_
  refine ev_get (pc := 16) fl_X4_15_4_1 rfl (by decide) rfl rfl dX4_becomes_16 ?_
  refine ev_iconst (pc := 19) (v := 0) dX4_becomes_19 kc_0 ?_
  refine ev_aload_n (pc := 20) dX4_becomes_20 rfl (i := 0) rfl ?_
  refine ev_get (pc := 21) fl_X4_15_4_1 rfl (by decide) rfl rfl dX4_becomes_21 ?_
  refine ev_iconst (pc := 24) (v := 0) dX4_becomes_24 kc_0 ?_
  refine ev_bipush (pc := 25) (v := 6) dX4_becomes_25 kb_6 ?_
  refine ev_nm (fun σ1 q1 => ?_)
  have hf := hf σ1 q1
  refine ev_copy (pc := 27) wcp_X4_24 rfl rfl rfl (by decide) kn_0 kn_0 kn_6 (by omega) (Nat.le_of_ble_eq_true rfl) dX4_becomes_27 ?_
  refine ev_aload_n (pc := 30) dX4_becomes_30 rfl (i := 1) rfl ?_
  refine ev_get (pc := 31) fl_X4_18_4_5 rfl (by decide) rfl rfl dX4_becomes_31 ?_
  refine ev_iconst (pc := 34) (v := 0) dX4_becomes_34 kc_0 ?_
  refine ev_aload_n (pc := 35) dX4_becomes_35 rfl (i := 0) rfl ?_
  refine ev_get (pc := 36) fl_X4_18_4_5 rfl (by decide) rfl rfl dX4_becomes_36 ?_
  refine ev_iconst (pc := 39) (v := 0) dX4_becomes_39 kc_0 ?_
  refine ev_aload_n (pc := 40) dX4_becomes_40 rfl (i := 0) rfl ?_
  refine ev_get (pc := 41) fl_X4_18_4_5 rfl (by decide) rfl rfl dX4_becomes_41 ?_
  refine ev_alen (pc := 44) (v := 140) (t := 0) rfl rfl rfl (by decide) dX4_becomes_44 ?_
  refine ev_nm (fun σ2 q2 => ?_)
  have hf := hf σ2 q2
  refine ev_copy (pc := 45) wcp_X4_24 rfl rfl rfl (by decide) kn_0 kn_0 kn_140 (by omega) (Nat.le_of_ble_eq_true rfl) dX4_becomes_45 ?_
  refine ev_aload_n (pc := 48) dX4_becomes_48 rfl (i := 0) rfl ?_
  refine ev_aload_n (pc := 49) dX4_becomes_49 rfl (i := 1) rfl ?_
  refine ev_get (pc := 50) fl_X4_36_4_2 rfl (by decide) rfl rfl dX4_becomes_50 ?_
  refine ev_nm (fun σ3 q3 => ?_)
  have hf := hf σ3 q3
  refine ev_puti (pc := 53) fp_X4_36_4_2 rfl (by decide) rfl rfl rfl dX4_becomes_53 ?_
  refine ev_aload_n (pc := 56) dX4_becomes_56 rfl (i := 0) rfl ?_
  refine ev_aload_n (pc := 57) dX4_becomes_57 rfl (i := 1) rfl ?_
  refine ev_get (pc := 58) fl_X4_40_4_3 rfl (by decide) rfl rfl dX4_becomes_58 ?_
  refine ev_nm (fun σ4 q4 => ?_)
  have hf := hf σ4 q4
  refine ev_puti (pc := 61) fp_X4_40_4_3 rfl (by decide) rfl rfl rfl dX4_becomes_61 ?_
  refine ev_aload_n (pc := 64) dX4_becomes_64 rfl (i := 0) rfl ?_
  refine ev_aload_n (pc := 65) dX4_becomes_65 rfl (i := 1) rfl ?_
  refine ev_get (pc := 66) fl_X4_43_4_4 rfl (by decide) rfl rfl dX4_becomes_66 ?_
  refine ev_nm (fun σ5 q5 => ?_)
  have hf := hf σ5 q5
  refine ev_puti (pc := 69) fp_X4_43_4_4 rfl (by decide) rfl rfl rfl dX4_becomes_69 ?_
  exact ev_vret (pc := 72) rfl dX4_becomes_72 hf
def f_X11_back (a1 : Int32) (σ : St) (post : Int32 → St → Prop) : Prop := (a1 < 0 → (post (-1) σ)) ∧ (¬ a1 < 0 → ((a1 < 2 → (vp_in a1 2 ∧ ((¬ (σ.1 52 a1.toNatClampNeg) = 0 → (vp_in a1 2 ∧ ((a1 = 0 → (f_X4_becomes_39_44 σ (fun σ8 => post (σ8.1 39 3) σ8))) ∧ (a1 = 1 → (f_X4_becomes_39_45 σ (fun σ10 => post (σ10.1 39 3) σ10)))))) ∧ ((σ.1 52 a1.toNatClampNeg) = 0 → (post (-2) σ))))) ∧ (¬ a1 < 2 → (post (-1) σ))))
set_option maxRecDepth 100000 in
set_option maxHeartbeats 4000000 in
theorem c_X11_back (a1 : Int32) (σ : St) (post : Int32 → St → Prop) (hf : f_X11_back a1 σ post) : Ct SX yX11_back cX11_back 2 (some .int) 2 (EQi SX post) [.ref 0, .int a1] σ := by
  rw [f_X11_back] at hf
  refine ct_of (by decide) rfl (Nat.le_of_ble_eq_true rfl) ?_
  show Ev SX RX11 cX11_back 2 (some .int) 2 (EQi SX post) 0 [some (.ref 0), some (.int a1)] [] σ
  refine ev_iload_n (pc := 0) dX11_back_0 rfl (i := 1) rfl ?_
  refine ev_if_lt (pc := 1) (tgt := 9) dX11_back_1 (by decide) (fun c1 => ?_) (fun c1 => ?_)
  · have hf := hf.1 c1
    refine ev_iconst (pc := 9) (v := (-1)) dX11_back_9 kc_m1 ?_
    exact ev_iret (pc := 10) rfl dX11_back_10 hf
  · have hf := hf.2 c1
    refine ev_iload_n (pc := 4) dX11_back_4 rfl (i := 1) rfl ?_
    refine ev_iconst (pc := 5) (v := 2) dX11_back_5 kc_2 ?_
    refine ev_icmp_lt (pc := 6) (tgt := 11) dX11_back_6 (by decide) (fun c2 => ?_) (fun c2 => ?_)
    · have hf := hf.1 c2
      refine ev_aload_n (pc := 11) dX11_back_11 rfl (i := 0) rfl ?_
      refine ev_get (pc := 12) fl_X11_37_11_5 rfl (by decide) rfl rfl dX11_back_12 ?_
      refine ev_iload_n (pc := 15) dX11_back_15 rfl (i := 1) rfl ?_
      obtain ⟨h3, hf⟩ := hf
      refine ev_zald (pc := 16) rfl (t := 1) rfl rfl h3 rfl dX11_back_16 ?_
      refine ev_if_ne (pc := 17) (tgt := 23) dX11_back_17 (by decide) (fun c4 => ?_) (fun c4 => ?_)
      · have hf := hf.1 c4
        refine ev_aload_n (pc := 23) dX11_back_23 rfl (i := 0) rfl ?_
        refine ev_get (pc := 24) fl_X11_29_11_3 rfl (by decide) rfl rfl dX11_back_24 ?_
        refine ev_aload_n (pc := 27) dX11_back_27 rfl (i := 0) rfl ?_
        refine ev_get (pc := 28) fl_X11_33_11_4 rfl (by decide) rfl rfl dX11_back_28 ?_
        refine ev_iload_n (pc := 31) dX11_back_31 rfl (i := 1) rfl ?_
        obtain ⟨h5, hf⟩ := hf
        rcases kx_2 h5 with e6 | e7
        · have hf := hf.1 e6
          refine ev_aald (pc := 32) (t := 2) rfl rfl rfl rfl h5 (j := 0) (by rw [e6]; decide) dX11_back_32 ?_
          refine ev_callv (pc := 33) (stk := []) (ce_V (c_X4_becomes_39_44 σ _ hf) wv_X11_257_X4_becomes rfl (by decide) rfl (by decide) rfl (Nat.le_of_ble_eq_true rfl) rfl dX11_back_33) (fun σ8 hf => ?_)
          refine ev_aload_n (pc := 36) dX11_back_36 rfl (i := 0) rfl ?_
          refine ev_get (pc := 37) fl_X11_29_11_3 rfl (by decide) rfl rfl dX11_back_37 ?_
          refine ev_get (pc := 40) fl_X11_152_4_3 rfl (by decide) rfl rfl dX11_back_40 ?_
          exact ev_iret (pc := 43) rfl dX11_back_43 hf
        · have hf := hf.2 e7
          refine ev_aald (pc := 32) (t := 2) rfl rfl rfl rfl h5 (j := 1) (by rw [e7]; decide) dX11_back_32 ?_
          refine ev_callv (pc := 33) (stk := []) (ce_V (c_X4_becomes_39_45 σ _ hf) wv_X11_257_X4_becomes rfl (by decide) rfl (by decide) rfl (Nat.le_of_ble_eq_true rfl) rfl dX11_back_33) (fun σ10 hf => ?_)
          refine ev_aload_n (pc := 36) dX11_back_36 rfl (i := 0) rfl ?_
          refine ev_get (pc := 37) fl_X11_29_11_3 rfl (by decide) rfl rfl dX11_back_37 ?_
          refine ev_get (pc := 40) fl_X11_152_4_3 rfl (by decide) rfl rfl dX11_back_40 ?_
          exact ev_iret (pc := 43) rfl dX11_back_43 hf
      · have hf := hf.2 c4
        refine ev_bipush (pc := 20) (v := (-2)) dX11_back_20 kb_m2 ?_
        exact ev_iret (pc := 22) rfl dX11_back_22 hf
    · have hf := hf.2 c2
      refine ev_iconst (pc := 9) (v := (-1)) dX11_back_9 kc_m1 ?_
      exact ev_iret (pc := 10) rfl dX11_back_10 hf
def f_X11_count (a1 : Int32) (σ : St) (post : Int32 → St → Prop) : Prop := (a1 = 0 → (post (σ.1 21 0) σ)) ∧ (a1 = 1 → (post (σ.1 21 1) σ)) ∧ (a1 = 2 → (post (σ.1 21 2) σ)) ∧ (a1 = 3 → (post (σ.1 0 16) σ)) ∧ (a1 = 4 → (post (σ.1 0 17) σ)) ∧ (a1 = 5 → (post (σ.1 39 4) σ)) ∧ (a1 = 6 → (post (σ.1 1 0) σ)) ∧ (¬ a1 = 0 → ¬ a1 = 1 → ¬ a1 = 2 → ¬ a1 = 3 → ¬ a1 = 4 → ¬ a1 = 5 → ¬ a1 = 6 → (post (-1) σ))
set_option maxRecDepth 100000 in
set_option maxHeartbeats 4000000 in
theorem c_X11_count (a1 : Int32) (σ : St) (post : Int32 → St → Prop) (hf : f_X11_count a1 σ post) : Ct SX yX11_count cX11_count 2 (some .int) 0 (EQi SX post) [.ref 0, .int a1] σ := by
  rw [f_X11_count] at hf
  refine ct_of (by decide) rfl (Nat.le_of_ble_eq_true rfl) ?_
  show Ev SX RX11 cX11_count 2 (some .int) 0 (EQi SX post) 0 [some (.ref 0), some (.int a1)] [] σ
  refine ev_iload_n (pc := 0) dX11_count_0 rfl (i := 1) rfl ?_
  by_cases e1 : a1 = 0
  · have hf := hf.1 e1
    refine ev_tabIn (pc := 1) (off := 43) (tgt := 44) dX11_count_1 (by rw [e1]; decide) (by rw [e1]; decide) (by rw [e1]; decide) (by decide) ?_
    refine ev_aload_n (pc := 44) dX11_count_44 rfl (i := 0) rfl ?_
    refine ev_get (pc := 45) fl_X11_23_11_2 rfl (by decide) rfl rfl dX11_count_45 ?_
    refine ev_get (pc := 48) fl_X11_158_0_0 rfl (by decide) rfl rfl dX11_count_48 ?_
    exact ev_iret (pc := 51) rfl dX11_count_51 hf
  by_cases e2 : a1 = 1
  · have hf := hf.2.1 e2
    refine ev_tabIn (pc := 1) (off := 51) (tgt := 52) dX11_count_1 (by rw [e2]; decide) (by rw [e2]; decide) (by rw [e2]; decide) (by decide) ?_
    refine ev_aload_n (pc := 52) dX11_count_52 rfl (i := 0) rfl ?_
    refine ev_get (pc := 53) fl_X11_23_11_2 rfl (by decide) rfl rfl dX11_count_53 ?_
    refine ev_get (pc := 56) fl_X11_260_0_1 rfl (by decide) rfl rfl dX11_count_56 ?_
    exact ev_iret (pc := 59) rfl dX11_count_59 hf
  by_cases e3 : a1 = 2
  · have hf := hf.2.2.1 e3
    refine ev_tabIn (pc := 1) (off := 59) (tgt := 60) dX11_count_1 (by rw [e3]; decide) (by rw [e3]; decide) (by rw [e3]; decide) (by decide) ?_
    refine ev_aload_n (pc := 60) dX11_count_60 rfl (i := 0) rfl ?_
    refine ev_get (pc := 61) fl_X11_23_11_2 rfl (by decide) rfl rfl dX11_count_61 ?_
    refine ev_get (pc := 64) fl_X11_263_0_2 rfl (by decide) rfl rfl dX11_count_64 ?_
    exact ev_iret (pc := 67) rfl dX11_count_67 hf
  by_cases e4 : a1 = 3
  · have hf := hf.2.2.2.1 e4
    refine ev_tabIn (pc := 1) (off := 67) (tgt := 68) dX11_count_1 (by rw [e4]; decide) (by rw [e4]; decide) (by rw [e4]; decide) (by decide) ?_
    refine ev_aload_n (pc := 68) dX11_count_68 rfl (i := 0) rfl ?_
    refine ev_get (pc := 69) fl_X11_121_11_16 rfl (by decide) rfl rfl dX11_count_69 ?_
    exact ev_iret (pc := 72) rfl dX11_count_72 hf
  by_cases e5 : a1 = 4
  · have hf := hf.2.2.2.2.1 e5
    refine ev_tabIn (pc := 1) (off := 72) (tgt := 73) dX11_count_1 (by rw [e5]; decide) (by rw [e5]; decide) (by rw [e5]; decide) (by decide) ?_
    refine ev_aload_n (pc := 73) dX11_count_73 rfl (i := 0) rfl ?_
    refine ev_get (pc := 74) fl_X11_124_11_17 rfl (by decide) rfl rfl dX11_count_74 ?_
    exact ev_iret (pc := 77) rfl dX11_count_77 hf
  by_cases e6 : a1 = 5
  · have hf := hf.2.2.2.2.2.1 e6
    refine ev_tabIn (pc := 1) (off := 77) (tgt := 78) dX11_count_1 (by rw [e6]; decide) (by rw [e6]; decide) (by rw [e6]; decide) (by decide) ?_
    refine ev_aload_n (pc := 78) dX11_count_78 rfl (i := 0) rfl ?_
    refine ev_get (pc := 79) fl_X11_29_11_3 rfl (by decide) rfl rfl dX11_count_79 ?_
    refine ev_get (pc := 82) fl_X11_179_4_4 rfl (by decide) rfl rfl dX11_count_82 ?_
    exact ev_iret (pc := 85) rfl dX11_count_85 hf
  by_cases e7 : a1 = 6
  · have hf := hf.2.2.2.2.2.2.1 e7
    refine ev_tabIn (pc := 1) (off := 85) (tgt := 86) dX11_count_1 (by rw [e7]; decide) (by rw [e7]; decide) (by rw [e7]; decide) (by decide) ?_
    refine ev_aload_n (pc := 86) dX11_count_86 rfl (i := 0) rfl ?_
    refine ev_get (pc := 87) fl_X11_12_11_0 rfl (by decide) rfl rfl dX11_count_87 ?_
    refine ev_get (pc := 90) fl_X11_99_10_0 rfl (by decide) rfl rfl dX11_count_90 ?_
    exact ev_iret (pc := 93) rfl dX11_count_93 hf
  have hf := hf.2.2.2.2.2.2.2 e1 e2 e3 e4 e5 e6 e7
  refine ev_tabOut (pc := 1) (tgt := 94) dX11_count_1 (tab_out 6 (by decide) (fun k hk => by
    match k, hk with
    | 0, _ => exact e1
    | 1, _ => exact e2
    | 2, _ => exact e3
    | 3, _ => exact e4
    | 4, _ => exact e5
    | 5, _ => exact e6
    | 6, _ => exact e7)) (by decide) ?_
  refine ev_iconst (pc := 94) (v := (-1)) dX11_count_94 kc_m1 ?_
  exact ev_iret (pc := 95) rfl dX11_count_95 hf
def f_X11_trace_L4 (post : Int64 → St → Prop) : Nat → Int64 → Int32 → St → Prop
  | 0, _, _, _ => False
  | n + 1, v1, v3, σ => (6 ≤ v3 → (post v1 σ)) ∧ (¬ 6 ≤ v3 → (vp_in v3 6 ∧ ((v3 = 0 → ((f_X11_trace_L4 post n) (v1 + (σ.2 65)) (v3 + 1) σ)) ∧ (v3 = 1 → ((f_X11_trace_L4 post n) (v1 + (σ.2 66)) (v3 + 1) σ)) ∧ (v3 = 2 → ((f_X11_trace_L4 post n) (v1 + (σ.2 67)) (v3 + 1) σ)) ∧ (v3 = 3 → ((f_X11_trace_L4 post n) (v1 + (σ.2 68)) (v3 + 1) σ)) ∧ (v3 = 4 → ((f_X11_trace_L4 post n) (v1 + (σ.2 69)) (v3 + 1) σ)) ∧ (v3 = 5 → ((f_X11_trace_L4 post n) (v1 + (σ.2 70)) (v3 + 1) σ)))))
set_option maxRecDepth 100000 in
set_option maxHeartbeats 4000000 in
theorem p_X11_trace_L4 (post : Int64 → St → Prop) : ∀ (n : Nat) (v1 : Int64) (v3 : Int32) (σ : St), f_X11_trace_L4 post n v1 v3 σ → Ev SX RX11 cX11_trace 4 (some .long) 0 (EQl SX post) 4 [some (.ref 0), some (.long v1), none, some (.int v3)] [] σ := by
  intro n
  induction n with
  | zero =>
    intro v1 v3 σ hf
    exact hf.elim
  | succ n hagain4 =>
    intro v1 v3 σ hf
    rw [f_X11_trace_L4] at hf
    refine ev_iload_n (pc := 4) dX11_trace_4 rfl (i := 3) rfl ?_
    refine ev_aload_n (pc := 5) dX11_trace_5 rfl (i := 0) rfl ?_
    refine ev_get (pc := 6) fl_X11_73_11_8 rfl (by decide) rfl rfl dX11_trace_6 ?_
    refine ev_alenr (pc := 9) (v := 6) (t := 3) rfl rfl rfl (by decide) dX11_trace_9 ?_
    refine ev_icmp_ge (pc := 10) (tgt := 31) dX11_trace_10 (by decide) (fun c1 => ?_) (fun c1 => ?_)
    · have hf := hf.1 c1
      refine ev_lload_n (pc := 31) dX11_trace_31 rfl (i := 1) rfl ?_
      exact ev_lret (pc := 32) rfl dX11_trace_32 hf
    · have hf := hf.2 c1
      refine ev_lload_n (pc := 13) dX11_trace_13 rfl (i := 1) rfl ?_
      refine ev_aload_n (pc := 14) dX11_trace_14 rfl (i := 0) rfl ?_
      refine ev_get (pc := 15) fl_X11_73_11_8 rfl (by decide) rfl rfl dX11_trace_15 ?_
      refine ev_iload_n (pc := 18) dX11_trace_18 rfl (i := 3) rfl ?_
      obtain ⟨h2, hf⟩ := hf
      rcases kx_6 h2 with e3 | e4 | e5 | e6 | e7 | e8
      · have hf := hf.1 e3
        refine ev_aald (pc := 19) (t := 3) rfl rfl rfl rfl h2 (j := 0) (by rw [e3]; decide) dX11_trace_19 ?_
        refine ev_get (pc := 20) fl_X11_266_2_0 rfl (by decide) rfl rfl dX11_trace_20 ?_
        refine ev_ladd (pc := 23) dX11_trace_23 ?_
        refine ev_lstore_n (pc := 24) (L' := [some (.ref 0), some (.long (v1 + (σ.2 65))), none, some (.int v3)]) dX11_trace_24 rfl (by decide) rfl rfl ?_
        refine ev_iinc (pc := 25) (v := v3 + 1) (L' := [some (.ref 0), some (.long (v1 + (σ.2 65))), none, some (.int (v3 + 1))]) dX11_trace_25 rfl (by rw [kc_1]) (by decide) rfl rfl ?_
        refine ev_goto (pc := 28) (tgt := 4) dX11_trace_28 (by decide) ?_
        exact hagain4 _ _ _ hf
      · have hf := hf.2.1 e4
        refine ev_aald (pc := 19) (t := 3) rfl rfl rfl rfl h2 (j := 1) (by rw [e4]; decide) dX11_trace_19 ?_
        refine ev_get (pc := 20) fl_X11_266_9_0 rfl (by decide) rfl rfl dX11_trace_20 ?_
        refine ev_ladd (pc := 23) dX11_trace_23 ?_
        refine ev_lstore_n (pc := 24) (L' := [some (.ref 0), some (.long (v1 + (σ.2 66))), none, some (.int v3)]) dX11_trace_24 rfl (by decide) rfl rfl ?_
        refine ev_iinc (pc := 25) (v := v3 + 1) (L' := [some (.ref 0), some (.long (v1 + (σ.2 66))), none, some (.int (v3 + 1))]) dX11_trace_25 rfl (by rw [kc_1]) (by decide) rfl rfl ?_
        refine ev_goto (pc := 28) (tgt := 4) dX11_trace_28 (by decide) ?_
        exact hagain4 _ _ _ hf
      · have hf := hf.2.2.1 e5
        refine ev_aald (pc := 19) (t := 3) rfl rfl rfl rfl h2 (j := 2) (by rw [e5]; decide) dX11_trace_19 ?_
        refine ev_get (pc := 20) fl_X11_266_6_0 rfl (by decide) rfl rfl dX11_trace_20 ?_
        refine ev_ladd (pc := 23) dX11_trace_23 ?_
        refine ev_lstore_n (pc := 24) (L' := [some (.ref 0), some (.long (v1 + (σ.2 67))), none, some (.int v3)]) dX11_trace_24 rfl (by decide) rfl rfl ?_
        refine ev_iinc (pc := 25) (v := v3 + 1) (L' := [some (.ref 0), some (.long (v1 + (σ.2 67))), none, some (.int (v3 + 1))]) dX11_trace_25 rfl (by rw [kc_1]) (by decide) rfl rfl ?_
        refine ev_goto (pc := 28) (tgt := 4) dX11_trace_28 (by decide) ?_
        exact hagain4 _ _ _ hf
      · have hf := hf.2.2.2.1 e6
        refine ev_aald (pc := 19) (t := 3) rfl rfl rfl rfl h2 (j := 3) (by rw [e6]; decide) dX11_trace_19 ?_
        refine ev_get (pc := 20) fl_X11_266_7_0 rfl (by decide) rfl rfl dX11_trace_20 ?_
        refine ev_ladd (pc := 23) dX11_trace_23 ?_
        refine ev_lstore_n (pc := 24) (L' := [some (.ref 0), some (.long (v1 + (σ.2 68))), none, some (.int v3)]) dX11_trace_24 rfl (by decide) rfl rfl ?_
        refine ev_iinc (pc := 25) (v := v3 + 1) (L' := [some (.ref 0), some (.long (v1 + (σ.2 68))), none, some (.int (v3 + 1))]) dX11_trace_25 rfl (by rw [kc_1]) (by decide) rfl rfl ?_
        refine ev_goto (pc := 28) (tgt := 4) dX11_trace_28 (by decide) ?_
        exact hagain4 _ _ _ hf
      · have hf := hf.2.2.2.2.1 e7
        refine ev_aald (pc := 19) (t := 3) rfl rfl rfl rfl h2 (j := 4) (by rw [e7]; decide) dX11_trace_19 ?_
        refine ev_get (pc := 20) fl_X11_266_8_0 rfl (by decide) rfl rfl dX11_trace_20 ?_
        refine ev_ladd (pc := 23) dX11_trace_23 ?_
        refine ev_lstore_n (pc := 24) (L' := [some (.ref 0), some (.long (v1 + (σ.2 69))), none, some (.int v3)]) dX11_trace_24 rfl (by decide) rfl rfl ?_
        refine ev_iinc (pc := 25) (v := v3 + 1) (L' := [some (.ref 0), some (.long (v1 + (σ.2 69))), none, some (.int (v3 + 1))]) dX11_trace_25 rfl (by rw [kc_1]) (by decide) rfl rfl ?_
        refine ev_goto (pc := 28) (tgt := 4) dX11_trace_28 (by decide) ?_
        exact hagain4 _ _ _ hf
      · have hf := hf.2.2.2.2.2 e8
        refine ev_aald (pc := 19) (t := 3) rfl rfl rfl rfl h2 (j := 5) (by rw [e8]; decide) dX11_trace_19 ?_
        refine ev_get (pc := 20) fl_X11_266_1_0 rfl (by decide) rfl rfl dX11_trace_20 ?_
        refine ev_ladd (pc := 23) dX11_trace_23 ?_
        refine ev_lstore_n (pc := 24) (L' := [some (.ref 0), some (.long (v1 + (σ.2 70))), none, some (.int v3)]) dX11_trace_24 rfl (by decide) rfl rfl ?_
        refine ev_iinc (pc := 25) (v := v3 + 1) (L' := [some (.ref 0), some (.long (v1 + (σ.2 70))), none, some (.int (v3 + 1))]) dX11_trace_25 rfl (by rw [kc_1]) (by decide) rfl rfl ?_
        refine ev_goto (pc := 28) (tgt := 4) dX11_trace_28 (by decide) ?_
        exact hagain4 _ _ _ hf
def f_X11_trace (σ : St) (post : Int64 → St → Prop) : Prop := ∃ n9 : Nat, f_X11_trace_L4 post n9 0 0 σ
set_option maxRecDepth 100000 in
set_option maxHeartbeats 4000000 in
theorem c_X11_trace (σ : St) (post : Int64 → St → Prop) (hf : f_X11_trace σ post) : Ct SX yX11_trace cX11_trace 4 (some .long) 0 (EQl SX post) [.ref 0] σ := by
  rw [f_X11_trace] at hf
  refine ct_of (by decide) rfl (Nat.le_of_ble_eq_true rfl) ?_
  show Ev SX RX11 cX11_trace 4 (some .long) 0 (EQl SX post) 0 [some (.ref 0), none, none, none] [] σ
  refine ev_lconst (pc := 0) (v := 0) dX11_trace_0 (by decide) ?_
  refine ev_lstore_n (pc := 1) (L' := [some (.ref 0), some (.long 0), none, none]) dX11_trace_1 rfl (by decide) rfl rfl ?_
  refine ev_iconst (pc := 2) (v := 0) dX11_trace_2 kc_0 ?_
  refine ev_istore_n (pc := 3) (L' := [some (.ref 0), some (.long 0), none, some (.int 0)]) dX11_trace_3 rfl (by decide) rfl rfl ?_
  obtain ⟨n9, hf⟩ := hf
  exact p_X11_trace_L4 post n9 _ _ _ hf
