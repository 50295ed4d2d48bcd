def f_X12_manyOf_L4 (a0 : Int32) (post : Int32 → St → Prop) : Nat → Int32 → Int32 → St → Prop
  | 0, _, _, _ => False
  | n + 1, v1, v2, σ => (6 ≤ v2 → (post v1 σ)) ∧ (¬ 6 ≤ v2 → ((f_X12_manyOf_L4 a0 post n) (v1 + ((a0 >>> (v2 &&& 31)) &&& 1)) (v2 + 1) σ))
set_option maxRecDepth 100000 in
set_option maxHeartbeats 4000000 in
theorem p_X12_manyOf_L4 (a0 : Int32) (post : Int32 → St → Prop) : ∀ (n : Nat) (v1 : Int32) (v2 : Int32) (σ : St), f_X12_manyOf_L4 a0 post n v1 v2 σ → Ev SM RX12 cX12_manyOf 3 (some .int) 0 (EQi SM post) 4 [some (.int a0), some (.int v1), some (.int v2)] [] σ := by
  intro n
  induction n with
  | zero =>
    intro v1 v2 σ hf
    exact hf.elim
  | succ n hagain4 =>
    intro v1 v2 σ hf
    rw [f_X12_manyOf_L4] at hf
    refine ev_iload_n (pc := 4) dX12_manyOf_4 rfl (i := 2) rfl ?_
    refine ev_bipush (pc := 5) (v := 6) dX12_manyOf_5 kb_6 ?_
    refine ev_icmp_ge (pc := 7) (tgt := 24) dX12_manyOf_7 (by decide) (fun c1 => ?_) (fun c1 => ?_)
    · have hf := hf.1 c1
      refine ev_iload_n (pc := 24) dX12_manyOf_24 rfl (i := 1) rfl ?_
      exact ev_iret (pc := 25) rfl dX12_manyOf_25 hf
    · have hf := hf.2 c1
      refine ev_iload_n (pc := 10) dX12_manyOf_10 rfl (i := 1) rfl ?_
      refine ev_iload_n (pc := 11) dX12_manyOf_11 rfl (i := 0) rfl ?_
      refine ev_iload_n (pc := 12) dX12_manyOf_12 rfl (i := 2) rfl ?_
      refine ev_ishr (pc := 13) dX12_manyOf_13 ?_
      refine ev_iconst (pc := 14) (v := 1) dX12_manyOf_14 kc_1 ?_
      refine ev_iand (pc := 15) dX12_manyOf_15 ?_
      refine ev_iadd (pc := 16) dX12_manyOf_16 ?_
      refine ev_istore_n (pc := 17) (L' := [some (.int a0), some (.int (v1 + ((a0 >>> (v2 &&& 31)) &&& 1))), some (.int v2)]) dX12_manyOf_17 rfl (by decide) rfl rfl ?_
      refine ev_iinc (pc := 18) (v := v2 + 1) (L' := [some (.int a0), some (.int (v1 + ((a0 >>> (v2 &&& 31)) &&& 1))), some (.int (v2 + 1))]) dX12_manyOf_18 rfl (by rw [kc_1]) (by decide) rfl rfl ?_
      refine ev_goto (pc := 21) (tgt := 4) dX12_manyOf_21 (by decide) ?_
      exact hagain4 _ _ _ hf
def f_X12_manyOf (a0 : Int32) (σ : St) (post : Int32 → St → Prop) : Prop := ∃ n2 : Nat, f_X12_manyOf_L4 a0 post n2 0 0 σ
set_option maxRecDepth 100000 in
set_option maxHeartbeats 4000000 in
theorem c_X12_manyOf (a0 : Int32) (σ : St) (post : Int32 → St → Prop) (hf : f_X12_manyOf a0 σ post) : Ct SM yX12_manyOf cX12_manyOf 3 (some .int) 0 (EQi SM post) [.int a0] σ := by
  rw [f_X12_manyOf] at hf
  refine ct_of (by decide) rfl (Nat.le_of_ble_eq_true rfl) ?_
  show Ev SM RX12 cX12_manyOf 3 (some .int) 0 (EQi SM post) 0 [some (.int a0), none, none] [] σ
  refine ev_iconst (pc := 0) (v := 0) dX12_manyOf_0 kc_0 ?_
  refine ev_istore_n (pc := 1) (L' := [some (.int a0), some (.int 0), none]) dX12_manyOf_1 rfl (by decide) rfl rfl ?_
  refine ev_iconst (pc := 2) (v := 0) dX12_manyOf_2 kc_0 ?_
  refine ev_istore_n (pc := 3) (L' := [some (.int a0), some (.int 0), some (.int 0)]) dX12_manyOf_3 rfl (by decide) rfl rfl ?_
  obtain ⟨n2, hf⟩ := hf
  exact p_X12_manyOf_L4 a0 post n2 _ _ _ hf
def f_X12_isShift (a1 : Int32) (σ : St) (post : Int32 → St → Prop) : Prop := f_X12_in a1 0 ((1 <<< ((σ.1 2 0) &&& 31)) - 1) σ (fun x2 σ1 => (x2 = 0 → (post 0 σ1)) ∧ (¬ x2 = 0 → (f_X12_manyOf a1 σ1 (fun x5 σ4 => ((σ4.1 6 0) < x5 → (post 0 σ4)) ∧ (¬ (σ4.1 6 0) < x5 → (post 1 σ4))))))
set_option maxRecDepth 100000 in
set_option maxHeartbeats 4000000 in
theorem c_X12_isShift (a1 : Int32) (σ : St) (post : Int32 → St → Prop) (hf : f_X12_isShift a1 σ post) : Ct SM yX12_isShift cX12_isShift 2 (some .boolean) 1 (EQi SM post) [.ref 0, .int a1] σ := by
  rw [f_X12_isShift] at hf
  refine ct_of (by decide) rfl (Nat.le_of_ble_eq_true rfl) ?_
  show Ev SM RX12 cX12_isShift 2 (some .boolean) 1 (EQi SM post) 0 [some (.ref 0), some (.int a1)] [] σ
  refine ev_iload_n (pc := 0) dX12_isShift_0 rfl (i := 1) rfl ?_
  refine ev_iconst (pc := 1) (v := 0) dX12_isShift_1 kc_0 ?_
  refine ev_iconst (pc := 2) (v := 1) dX12_isShift_2 kc_1 ?_
  refine ev_aload_n (pc := 3) dX12_isShift_3 rfl (i := 0) rfl ?_
  refine ev_get (pc := 4) fl_X12_13_12_3 rfl (by decide) rfl rfl dX12_isShift_4 ?_
  refine ev_iconst (pc := 7) (v := 0) dX12_isShift_7 kc_0 ?_
  refine ev_iald (pc := 8) rfl rfl ki_0_2 kn_0 dX12_isShift_8 ?_
  refine ev_ishl (pc := 9) dX12_isShift_9 ?_
  refine ev_iconst (pc := 10) (v := 1) dX12_isShift_10 kc_1 ?_
  refine ev_isub (pc := 11) dX12_isShift_11 ?_
  refine ev_calli (pc := 12) (stk := []) (ce_S (c_X12_in a1 0 ((1 <<< ((σ.1 2 0) &&& 31)) - 1) σ _ hf) wt_X12_69_X12_in  (by decide) rfl (Nat.le_of_ble_eq_true rfl) rfl dX12_isShift_12) (fun x2 σ1 hf => ?_)
  refine ev_if_eq (pc := 15) (tgt := 35) dX12_isShift_15 (by decide) (fun c3 => ?_) (fun c3 => ?_)
  · have hf := hf.1 c3
    refine ev_iconst (pc := 35) (v := 0) dX12_isShift_35 kc_0 ?_
    exact ev_zret (pc := 36) rfl dX12_isShift_36 rfl hf
  · have hf := hf.2 c3
    refine ev_iload_n (pc := 18) dX12_isShift_18 rfl (i := 1) rfl ?_
    refine ev_calli (pc := 19) (stk := []) (ce_S (c_X12_manyOf a1 σ1 _ hf) wt_X12_132_X12_manyOf  (by decide) rfl (Nat.le_of_ble_eq_true rfl) rfl dX12_isShift_19) (fun x5 σ4 hf => ?_)
    refine ev_aload_n (pc := 22) dX12_isShift_22 rfl (i := 0) rfl ?_
    refine ev_get (pc := 23) fl_X12_26_12_7 rfl (by decide) rfl rfl dX12_isShift_23 ?_
    refine ev_iconst (pc := 26) (v := 0) dX12_isShift_26 kc_0 ?_
    refine ev_iald (pc := 27) rfl rfl ki_0_2 kn_0 dX12_isShift_27 ?_
    refine ev_icmp_gt (pc := 28) (tgt := 35) dX12_isShift_28 (by decide) (fun c6 => ?_) (fun c6 => ?_)
    · have hf := hf.1 c6
      refine ev_iconst (pc := 35) (v := 0) dX12_isShift_35 kc_0 ?_
      exact ev_zret (pc := 36) rfl dX12_isShift_36 rfl hf
    · have hf := hf.2 c6
      refine ev_iconst (pc := 31) (v := 1) dX12_isShift_31 kc_1 ?_
      refine ev_goto (pc := 32) (tgt := 36) dX12_isShift_32 (by decide) ?_
      exact ev_zret (pc := 36) rfl dX12_isShift_36 rfl hf
def f_X12_know_L57 (k95 : St → Prop) (post : St → Prop) : Nat → Int32 → St → Prop
  | 0, _, _ => False
  | n + 1, v1, σ => (14 ≤ v1 → (k95 σ)) ∧ (¬ 14 ≤ v1 → (vp_in v1 465 ∧ (vp_in ((15 + (14 * (σ.1 8 14))) + v1) 465 ∧ ((f_X12_know_L57 k95 post n) (v1 + 1) (st_up σ 8 (((15 + (14 * (σ.1 8 14))) + v1).toNatClampNeg) (σ.1 8 v1.toNatClampNeg))))))
set_option maxRecDepth 100000 in
set_option maxHeartbeats 4000000 in
theorem p_X12_know_L57 (k95 : St → Prop) (post : St → Prop) (hk95 : ∀ (τ : St), k95 τ → Ev SM RX12 cX12_know 2 none 0 (EQv SM post) 95 [some (.ref 0), none] [] τ) : ∀ (n : Nat) (v1 : Int32) (σ : St), f_X12_know_L57 k95 post n v1 σ → Ev SM RX12 cX12_know 2 none 0 (EQv SM post) 57 [some (.ref 0), some (.int v1)] [] σ := by
  intro n
  induction n with
  | zero =>
    intro v1 σ hf
    exact hf.elim
  | succ n hagain57 =>
    intro v1 σ hf
    rw [f_X12_know_L57] at hf
    refine ev_iload_n (pc := 57) dX12_know_57 rfl (i := 1) rfl ?_
    refine ev_bipush (pc := 58) (v := 14) dX12_know_58 kb_14 ?_
    refine ev_icmp_ge (pc := 60) (tgt := 95) dX12_know_60 (by decide) (fun c2 => ?_) (fun c2 => ?_)
    · have hf := hf.1 c2
      refine ev_mask [true, false] (L' := [some (.ref 0), none]) rfl ?_
      exact hk95 _ hf
    · have hf := hf.2 c2
      refine ev_aload_n (pc := 63) dX12_know_63 rfl (i := 0) rfl ?_
      refine ev_get (pc := 64) fl_X12_32_12_16 rfl (by decide) rfl rfl dX12_know_64 ?_
      refine ev_bipush (pc := 67) (v := 15) dX12_know_67 kb_15 ?_
      refine ev_bipush (pc := 69) (v := 14) dX12_know_69 kb_14 ?_
      refine ev_aload_n (pc := 71) dX12_know_71 rfl (i := 0) rfl ?_
      refine ev_get (pc := 72) fl_X12_32_12_16 rfl (by decide) rfl rfl dX12_know_72 ?_
      refine ev_bipush (pc := 75) (v := 14) dX12_know_75 kb_14 ?_
      refine ev_iald (pc := 77) rfl rfl ki_14_465 kn_14 dX12_know_77 ?_
      refine ev_imul (pc := 78) dX12_know_78 ?_
      refine ev_iadd (pc := 79) dX12_know_79 ?_
      refine ev_iload_n (pc := 80) dX12_know_80 rfl (i := 1) rfl ?_
      refine ev_iadd (pc := 81) dX12_know_81 ?_
      refine ev_aload_n (pc := 82) dX12_know_82 rfl (i := 0) rfl ?_
      refine ev_get (pc := 83) fl_X12_32_12_16 rfl (by decide) rfl rfl dX12_know_83 ?_
      refine ev_iload_n (pc := 86) dX12_know_86 rfl (i := 1) rfl ?_
      obtain ⟨h3, hf⟩ := hf
      refine ev_iald (pc := 87) rfl rfl h3 rfl dX12_know_87 ?_
      obtain ⟨h4, hf⟩ := hf
      refine ev_iast (pc := 88) rfl rfl h4 rfl dX12_know_88 ?_
      refine ev_iinc (pc := 89) (v := v1 + 1) (L' := [some (.ref 0), some (.int (v1 + 1))]) dX12_know_89 rfl (by rw [kc_1]) (by decide) rfl rfl ?_
      refine ev_goto (pc := 92) (tgt := 57) dX12_know_92 (by decide) ?_
      exact hagain57 _ _ hf
def f_X12_know_L14 (k44 : St → Prop) (post : St → Prop) : Nat → Int32 → St → Prop
  | 0, _, _ => False
  | n + 1, v1, σ => (126 ≤ v1 → (k44 σ)) ∧ (¬ 126 ≤ v1 → (vp_in (29 + v1) 465 ∧ (vp_in (15 + v1) 465 ∧ ((f_X12_know_L14 k44 post n) (v1 + 1) (st_up σ 8 ((15 + v1).toNatClampNeg) (σ.1 8 ((29 + v1).toNatClampNeg)))))))
set_option maxRecDepth 100000 in
set_option maxHeartbeats 4000000 in
theorem p_X12_know_L14 (k44 : St → Prop) (post : St → Prop) (hk44 : ∀ (τ : St), k44 τ → Ev SM RX12 cX12_know 2 none 0 (EQv SM post) 44 [some (.ref 0), none] [] τ) : ∀ (n : Nat) (v1 : Int32) (σ : St), f_X12_know_L14 k44 post n v1 σ → Ev SM RX12 cX12_know 2 none 0 (EQv SM post) 14 [some (.ref 0), some (.int v1)] [] σ := by
  intro n
  induction n with
  | zero =>
    intro v1 σ hf
    exact hf.elim
  | succ n hagain14 =>
    intro v1 σ hf
    rw [f_X12_know_L14] at hf
    refine ev_iload_n (pc := 14) dX12_know_14 rfl (i := 1) rfl ?_
    refine ev_bipush (pc := 15) (v := 126) dX12_know_15 kb_126 ?_
    refine ev_icmp_ge (pc := 17) (tgt := 44) dX12_know_17 (by decide) (fun c7 => ?_) (fun c7 => ?_)
    · have hf := hf.1 c7
      refine ev_mask [true, false] (L' := [some (.ref 0), none]) rfl ?_
      exact hk44 _ hf
    · have hf := hf.2 c7
      refine ev_aload_n (pc := 20) dX12_know_20 rfl (i := 0) rfl ?_
      refine ev_get (pc := 21) fl_X12_32_12_16 rfl (by decide) rfl rfl dX12_know_21 ?_
      refine ev_bipush (pc := 24) (v := 15) dX12_know_24 kb_15 ?_
      refine ev_iload_n (pc := 26) dX12_know_26 rfl (i := 1) rfl ?_
      refine ev_iadd (pc := 27) dX12_know_27 ?_
      refine ev_aload_n (pc := 28) dX12_know_28 rfl (i := 0) rfl ?_
      refine ev_get (pc := 29) fl_X12_32_12_16 rfl (by decide) rfl rfl dX12_know_29 ?_
      refine ev_bipush (pc := 32) (v := 29) dX12_know_32 kb_29 ?_
      refine ev_iload_n (pc := 34) dX12_know_34 rfl (i := 1) rfl ?_
      refine ev_iadd (pc := 35) dX12_know_35 ?_
      obtain ⟨h8, hf⟩ := hf
      refine ev_iald (pc := 36) rfl rfl h8 rfl dX12_know_36 ?_
      obtain ⟨h9, hf⟩ := hf
      refine ev_iast (pc := 37) rfl rfl h9 rfl dX12_know_37 ?_
      refine ev_iinc (pc := 38) (v := v1 + 1) (L' := [some (.ref 0), some (.int (v1 + 1))]) dX12_know_38 rfl (by rw [kc_1]) (by decide) rfl rfl ?_
      refine ev_goto (pc := 41) (tgt := 14) dX12_know_41 (by decide) ?_
      exact hagain14 _ _ hf
def f_X12_know (σ : St) (post : St → Prop) : Prop := (¬ (σ.1 8 14) = 10 → (∃ n6 : Nat, f_X12_know_L57 (fun σ5 => post (st_up σ5 8 14 ((σ5.1 8 14) + 1))) post n6 0 σ)) ∧ ((σ.1 8 14) = 10 → (∃ n13 : Nat, f_X12_know_L14 (fun σ10 => ∃ n12 : Nat, f_X12_know_L57 (fun σ11 => post (st_up σ11 8 14 ((σ11.1 8 14) + 1))) post n12 0 (st_up σ10 8 14 ((σ10.1 8 14) - 1))) post n13 0 σ))
set_option maxRecDepth 100000 in
set_option maxHeartbeats 4000000 in
theorem c_X12_know (σ : St) (post : St → Prop) (hf : f_X12_know σ post) : Ct SM yX12_know cX12_know 2 none 0 (EQv SM post) [.ref 0] σ := by
  rw [f_X12_know] at hf
  refine ct_of (by decide) rfl (Nat.le_of_ble_eq_true rfl) ?_
  show Ev SM RX12 cX12_know 2 none 0 (EQv SM post) 0 [some (.ref 0), none] [] σ
  refine ev_aload_n (pc := 0) dX12_know_0 rfl (i := 0) rfl ?_
  refine ev_get (pc := 1) fl_X12_32_12_16 rfl (by decide) rfl rfl dX12_know_1 ?_
  refine ev_bipush (pc := 4) (v := 14) dX12_know_4 kb_14 ?_
  refine ev_iald (pc := 6) rfl rfl ki_14_465 kn_14 dX12_know_6 ?_
  refine ev_bipush (pc := 7) (v := 10) dX12_know_7 kb_10 ?_
  refine ev_icmp_ne (pc := 9) (tgt := 55) dX12_know_9 (by decide) (fun c1 => ?_) (fun c1 => ?_)
  · have hf := hf.1 c1
    refine ev_iconst (pc := 55) (v := 0) dX12_know_55 kc_0 ?_
    refine ev_istore_n (pc := 56) (L' := [some (.ref 0), some (.int 0)]) dX12_know_56 rfl (by decide) rfl rfl ?_
    obtain ⟨n6, hf⟩ := hf
    exact p_X12_know_L57 _ post (fun σ5 hf => by
      refine ev_aload_n (pc := 95) dX12_know_95 rfl (i := 0) rfl ?_
      refine ev_get (pc := 96) fl_X12_32_12_16 rfl (by decide) rfl rfl dX12_know_96 ?_
      refine ev_bipush (pc := 99) (v := 14) dX12_know_99 kb_14 ?_
      refine ev_dup2 (pc := 101) dX12_know_101 rfl rfl ?_
      refine ev_iald (pc := 102) rfl rfl ki_14_465 kn_14 dX12_know_102 ?_
      refine ev_iconst (pc := 103) (v := 1) dX12_know_103 kc_1 ?_
      refine ev_iadd (pc := 104) dX12_know_104 ?_
      refine ev_iast (pc := 105) rfl rfl ki_14_465 kn_14 dX12_know_105 ?_
      exact ev_vret (pc := 106) rfl dX12_know_106 hf) n6 _ _ hf
  · have hf := hf.2 c1
    refine ev_iconst (pc := 12) (v := 0) dX12_know_12 kc_0 ?_
    refine ev_istore_n (pc := 13) (L' := [some (.ref 0), some (.int 0)]) dX12_know_13 rfl (by decide) rfl rfl ?_
    obtain ⟨n13, hf⟩ := hf
    exact p_X12_know_L14 _ post (fun σ10 hf => by
      refine ev_aload_n (pc := 44) dX12_know_44 rfl (i := 0) rfl ?_
      refine ev_get (pc := 45) fl_X12_32_12_16 rfl (by decide) rfl rfl dX12_know_45 ?_
      refine ev_bipush (pc := 48) (v := 14) dX12_know_48 kb_14 ?_
      refine ev_dup2 (pc := 50) dX12_know_50 rfl rfl ?_
      refine ev_iald (pc := 51) rfl rfl ki_14_465 kn_14 dX12_know_51 ?_
      refine ev_iconst (pc := 52) (v := 1) dX12_know_52 kc_1 ?_
      refine ev_isub (pc := 53) dX12_know_53 ?_
      refine ev_iast (pc := 54) rfl rfl ki_14_465 kn_14 dX12_know_54 ?_
      refine ev_iconst (pc := 55) (v := 0) dX12_know_55 kc_0 ?_
      refine ev_istore_n (pc := 56) (L' := [some (.ref 0), some (.int 0)]) dX12_know_56 rfl (by decide) rfl rfl ?_
      obtain ⟨n12, hf⟩ := hf
      exact p_X12_know_L57 _ post (fun σ11 hf => by
        refine ev_aload_n (pc := 95) dX12_know_95 rfl (i := 0) rfl ?_
        refine ev_get (pc := 96) fl_X12_32_12_16 rfl (by decide) rfl rfl dX12_know_96 ?_
        refine ev_bipush (pc := 99) (v := 14) dX12_know_99 kb_14 ?_
        refine ev_dup2 (pc := 101) dX12_know_101 rfl rfl ?_
        refine ev_iald (pc := 102) rfl rfl ki_14_465 kn_14 dX12_know_102 ?_
        refine ev_iconst (pc := 103) (v := 1) dX12_know_103 kc_1 ?_
        refine ev_iadd (pc := 104) dX12_know_104 ?_
        refine ev_iast (pc := 105) rfl rfl ki_14_465 kn_14 dX12_know_105 ?_
        exact ev_vret (pc := 106) rfl dX12_know_106 hf) n12 _ _ hf) n13 _ _ hf
def f_X12_week_J76_36 (a1 : Int32) (again36 : Int32 → St → Prop) (k109 : St → Prop) (post : Int32 → St → Prop) (v2 : Int32) (s0 : Int32) (σ : St) : Prop := (s0 ≤ 0 → (vp_in (6 + v2) 465 ∧ (vp_in (6 + v2) 465 ∧ (again36 (v2 + 1) (st_up σ 8 ((6 + v2).toNatClampNeg) (σ.1 8 ((6 + v2).toNatClampNeg))))))) ∧ (¬ s0 ≤ 0 → (vp_in (6 + v2) 465 ∧ (again36 (v2 + 1) (st_up σ 8 ((6 + v2).toNatClampNeg) s0))))
set_option maxRecDepth 100000 in
set_option maxHeartbeats 4000000 in
theorem p_X12_week_J76_36 (a1 : Int32) (again36 : Int32 → St → Prop) (k109 : St → Prop) (post : Int32 → St → Prop) (hagain36 : ∀ (v2 : Int32) (τ : St), again36 v2 τ → Ev SM RX12 cX12_week 4 (some .int) 3 (EQi SM post) 36 [some (.ref 0), some (.int a1), some (.int v2), none] [] τ) (hk109 : ∀ (τ : St), k109 τ → Ev SM RX12 cX12_week 4 (some .int) 3 (EQi SM post) 109 [some (.ref 0), some (.int a1), none, none] [] τ) (v2 : Int32) (s0 : Int32) (σ : St) (hf : f_X12_week_J76_36 a1 again36 k109 post v2 s0 σ) : Ev SM RX12 cX12_week 4 (some .int) 3 (EQi SM post) 76 [some (.ref 0), some (.int a1), some (.int v2), none] [.int s0] σ := by
  rw [f_X12_week_J76_36] at hf
  refine ev_istore_n (pc := 76) (L' := [some (.ref 0), some (.int a1), some (.int v2), some (.int s0)]) dX12_week_76 rfl (by decide) rfl rfl ?_
  refine ev_aload_n (pc := 77) dX12_week_77 rfl (i := 0) rfl ?_
  refine ev_get (pc := 78) fl_X12_32_12_16 rfl (by decide) rfl rfl dX12_week_78 ?_
  refine ev_bipush (pc := 81) (v := 6) dX12_week_81 kb_6 ?_
  refine ev_iload_n (pc := 83) dX12_week_83 rfl (i := 2) rfl ?_
  refine ev_iadd (pc := 84) dX12_week_84 ?_
  refine ev_iload_n (pc := 85) dX12_week_85 rfl (i := 3) rfl ?_
  refine ev_if_le (pc := 86) (tgt := 93) dX12_week_86 (by decide) (fun c11 => ?_) (fun c11 => ?_)
  · have hf := hf.1 c11
    refine ev_aload_n (pc := 93) dX12_week_93 rfl (i := 0) rfl ?_
    refine ev_get (pc := 94) fl_X12_32_12_16 rfl (by decide) rfl rfl dX12_week_94 ?_
    refine ev_bipush (pc := 97) (v := 6) dX12_week_97 kb_6 ?_
    refine ev_iload_n (pc := 99) dX12_week_99 rfl (i := 2) rfl ?_
    refine ev_iadd (pc := 100) dX12_week_100 ?_
    obtain ⟨h12, hf⟩ := hf
    refine ev_iald (pc := 101) rfl rfl h12 rfl dX12_week_101 ?_
    obtain ⟨h13, hf⟩ := hf
    refine ev_iast (pc := 102) rfl rfl h13 rfl dX12_week_102 ?_
    refine ev_iinc (pc := 103) (v := v2 + 1) (L' := [some (.ref 0), some (.int a1), some (.int (v2 + 1)), some (.int s0)]) dX12_week_103 rfl (by rw [kc_1]) (by decide) rfl rfl ?_
    refine ev_goto (pc := 106) (tgt := 36) dX12_week_106 (by decide) ?_
    refine ev_mask [true, true, true, false] (L' := [some (.ref 0), some (.int a1), some (.int (v2 + 1)), none]) rfl ?_
    exact hagain36 _ _ hf
  · have hf := hf.2 c11
    refine ev_iload_n (pc := 89) dX12_week_89 rfl (i := 3) rfl ?_
    refine ev_goto (pc := 90) (tgt := 102) dX12_week_90 (by decide) ?_
    obtain ⟨h14, hf⟩ := hf
    refine ev_iast (pc := 102) rfl rfl h14 rfl dX12_week_102 ?_
    refine ev_iinc (pc := 103) (v := v2 + 1) (L' := [some (.ref 0), some (.int a1), some (.int (v2 + 1)), some (.int s0)]) dX12_week_103 rfl (by rw [kc_1]) (by decide) rfl rfl ?_
    refine ev_goto (pc := 106) (tgt := 36) dX12_week_106 (by decide) ?_
    refine ev_mask [true, true, true, false] (L' := [some (.ref 0), some (.int a1), some (.int (v2 + 1)), none]) rfl ?_
    exact hagain36 _ _ hf
def f_X12_week_L36 (a1 : Int32) (k109 : St → Prop) (post : Int32 → St → Prop) : Nat → Int32 → St → Prop
  | 0, _, _ => False
  | n + 1, v2, σ => ((σ.1 2 0) ≤ v2 → (k109 σ)) ∧ (¬ (σ.1 2 0) ≤ v2 → ((¬ ((a1 >>> (v2 &&& 31)) &&& 1) = 1 → (f_X12_week_J76_36 a1 (f_X12_week_L36 a1 k109 post n) k109 post v2 0 σ)) ∧ (((a1 >>> (v2 &&& 31)) &&& 1) = 1 → (f_X12_begins 10 24 0 a1 v2 σ (fun x16 σ15 => f_X12_brings (x16 / 2) σ15 (fun x18 σ17 => f_X12_week_J76_36 a1 (f_X12_week_L36 a1 k109 post n) k109 post v2 x18 σ17))))))
set_option maxRecDepth 100000 in
set_option maxHeartbeats 4000000 in
theorem p_X12_week_L36 (a1 : Int32) (k109 : St → Prop) (post : Int32 → St → Prop) (hk109 : ∀ (τ : St), k109 τ → Ev SM RX12 cX12_week 4 (some .int) 3 (EQi SM post) 109 [some (.ref 0), some (.int a1), none, none] [] τ) : ∀ (n : Nat) (v2 : Int32) (σ : St), f_X12_week_L36 a1 k109 post n v2 σ → Ev SM RX12 cX12_week 4 (some .int) 3 (EQi SM post) 36 [some (.ref 0), some (.int a1), some (.int v2), none] [] σ := by
  intro n
  induction n with
  | zero =>
    intro v2 σ hf
    exact hf.elim
  | succ n hagain36 =>
    intro v2 σ hf
    rw [f_X12_week_L36] at hf
    refine ev_iload_n (pc := 36) dX12_week_36 rfl (i := 2) rfl ?_
    refine ev_aload_n (pc := 37) dX12_week_37 rfl (i := 0) rfl ?_
    refine ev_get (pc := 38) fl_X12_13_12_3 rfl (by decide) rfl rfl dX12_week_38 ?_
    refine ev_iconst (pc := 41) (v := 0) dX12_week_41 kc_0 ?_
    refine ev_iald (pc := 42) rfl rfl ki_0_2 kn_0 dX12_week_42 ?_
    refine ev_icmp_ge (pc := 43) (tgt := 109) dX12_week_43 (by decide) (fun c9 => ?_) (fun c9 => ?_)
    · have hf := hf.1 c9
      refine ev_mask [true, true, false, false] (L' := [some (.ref 0), some (.int a1), none, none]) rfl ?_
      exact hk109 _ hf
    · have hf := hf.2 c9
      refine ev_iload_n (pc := 46) dX12_week_46 rfl (i := 1) rfl ?_
      refine ev_iload_n (pc := 47) dX12_week_47 rfl (i := 2) rfl ?_
      refine ev_ishr (pc := 48) dX12_week_48 ?_
      refine ev_iconst (pc := 49) (v := 1) dX12_week_49 kc_1 ?_
      refine ev_iand (pc := 50) dX12_week_50 ?_
      refine ev_iconst (pc := 51) (v := 1) dX12_week_51 kc_1 ?_
      refine ev_icmp_ne (pc := 52) (tgt := 75) dX12_week_52 (by decide) (fun c10 => ?_) (fun c10 => ?_)
      · have hf := hf.1 c10
        refine ev_iconst (pc := 75) (v := 0) dX12_week_75 kc_0 ?_
        exact p_X12_week_J76_36 a1 (f_X12_week_L36 a1 k109 post n) k109 post hagain36 hk109 _ _ _ hf
      · have hf := hf.2 c10
        refine ev_aload_n (pc := 55) dX12_week_55 rfl (i := 0) rfl ?_
        refine ev_aload_n (pc := 56) dX12_week_56 rfl (i := 0) rfl ?_
        refine ev_aload_n (pc := 57) dX12_week_57 rfl (i := 0) rfl ?_
        refine ev_get (pc := 58) fl_X12_39_12_18 rfl (by decide) rfl rfl dX12_week_58 ?_
        refine ev_iconst (pc := 61) (v := 0) dX12_week_61 kc_0 ?_
        refine ev_iload_n (pc := 62) dX12_week_62 rfl (i := 1) rfl ?_
        refine ev_iload_n (pc := 63) dX12_week_63 rfl (i := 2) rfl ?_
        refine ev_calli (pc := 64) (stk := [.ref 0]) (ce_V (c_X12_begins 10 24 0 a1 v2 rfl σ _ hf) wv_X12_143_X12_begins rfl (by decide) rfl (by decide) rfl (Nat.le_of_ble_eq_true rfl) rfl dX12_week_64) (fun x16 σ15 hf => ?_)
        refine ev_iconst (pc := 67) (v := 2) dX12_week_67 kc_2 ?_
        refine ev_idiv (pc := 68) dX12_week_68 (by decide) ?_
        refine ev_calli (pc := 69) (stk := []) (ce_V (c_X12_brings (x16 / 2) σ15 _ hf) wv_X12_147_X12_brings rfl (by decide) rfl (by decide) rfl (Nat.le_of_ble_eq_true rfl) rfl dX12_week_69) (fun x18 σ17 hf => ?_)
        refine ev_goto (pc := 72) (tgt := 76) dX12_week_72 (by decide) ?_
        exact p_X12_week_J76_36 a1 (f_X12_week_L36 a1 k109 post n) k109 post hagain36 hk109 _ _ _ hf
def f_X12_week_L123 (a1 : Int32) (k153 : Int32 → St → Prop) (post : Int32 → St → Prop) : Nat → Int32 → Int32 → St → Prop
  | 0, _, _, _ => False
  | n + 1, v2, v3, σ => ((σ.1 2 0) ≤ v3 → (k153 v2 σ)) ∧ (¬ (σ.1 2 0) ≤ v3 → (vp_in v3 24 ∧ (vp_in (0 + v3) 465 ∧ ((f_X12_week_L123 a1 k153 post n) v2 (v3 + 1) (st_up σ 8 ((0 + v3).toNatClampNeg) (σ.1 10 v3.toNatClampNeg))))))
set_option maxRecDepth 100000 in
set_option maxHeartbeats 4000000 in
theorem p_X12_week_L123 (a1 : Int32) (k153 : Int32 → St → Prop) (post : Int32 → St → Prop) (hk153 : ∀ (v2 : Int32) (τ : St), k153 v2 τ → Ev SM RX12 cX12_week 4 (some .int) 3 (EQi SM post) 153 [some (.ref 0), some (.int a1), some (.int v2), none] [] τ) : ∀ (n : Nat) (v2 : Int32) (v3 : Int32) (σ : St), f_X12_week_L123 a1 k153 post n v2 v3 σ → Ev SM RX12 cX12_week 4 (some .int) 3 (EQi SM post) 123 [some (.ref 0), some (.int a1), some (.int v2), some (.int v3)] [] σ := by
  intro n
  induction n with
  | zero =>
    intro v2 v3 σ hf
    exact hf.elim
  | succ n hagain123 =>
    intro v2 v3 σ hf
    rw [f_X12_week_L123] at hf
    refine ev_iload_n (pc := 123) dX12_week_123 rfl (i := 3) rfl ?_
    refine ev_aload_n (pc := 124) dX12_week_124 rfl (i := 0) rfl ?_
    refine ev_get (pc := 125) fl_X12_13_12_3 rfl (by decide) rfl rfl dX12_week_125 ?_
    refine ev_iconst (pc := 128) (v := 0) dX12_week_128 kc_0 ?_
    refine ev_iald (pc := 129) rfl rfl ki_0_2 kn_0 dX12_week_129 ?_
    refine ev_icmp_ge (pc := 130) (tgt := 153) dX12_week_130 (by decide) (fun c22 => ?_) (fun c22 => ?_)
    · have hf := hf.1 c22
      refine ev_mask [true, true, true, false] (L' := [some (.ref 0), some (.int a1), some (.int v2), none]) rfl ?_
      exact hk153 _ _ hf
    · have hf := hf.2 c22
      refine ev_aload_n (pc := 133) dX12_week_133 rfl (i := 0) rfl ?_
      refine ev_get (pc := 134) fl_X12_32_12_16 rfl (by decide) rfl rfl dX12_week_134 ?_
      refine ev_iconst (pc := 137) (v := 0) dX12_week_137 kc_0 ?_
      refine ev_iload_n (pc := 138) dX12_week_138 rfl (i := 3) rfl ?_
      refine ev_iadd (pc := 139) dX12_week_139 ?_
      refine ev_aload_n (pc := 140) dX12_week_140 rfl (i := 0) rfl ?_
      refine ev_get (pc := 141) fl_X12_39_12_18 rfl (by decide) rfl rfl dX12_week_141 ?_
      refine ev_iload_n (pc := 144) dX12_week_144 rfl (i := 3) rfl ?_
      obtain ⟨h23, hf⟩ := hf
      refine ev_iald (pc := 145) rfl rfl h23 rfl dX12_week_145 ?_
      obtain ⟨h24, hf⟩ := hf
      refine ev_iast (pc := 146) rfl rfl h24 rfl dX12_week_146 ?_
      refine ev_iinc (pc := 147) (v := v3 + 1) (L' := [some (.ref 0), some (.int a1), some (.int v2), some (.int (v3 + 1))]) dX12_week_147 rfl (by rw [kc_1]) (by decide) rfl rfl ?_
      refine ev_goto (pc := 150) (tgt := 123) dX12_week_150 (by decide) ?_
      exact hagain123 _ _ _ hf
def f_X12_week_J187 (a1 : Int32) (post : Int32 → St → Prop) (v2 : Int32) (s0 : Int32) (s1 : Int32) (σ : St) : Prop := vp_in s1 465 ∧ (∀ σ29 : St, σ29 = (st_up σ 8 s1.toNatClampNeg s0) → (post v2 (st_up σ29 8 13 (((st_up σ 8 s1.toNatClampNeg s0).1 8 13) + 1))))
set_option maxRecDepth 100000 in
set_option maxHeartbeats 4000000 in
theorem p_X12_week_J187 (a1 : Int32) (post : Int32 → St → Prop) (v2 : Int32) (s0 : Int32) (s1 : Int32) (σ : St) (hf : f_X12_week_J187 a1 post v2 s0 s1 σ) : Ev SM RX12 cX12_week 4 (some .int) 3 (EQi SM post) 187 [some (.ref 0), some (.int a1), some (.int v2), none] [.int s0, .int s1, .ref 8] σ := by
  rw [f_X12_week_J187] at hf
  obtain ⟨h28, hf⟩ := hf
  refine ev_iast (pc := 187) rfl rfl h28 rfl dX12_week_187 ?_
  refine ev_aload_n (pc := 188) dX12_week_188 rfl (i := 0) rfl ?_
  refine ev_get (pc := 189) fl_X12_32_12_16 rfl (by decide) rfl rfl dX12_week_189 ?_
  refine ev_bipush (pc := 192) (v := 13) dX12_week_192 kb_13 ?_
  refine ev_dup2 (pc := 194) dX12_week_194 rfl rfl ?_
  refine ev_iald (pc := 195) rfl rfl ki_13_465 kn_13 dX12_week_195 ?_
  refine ev_iconst (pc := 196) (v := 1) dX12_week_196 kc_1 ?_
  refine ev_iadd (pc := 197) dX12_week_197 ?_
  refine ev_nm (fun σ29 q29 => ?_)
  have hf := hf σ29 q29
  refine ev_iast (pc := 198) rfl rfl ki_13_465 kn_13 dX12_week_198 ?_
  refine ev_iload_n (pc := 199) dX12_week_199 rfl (i := 2) rfl ?_
  exact ev_iret (pc := 200) rfl dX12_week_200 hf
def f_X12_week (a1 : Int32) (σ : St) (post : Int32 → St → Prop) : Prop := f_X12_isShift a1 σ (fun x2 σ1 => (¬ x2 = 0 → ((¬ (σ1.1 8 13) = 300 → (f_X12_know σ1 (fun σ5 => f_X12_take σ5 (fun σ7 => ∃ n31 : Nat, f_X12_week_L36 a1 (fun σ19 => f_X12_pass 10 24 0 0 a1 σ19 (fun x21 σ20 => ∃ n30 : Nat, f_X12_week_L123 a1 (fun x26 σ25 => (((σ25.1 8 12) + x26) ≤ 999999 → (f_X12_week_J187 a1 post x26 ((σ25.1 8 12) + x26) 12 σ25)) ∧ (¬ ((σ25.1 8 12) + x26) ≤ 999999 → (f_X12_week_J187 a1 post x26 999999 12 σ25))) post n30 x21 0 σ20)) post n31 0 σ7)))) ∧ ((σ1.1 8 13) = 300 → (post (-2) σ1)))) ∧ (x2 = 0 → (post (-1) σ1)))
set_option maxRecDepth 100000 in
set_option maxHeartbeats 4000000 in
theorem c_X12_week (a1 : Int32) (σ : St) (post : Int32 → St → Prop) (hf : f_X12_week a1 σ post) : Ct SM yX12_week cX12_week 4 (some .int) 3 (EQi SM post) [.ref 0, .int a1] σ := by
  rw [f_X12_week] at hf
  refine ct_of (by decide) rfl (Nat.le_of_ble_eq_true rfl) ?_
  show Ev SM RX12 cX12_week 4 (some .int) 3 (EQi SM post) 0 [some (.ref 0), some (.int a1), none, none] [] σ
  refine ev_aload_n (pc := 0) dX12_week_0 rfl (i := 0) rfl ?_
  refine ev_iload_n (pc := 1) dX12_week_1 rfl (i := 1) rfl ?_
  refine ev_calli (pc := 2) (stk := []) (ce_V (c_X12_isShift a1 σ _ hf) wv_X12_150_X12_isShift rfl (by decide) rfl (by decide) rfl (Nat.le_of_ble_eq_true rfl) rfl dX12_week_2) (fun x2 σ1 hf => ?_)
  refine ev_if_ne (pc := 5) (tgt := 10) dX12_week_5 (by decide) (fun c3 => ?_) (fun c3 => ?_)
  · have hf := hf.1 c3
    refine ev_aload_n (pc := 10) dX12_week_10 rfl (i := 0) rfl ?_
    refine ev_get (pc := 11) fl_X12_32_12_16 rfl (by decide) rfl rfl dX12_week_11 ?_
    refine ev_bipush (pc := 14) (v := 13) dX12_week_14 kb_13 ?_
    refine ev_iald (pc := 16) rfl rfl ki_13_465 kn_13 dX12_week_16 ?_
    refine ev_sipush (pc := 17) (v := 300) dX12_week_17 ks_300 ?_
    refine ev_icmp_ne (pc := 20) (tgt := 26) dX12_week_20 (by decide) (fun c4 => ?_) (fun c4 => ?_)
    · have hf := hf.1 c4
      refine ev_aload_n (pc := 26) dX12_week_26 rfl (i := 0) rfl ?_
      refine ev_callv (pc := 27) (stk := []) (ce_V (c_X12_know σ1 _ hf) wv_X12_153_X12_know rfl (by decide) rfl (by decide) rfl (Nat.le_of_ble_eq_true rfl) rfl dX12_week_27) (fun σ5 hf => ?_)
      refine ev_aload_n (pc := 30) dX12_week_30 rfl (i := 0) rfl ?_
      refine ev_callv (pc := 31) (stk := []) (ce_V (c_X12_take σ5 _ hf) wv_X12_156_X12_take rfl (by decide) rfl (by decide) rfl (Nat.le_of_ble_eq_true rfl) rfl dX12_week_31) (fun σ7 hf => ?_)
      refine ev_iconst (pc := 34) (v := 0) dX12_week_34 kc_0 ?_
      refine ev_istore_n (pc := 35) (L' := [some (.ref 0), some (.int a1), some (.int 0), none]) dX12_week_35 rfl (by decide) rfl rfl ?_
      obtain ⟨n31, hf⟩ := hf
      exact p_X12_week_L36 a1 _ post (fun σ19 hf => by
        refine ev_aload_n (pc := 109) dX12_week_109 rfl (i := 0) rfl ?_
        refine ev_aload_n (pc := 110) dX12_week_110 rfl (i := 0) rfl ?_
        refine ev_get (pc := 111) fl_X12_39_12_18 rfl (by decide) rfl rfl dX12_week_111 ?_
        refine ev_iconst (pc := 114) (v := 0) dX12_week_114 kc_0 ?_
        refine ev_iconst (pc := 115) (v := 0) dX12_week_115 kc_0 ?_
        refine ev_iload_n (pc := 116) dX12_week_116 rfl (i := 1) rfl ?_
        refine ev_calli (pc := 117) (stk := []) (ce_V (c_X12_pass 10 24 0 0 a1 rfl σ19 _ hf) wv_X12_159_X12_pass rfl (by decide) rfl (by decide) rfl (Nat.le_of_ble_eq_true rfl) rfl dX12_week_117) (fun x21 σ20 hf => ?_)
        refine ev_istore_n (pc := 120) (L' := [some (.ref 0), some (.int a1), some (.int x21), none]) dX12_week_120 rfl (by decide) rfl rfl ?_
        refine ev_iconst (pc := 121) (v := 0) dX12_week_121 kc_0 ?_
        refine ev_istore_n (pc := 122) (L' := [some (.ref 0), some (.int a1), some (.int x21), some (.int 0)]) dX12_week_122 rfl (by decide) rfl rfl ?_
        obtain ⟨n30, hf⟩ := hf
        exact p_X12_week_L123 a1 _ post (fun x26 σ25 hf => by
          refine ev_aload_n (pc := 153) dX12_week_153 rfl (i := 0) rfl ?_
          refine ev_get (pc := 154) fl_X12_32_12_16 rfl (by decide) rfl rfl dX12_week_154 ?_
          refine ev_bipush (pc := 157) (v := 12) dX12_week_157 kb_12 ?_
          refine ev_aload_n (pc := 159) dX12_week_159 rfl (i := 0) rfl ?_
          refine ev_get (pc := 160) fl_X12_32_12_16 rfl (by decide) rfl rfl dX12_week_160 ?_
          refine ev_bipush (pc := 163) (v := 12) dX12_week_163 kb_12 ?_
          refine ev_iald (pc := 165) rfl rfl ki_12_465 kn_12 dX12_week_165 ?_
          refine ev_iload_n (pc := 166) dX12_week_166 rfl (i := 2) rfl ?_
          refine ev_iadd (pc := 167) dX12_week_167 ?_
          refine ev_ldc (pc := 168) wk_X12_162 dX12_week_168 ?_
          refine ev_icmp_le (pc := 170) (tgt := 178) dX12_week_170 (by decide) (fun c27 => ?_) (fun c27 => ?_)
          · have hf := hf.1 c27
            refine ev_aload_n (pc := 178) dX12_week_178 rfl (i := 0) rfl ?_
            refine ev_get (pc := 179) fl_X12_32_12_16 rfl (by decide) rfl rfl dX12_week_179 ?_
            refine ev_bipush (pc := 182) (v := 12) dX12_week_182 kb_12 ?_
            refine ev_iald (pc := 184) rfl rfl ki_12_465 kn_12 dX12_week_184 ?_
            refine ev_iload_n (pc := 185) dX12_week_185 rfl (i := 2) rfl ?_
            refine ev_iadd (pc := 186) dX12_week_186 ?_
            exact p_X12_week_J187 a1 post _ _ _ _ hf
          · have hf := hf.2 c27
            refine ev_ldc (pc := 173) wk_X12_162 dX12_week_173 ?_
            refine ev_goto (pc := 175) (tgt := 187) dX12_week_175 (by decide) ?_
            exact p_X12_week_J187 a1 post _ _ _ _ hf) n30 _ _ _ hf) n31 _ _ hf
    · have hf := hf.2 c4
      refine ev_bipush (pc := 23) (v := (-2)) dX12_week_23 kb_m2 ?_
      exact ev_iret (pc := 25) rfl dX12_week_25 hf
  · have hf := hf.2 c3
    refine ev_iconst (pc := 8) (v := (-1)) dX12_week_8 kc_m1 ?_
    exact ev_iret (pc := 9) rfl dX12_week_9 hf
def f_X12_quarrel (a1 : Int32) (a2 : Int32) (a3 : Int32) (σ : St) (post : Int32 → St → Prop) : Prop := f_X12_isMan a1 σ (fun x2 σ1 => (x2 = 0 → (post (-1) σ1)) ∧ (¬ x2 = 0 → (f_X12_isMan a2 σ1 (fun x5 σ4 => (x5 = 0 → (post (-1) σ4)) ∧ (¬ x5 = 0 → ((a1 = a2 → (post (-1) σ4)) ∧ (¬ a1 = a2 → (f_X12_in a3 1 50 σ4 (fun x9 σ8 => (¬ x9 = 0 → (f_X12_know σ8 (fun σ11 => vp_in (0 + a1) 465 ∧ (f_X12_held ((σ11.1 8 ((0 + a1).toNatClampNeg)) + a3) σ11 (fun x15 σ14 => vp_in (0 + a1) 465 ∧ (vp_in (0 + a2) 465 ∧ (f_X12_held (((st_up σ14 8 ((0 + a1).toNatClampNeg) x15).1 8 ((0 + a2).toNatClampNeg)) + a3) (st_up σ14 8 ((0 + a1).toNatClampNeg) x15) (fun x19 σ18 => vp_in (0 + a2) 465 ∧ (vp_in (0 + a1) 465 ∧ (post ((st_up σ18 8 ((0 + a2).toNatClampNeg) x19).1 8 ((0 + a1).toNatClampNeg)) (st_up σ18 8 ((0 + a2).toNatClampNeg) x19))))))))))) ∧ (x9 = 0 → (post (-1) σ8)))))))))))
set_option maxRecDepth 100000 in
set_option maxHeartbeats 4000000 in
theorem c_X12_quarrel (a1 : Int32) (a2 : Int32) (a3 : Int32) (σ : St) (post : Int32 → St → Prop) (hf : f_X12_quarrel a1 a2 a3 σ post) : Ct SM yX12_quarrel cX12_quarrel 4 (some .int) 2 (EQi SM post) [.ref 0, .int a1, .int a2, .int a3] σ := by
  rw [f_X12_quarrel] at hf
  refine ct_of (by decide) rfl (Nat.le_of_ble_eq_true rfl) ?_
  show Ev SM RX12 cX12_quarrel 4 (some .int) 2 (EQi SM post) 0 [some (.ref 0), some (.int a1), some (.int a2), some (.int a3)] [] σ
  refine ev_aload_n (pc := 0) dX12_quarrel_0 rfl (i := 0) rfl ?_
  refine ev_iload_n (pc := 1) dX12_quarrel_1 rfl (i := 1) rfl ?_
  refine ev_calli (pc := 2) (stk := []) (ce_V (c_X12_isMan a1 σ _ hf) wv_X12_136_X12_isMan rfl (by decide) rfl (by decide) rfl (Nat.le_of_ble_eq_true rfl) rfl dX12_quarrel_2) (fun x2 σ1 hf => ?_)
  refine ev_if_eq (pc := 5) (tgt := 31) dX12_quarrel_5 (by decide) (fun c3 => ?_) (fun c3 => ?_)
  · have hf := hf.1 c3
    refine ev_iconst (pc := 31) (v := (-1)) dX12_quarrel_31 kc_m1 ?_
    exact ev_iret (pc := 32) rfl dX12_quarrel_32 hf
  · have hf := hf.2 c3
    refine ev_aload_n (pc := 8) dX12_quarrel_8 rfl (i := 0) rfl ?_
    refine ev_iload_n (pc := 9) dX12_quarrel_9 rfl (i := 2) rfl ?_
    refine ev_calli (pc := 10) (stk := []) (ce_V (c_X12_isMan a2 σ1 _ hf) wv_X12_136_X12_isMan rfl (by decide) rfl (by decide) rfl (Nat.le_of_ble_eq_true rfl) rfl dX12_quarrel_10) (fun x5 σ4 hf => ?_)
    refine ev_if_eq (pc := 13) (tgt := 31) dX12_quarrel_13 (by decide) (fun c6 => ?_) (fun c6 => ?_)
    · have hf := hf.1 c6
      refine ev_iconst (pc := 31) (v := (-1)) dX12_quarrel_31 kc_m1 ?_
      exact ev_iret (pc := 32) rfl dX12_quarrel_32 hf
    · have hf := hf.2 c6
      refine ev_iload_n (pc := 16) dX12_quarrel_16 rfl (i := 1) rfl ?_
      refine ev_iload_n (pc := 17) dX12_quarrel_17 rfl (i := 2) rfl ?_
      refine ev_icmp_eq (pc := 18) (tgt := 31) dX12_quarrel_18 (by decide) (fun c7 => ?_) (fun c7 => ?_)
      · have hf := hf.1 c7
        refine ev_iconst (pc := 31) (v := (-1)) dX12_quarrel_31 kc_m1 ?_
        exact ev_iret (pc := 32) rfl dX12_quarrel_32 hf
      · have hf := hf.2 c7
        refine ev_iload_n (pc := 21) dX12_quarrel_21 rfl (i := 3) rfl ?_
        refine ev_iconst (pc := 22) (v := 1) dX12_quarrel_22 kc_1 ?_
        refine ev_bipush (pc := 23) (v := 50) dX12_quarrel_23 kb_50 ?_
        refine ev_calli (pc := 25) (stk := []) (ce_S (c_X12_in a3 1 50 σ4 _ hf) wt_X12_69_X12_in  (by decide) rfl (Nat.le_of_ble_eq_true rfl) rfl dX12_quarrel_25) (fun x9 σ8 hf => ?_)
        refine ev_if_ne (pc := 28) (tgt := 33) dX12_quarrel_28 (by decide) (fun c10 => ?_) (fun c10 => ?_)
        · have hf := hf.1 c10
          refine ev_aload_n (pc := 33) dX12_quarrel_33 rfl (i := 0) rfl ?_
          refine ev_callv (pc := 34) (stk := []) (ce_V (c_X12_know σ8 _ hf) wv_X12_153_X12_know rfl (by decide) rfl (by decide) rfl (Nat.le_of_ble_eq_true rfl) rfl dX12_quarrel_34) (fun σ11 hf => ?_)
          refine ev_aload_n (pc := 37) dX12_quarrel_37 rfl (i := 0) rfl ?_
          refine ev_get (pc := 38) fl_X12_32_12_16 rfl (by decide) rfl rfl dX12_quarrel_38 ?_
          refine ev_iconst (pc := 41) (v := 0) dX12_quarrel_41 kc_0 ?_
          refine ev_iload_n (pc := 42) dX12_quarrel_42 rfl (i := 1) rfl ?_
          refine ev_iadd (pc := 43) dX12_quarrel_43 ?_
          refine ev_aload_n (pc := 44) dX12_quarrel_44 rfl (i := 0) rfl ?_
          refine ev_get (pc := 45) fl_X12_32_12_16 rfl (by decide) rfl rfl dX12_quarrel_45 ?_
          refine ev_iconst (pc := 48) (v := 0) dX12_quarrel_48 kc_0 ?_
          refine ev_iload_n (pc := 49) dX12_quarrel_49 rfl (i := 1) rfl ?_
          refine ev_iadd (pc := 50) dX12_quarrel_50 ?_
          obtain ⟨h13, hf⟩ := hf
          refine ev_iald (pc := 51) rfl rfl h13 rfl dX12_quarrel_51 ?_
          refine ev_iload_n (pc := 52) dX12_quarrel_52 rfl (i := 3) rfl ?_
          refine ev_iadd (pc := 53) dX12_quarrel_53 ?_
          refine ev_calli (pc := 54) (stk := [.int (0 + a1), .ref 8]) (ce_S (c_X12_held ((σ11.1 8 ((0 + a1).toNatClampNeg)) + a3) σ11 _ hf) wt_X12_140_X12_held  (by decide) rfl (Nat.le_of_ble_eq_true rfl) rfl dX12_quarrel_54) (fun x15 σ14 hf => ?_)
          obtain ⟨h16, hf⟩ := hf
          refine ev_iast (pc := 57) rfl rfl h16 rfl dX12_quarrel_57 ?_
          refine ev_aload_n (pc := 58) dX12_quarrel_58 rfl (i := 0) rfl ?_
          refine ev_get (pc := 59) fl_X12_32_12_16 rfl (by decide) rfl rfl dX12_quarrel_59 ?_
          refine ev_iconst (pc := 62) (v := 0) dX12_quarrel_62 kc_0 ?_
          refine ev_iload_n (pc := 63) dX12_quarrel_63 rfl (i := 2) rfl ?_
          refine ev_iadd (pc := 64) dX12_quarrel_64 ?_
          refine ev_aload_n (pc := 65) dX12_quarrel_65 rfl (i := 0) rfl ?_
          refine ev_get (pc := 66) fl_X12_32_12_16 rfl (by decide) rfl rfl dX12_quarrel_66 ?_
          refine ev_iconst (pc := 69) (v := 0) dX12_quarrel_69 kc_0 ?_
          refine ev_iload_n (pc := 70) dX12_quarrel_70 rfl (i := 2) rfl ?_
          refine ev_iadd (pc := 71) dX12_quarrel_71 ?_
          obtain ⟨h17, hf⟩ := hf
          refine ev_iald (pc := 72) rfl rfl h17 rfl dX12_quarrel_72 ?_
          refine ev_iload_n (pc := 73) dX12_quarrel_73 rfl (i := 3) rfl ?_
          refine ev_iadd (pc := 74) dX12_quarrel_74 ?_
          refine ev_calli (pc := 75) (stk := [.int (0 + a2), .ref 8]) (ce_S (c_X12_held (((st_up σ14 8 ((0 + a1).toNatClampNeg) x15).1 8 ((0 + a2).toNatClampNeg)) + a3) (st_up σ14 8 ((0 + a1).toNatClampNeg) x15) _ hf) wt_X12_140_X12_held  (by decide) rfl (Nat.le_of_ble_eq_true rfl) rfl dX12_quarrel_75) (fun x19 σ18 hf => ?_)
          obtain ⟨h20, hf⟩ := hf
          refine ev_iast (pc := 78) rfl rfl h20 rfl dX12_quarrel_78 ?_
          refine ev_aload_n (pc := 79) dX12_quarrel_79 rfl (i := 0) rfl ?_
          refine ev_get (pc := 80) fl_X12_32_12_16 rfl (by decide) rfl rfl dX12_quarrel_80 ?_
          refine ev_iconst (pc := 83) (v := 0) dX12_quarrel_83 kc_0 ?_
          refine ev_iload_n (pc := 84) dX12_quarrel_84 rfl (i := 1) rfl ?_
          refine ev_iadd (pc := 85) dX12_quarrel_85 ?_
          obtain ⟨h21, hf⟩ := hf
          refine ev_iald (pc := 86) rfl rfl h21 rfl dX12_quarrel_86 ?_
          exact ev_iret (pc := 87) rfl dX12_quarrel_87 hf
        · have hf := hf.2 c10
          refine ev_iconst (pc := 31) (v := (-1)) dX12_quarrel_31 kc_m1 ?_
          exact ev_iret (pc := 32) rfl dX12_quarrel_32 hf
def f_X12_forgives (a1 : Int32) (σ : St) (post : Int32 → St → Prop) : Prop := f_X12_isMan a1 σ (fun x2 σ1 => (¬ x2 = 0 → (f_X12_know σ1 (fun σ4 => vp_in (0 + a1) 465 ∧ (vp_in (0 + a1) 465 ∧ (post (σ4.1 8 ((0 + a1).toNatClampNeg)) (st_up σ4 8 ((0 + a1).toNatClampNeg) 0)))))) ∧ (x2 = 0 → (post (-1) σ1)))
set_option maxRecDepth 100000 in
set_option maxHeartbeats 4000000 in
theorem c_X12_forgives (a1 : Int32) (σ : St) (post : Int32 → St → Prop) (hf : f_X12_forgives a1 σ post) : Ct SM yX12_forgives cX12_forgives 3 (some .int) 2 (EQi SM post) [.ref 0, .int a1] σ := by
  rw [f_X12_forgives] at hf
  refine ct_of (by decide) rfl (Nat.le_of_ble_eq_true rfl) ?_
  show Ev SM RX12 cX12_forgives 3 (some .int) 2 (EQi SM post) 0 [some (.ref 0), some (.int a1), none] [] σ
  refine ev_aload_n (pc := 0) dX12_forgives_0 rfl (i := 0) rfl ?_
  refine ev_iload_n (pc := 1) dX12_forgives_1 rfl (i := 1) rfl ?_
  refine ev_calli (pc := 2) (stk := []) (ce_V (c_X12_isMan a1 σ _ hf) wv_X12_136_X12_isMan rfl (by decide) rfl (by decide) rfl (Nat.le_of_ble_eq_true rfl) rfl dX12_forgives_2) (fun x2 σ1 hf => ?_)
  refine ev_if_ne (pc := 5) (tgt := 10) dX12_forgives_5 (by decide) (fun c3 => ?_) (fun c3 => ?_)
  · have hf := hf.1 c3
    refine ev_aload_n (pc := 10) dX12_forgives_10 rfl (i := 0) rfl ?_
    refine ev_callv (pc := 11) (stk := []) (ce_V (c_X12_know σ1 _ hf) wv_X12_153_X12_know rfl (by decide) rfl (by decide) rfl (Nat.le_of_ble_eq_true rfl) rfl dX12_forgives_11) (fun σ4 hf => ?_)
    refine ev_aload_n (pc := 14) dX12_forgives_14 rfl (i := 0) rfl ?_
    refine ev_get (pc := 15) fl_X12_32_12_16 rfl (by decide) rfl rfl dX12_forgives_15 ?_
    refine ev_iconst (pc := 18) (v := 0) dX12_forgives_18 kc_0 ?_
    refine ev_iload_n (pc := 19) dX12_forgives_19 rfl (i := 1) rfl ?_
    refine ev_iadd (pc := 20) dX12_forgives_20 ?_
    obtain ⟨h6, hf⟩ := hf
    refine ev_iald (pc := 21) rfl rfl h6 rfl dX12_forgives_21 ?_
    refine ev_istore_n (pc := 22) (L' := [some (.ref 0), some (.int a1), some (.int (σ4.1 8 ((0 + a1).toNatClampNeg)))]) dX12_forgives_22 rfl (by decide) rfl rfl ?_
    refine ev_aload_n (pc := 23) dX12_forgives_23 rfl (i := 0) rfl ?_
    refine ev_get (pc := 24) fl_X12_32_12_16 rfl (by decide) rfl rfl dX12_forgives_24 ?_
    refine ev_iconst (pc := 27) (v := 0) dX12_forgives_27 kc_0 ?_
    refine ev_iload_n (pc := 28) dX12_forgives_28 rfl (i := 1) rfl ?_
    refine ev_iadd (pc := 29) dX12_forgives_29 ?_
    refine ev_iconst (pc := 30) (v := 0) dX12_forgives_30 kc_0 ?_
    obtain ⟨h7, hf⟩ := hf
    refine ev_iast (pc := 31) rfl rfl h7 rfl dX12_forgives_31 ?_
    refine ev_iload_n (pc := 32) dX12_forgives_32 rfl (i := 2) rfl ?_
    exact ev_iret (pc := 33) rfl dX12_forgives_33 hf
  · have hf := hf.2 c3
    refine ev_iconst (pc := 8) (v := (-1)) dX12_forgives_8 kc_m1 ?_
    exact ev_iret (pc := 9) rfl dX12_forgives_9 hf
def f_X12_buys (a1 : Int32) (σ : St) (post : Int32 → St → Prop) : Prop := f_X12_isMan a1 σ (fun x2 σ1 => (¬ x2 = 0 → (vp_in (6 + a1) 465 ∧ (((σ1.1 8 ((6 + a1).toNatClampNeg)) = 0 → (post (-2) σ1)) ∧ (¬ (σ1.1 8 ((6 + a1).toNatClampNeg)) = 0 → (vp_in (0 + a1) 465 ∧ ((((σ1.1 8 ((0 + a1).toNatClampNeg)) + (σ1.1 8 ((6 + a1).toNatClampNeg))) ≤ 999 → (f_X12_know σ1 (fun σ8 => vp_in (0 + a1) 465 ∧ (vp_in (0 + a1) 465 ∧ (∀ σ12 : St, σ12 = (st_up σ8 8 ((0 + a1).toNatClampNeg) ((σ8.1 8 ((0 + a1).toNatClampNeg)) + (σ1.1 8 ((6 + a1).toNatClampNeg)))) → (vp_in (6 + a1) 465 ∧ (∀ σ14 : St, σ14 = (st_up σ12 8 ((6 + a1).toNatClampNeg) 0) → (post (σ1.1 8 ((6 + a1).toNatClampNeg)) (st_up σ14 8 12 (((st_up σ12 8 ((6 + a1).toNatClampNeg) 0).1 8 12) - (σ1.1 8 ((6 + a1).toNatClampNeg)))))))))))) ∧ (¬ ((σ1.1 8 ((0 + a1).toNatClampNeg)) + (σ1.1 8 ((6 + a1).toNatClampNeg))) ≤ 999 → (post (-2) σ1)))))))) ∧ (x2 = 0 → (post (-1) σ1)))
set_option maxRecDepth 100000 in
set_option maxHeartbeats 4000000 in
theorem c_X12_buys (a1 : Int32) (σ : St) (post : Int32 → St → Prop) (hf : f_X12_buys a1 σ post) : Ct SM yX12_buys cX12_buys 3 (some .int) 2 (EQi SM post) [.ref 0, .int a1] σ := by
  rw [f_X12_buys] at hf
  refine ct_of (by decide) rfl (Nat.le_of_ble_eq_true rfl) ?_
  show Ev SM RX12 cX12_buys 3 (some .int) 2 (EQi SM post) 0 [some (.ref 0), some (.int a1), none] [] σ
  refine ev_aload_n (pc := 0) dX12_buys_0 rfl (i := 0) rfl ?_
  refine ev_iload_n (pc := 1) dX12_buys_1 rfl (i := 1) rfl ?_
  refine ev_calli (pc := 2) (stk := []) (ce_V (c_X12_isMan a1 σ _ hf) wv_X12_136_X12_isMan rfl (by decide) rfl (by decide) rfl (Nat.le_of_ble_eq_true rfl) rfl dX12_buys_2) (fun x2 σ1 hf => ?_)
  refine ev_if_ne (pc := 5) (tgt := 10) dX12_buys_5 (by decide) (fun c3 => ?_) (fun c3 => ?_)
  · have hf := hf.1 c3
    refine ev_aload_n (pc := 10) dX12_buys_10 rfl (i := 0) rfl ?_
    refine ev_get (pc := 11) fl_X12_32_12_16 rfl (by decide) rfl rfl dX12_buys_11 ?_
    refine ev_bipush (pc := 14) (v := 6) dX12_buys_14 kb_6 ?_
    refine ev_iload_n (pc := 16) dX12_buys_16 rfl (i := 1) rfl ?_
    refine ev_iadd (pc := 17) dX12_buys_17 ?_
    obtain ⟨h4, hf⟩ := hf
    refine ev_iald (pc := 18) rfl rfl h4 rfl dX12_buys_18 ?_
    refine ev_istore_n (pc := 19) (L' := [some (.ref 0), some (.int a1), some (.int (σ1.1 8 ((6 + a1).toNatClampNeg)))]) dX12_buys_19 rfl (by decide) rfl rfl ?_
    refine ev_iload_n (pc := 20) dX12_buys_20 rfl (i := 2) rfl ?_
    refine ev_if_eq (pc := 21) (tgt := 40) dX12_buys_21 (by decide) (fun c5 => ?_) (fun c5 => ?_)
    · have hf := hf.1 c5
      refine ev_bipush (pc := 40) (v := (-2)) dX12_buys_40 kb_m2 ?_
      exact ev_iret (pc := 42) rfl dX12_buys_42 hf
    · have hf := hf.2 c5
      refine ev_aload_n (pc := 24) dX12_buys_24 rfl (i := 0) rfl ?_
      refine ev_get (pc := 25) fl_X12_32_12_16 rfl (by decide) rfl rfl dX12_buys_25 ?_
      refine ev_iconst (pc := 28) (v := 0) dX12_buys_28 kc_0 ?_
      refine ev_iload_n (pc := 29) dX12_buys_29 rfl (i := 1) rfl ?_
      refine ev_iadd (pc := 30) dX12_buys_30 ?_
      obtain ⟨h6, hf⟩ := hf
      refine ev_iald (pc := 31) rfl rfl h6 rfl dX12_buys_31 ?_
      refine ev_iload_n (pc := 32) dX12_buys_32 rfl (i := 2) rfl ?_
      refine ev_iadd (pc := 33) dX12_buys_33 ?_
      refine ev_sipush (pc := 34) (v := 999) dX12_buys_34 ks_999 ?_
      refine ev_icmp_le (pc := 37) (tgt := 43) dX12_buys_37 (by decide) (fun c7 => ?_) (fun c7 => ?_)
      · have hf := hf.1 c7
        refine ev_aload_n (pc := 43) dX12_buys_43 rfl (i := 0) rfl ?_
        refine ev_callv (pc := 44) (stk := []) (ce_V (c_X12_know σ1 _ hf) wv_X12_153_X12_know rfl (by decide) rfl (by decide) rfl (Nat.le_of_ble_eq_true rfl) rfl dX12_buys_44) (fun σ8 hf => ?_)
        refine ev_aload_n (pc := 47) dX12_buys_47 rfl (i := 0) rfl ?_
        refine ev_get (pc := 48) fl_X12_32_12_16 rfl (by decide) rfl rfl dX12_buys_48 ?_
        refine ev_iconst (pc := 51) (v := 0) dX12_buys_51 kc_0 ?_
        refine ev_iload_n (pc := 52) dX12_buys_52 rfl (i := 1) rfl ?_
        refine ev_iadd (pc := 53) dX12_buys_53 ?_
        refine ev_dup2 (pc := 54) dX12_buys_54 rfl rfl ?_
        obtain ⟨h10, hf⟩ := hf
        refine ev_iald (pc := 55) rfl rfl h10 rfl dX12_buys_55 ?_
        refine ev_iload_n (pc := 56) dX12_buys_56 rfl (i := 2) rfl ?_
        refine ev_iadd (pc := 57) dX12_buys_57 ?_
        obtain ⟨h11, hf⟩ := hf
        refine ev_iast (pc := 58) rfl rfl h11 rfl dX12_buys_58 ?_
        refine ev_aload_n (pc := 59) dX12_buys_59 rfl (i := 0) rfl ?_
        refine ev_get (pc := 60) fl_X12_32_12_16 rfl (by decide) rfl rfl dX12_buys_60 ?_
        refine ev_bipush (pc := 63) (v := 6) dX12_buys_63 kb_6 ?_
        refine ev_iload_n (pc := 65) dX12_buys_65 rfl (i := 1) rfl ?_
        refine ev_iadd (pc := 66) dX12_buys_66 ?_
        refine ev_iconst (pc := 67) (v := 0) dX12_buys_67 kc_0 ?_
        refine ev_nm (fun σ12 q12 => ?_)
        have hf := hf σ12 q12
        obtain ⟨h13, hf⟩ := hf
        refine ev_iast (pc := 68) rfl rfl h13 rfl dX12_buys_68 ?_
        refine ev_aload_n (pc := 69) dX12_buys_69 rfl (i := 0) rfl ?_
        refine ev_get (pc := 70) fl_X12_32_12_16 rfl (by decide) rfl rfl dX12_buys_70 ?_
        refine ev_bipush (pc := 73) (v := 12) dX12_buys_73 kb_12 ?_
        refine ev_dup2 (pc := 75) dX12_buys_75 rfl rfl ?_
        refine ev_iald (pc := 76) rfl rfl ki_12_465 kn_12 dX12_buys_76 ?_
        refine ev_iload_n (pc := 77) dX12_buys_77 rfl (i := 2) rfl ?_
        refine ev_isub (pc := 78) dX12_buys_78 ?_
        refine ev_nm (fun σ14 q14 => ?_)
        have hf := hf σ14 q14
        refine ev_iast (pc := 79) rfl rfl ki_12_465 kn_12 dX12_buys_79 ?_
        refine ev_iload_n (pc := 80) dX12_buys_80 rfl (i := 2) rfl ?_
        exact ev_iret (pc := 81) rfl dX12_buys_81 hf
      · have hf := hf.2 c7
        refine ev_bipush (pc := 40) (v := (-2)) dX12_buys_40 kb_m2 ?_
        exact ev_iret (pc := 42) rfl dX12_buys_42 hf
  · have hf := hf.2 c3
    refine ev_iconst (pc := 8) (v := (-1)) dX12_buys_8 kc_m1 ?_
    exact ev_iret (pc := 9) rfl dX12_buys_9 hf
def f_X12_undo_L26 (post : Int32 → St → Prop) : Nat → Int32 → St → Prop
  | 0, _, _ => False
  | n + 1, v1, σ => (14 ≤ v1 → (post (σ.1 8 14) σ)) ∧ (¬ 14 ≤ v1 → (vp_in ((15 + (14 * (σ.1 8 14))) + v1) 465 ∧ (vp_in v1 465 ∧ ((f_X12_undo_L26 post n) (v1 + 1) (st_up σ 8 v1.toNatClampNeg (σ.1 8 (((15 + (14 * (σ.1 8 14))) + v1).toNatClampNeg)))))))
set_option maxRecDepth 100000 in
set_option maxHeartbeats 4000000 in
theorem p_X12_undo_L26 (post : Int32 → St → Prop) : ∀ (n : Nat) (v1 : Int32) (σ : St), f_X12_undo_L26 post n v1 σ → Ev SM RX12 cX12_undo 2 (some .int) 0 (EQi SM post) 26 [some (.ref 0), some (.int v1)] [] σ := by
  intro n
  induction n with
  | zero =>
    intro v1 σ hf
    exact hf.elim
  | succ n hagain26 =>
    intro v1 σ hf
    rw [f_X12_undo_L26] at hf
    refine ev_iload_n (pc := 26) dX12_undo_26 rfl (i := 1) rfl ?_
    refine ev_bipush (pc := 27) (v := 14) dX12_undo_27 kb_14 ?_
    refine ev_icmp_ge (pc := 29) (tgt := 64) dX12_undo_29 (by decide) (fun c2 => ?_) (fun c2 => ?_)
    · have hf := hf.1 c2
      refine ev_aload_n (pc := 64) dX12_undo_64 rfl (i := 0) rfl ?_
      refine ev_get (pc := 65) fl_X12_32_12_16 rfl (by decide) rfl rfl dX12_undo_65 ?_
      refine ev_bipush (pc := 68) (v := 14) dX12_undo_68 kb_14 ?_
      refine ev_iald (pc := 70) rfl rfl ki_14_465 kn_14 dX12_undo_70 ?_
      exact ev_iret (pc := 71) rfl dX12_undo_71 hf
    · have hf := hf.2 c2
      refine ev_aload_n (pc := 32) dX12_undo_32 rfl (i := 0) rfl ?_
      refine ev_get (pc := 33) fl_X12_32_12_16 rfl (by decide) rfl rfl dX12_undo_33 ?_
      refine ev_iload_n (pc := 36) dX12_undo_36 rfl (i := 1) rfl ?_
      refine ev_aload_n (pc := 37) dX12_undo_37 rfl (i := 0) rfl ?_
      refine ev_get (pc := 38) fl_X12_32_12_16 rfl (by decide) rfl rfl dX12_undo_38 ?_
      refine ev_bipush (pc := 41) (v := 15) dX12_undo_41 kb_15 ?_
      refine ev_bipush (pc := 43) (v := 14) dX12_undo_43 kb_14 ?_
      refine ev_aload_n (pc := 45) dX12_undo_45 rfl (i := 0) rfl ?_
      refine ev_get (pc := 46) fl_X12_32_12_16 rfl (by decide) rfl rfl dX12_undo_46 ?_
      refine ev_bipush (pc := 49) (v := 14) dX12_undo_49 kb_14 ?_
      refine ev_iald (pc := 51) rfl rfl ki_14_465 kn_14 dX12_undo_51 ?_
      refine ev_imul (pc := 52) dX12_undo_52 ?_
      refine ev_iadd (pc := 53) dX12_undo_53 ?_
      refine ev_iload_n (pc := 54) dX12_undo_54 rfl (i := 1) rfl ?_
      refine ev_iadd (pc := 55) dX12_undo_55 ?_
      obtain ⟨h3, hf⟩ := hf
      refine ev_iald (pc := 56) rfl rfl h3 rfl dX12_undo_56 ?_
      obtain ⟨h4, hf⟩ := hf
      refine ev_iast (pc := 57) rfl rfl h4 rfl dX12_undo_57 ?_
      refine ev_iinc (pc := 58) (v := v1 + 1) (L' := [some (.ref 0), some (.int (v1 + 1))]) dX12_undo_58 rfl (by rw [kc_1]) (by decide) rfl rfl ?_
      refine ev_goto (pc := 61) (tgt := 26) dX12_undo_61 (by decide) ?_
      exact hagain26 _ _ hf
def f_X12_undo (σ : St) (post : Int32 → St → Prop) : Prop := (¬ (σ.1 8 14) = 0 → (∃ n5 : Nat, f_X12_undo_L26 post n5 0 (st_up σ 8 14 ((σ.1 8 14) - 1)))) ∧ ((σ.1 8 14) = 0 → (post (-2) σ))
set_option maxRecDepth 100000 in
set_option maxHeartbeats 4000000 in
theorem c_X12_undo (σ : St) (post : Int32 → St → Prop) (hf : f_X12_undo σ post) : Ct SM yX12_undo cX12_undo 2 (some .int) 0 (EQi SM post) [.ref 0] σ := by
  rw [f_X12_undo] at hf
  refine ct_of (by decide) rfl (Nat.le_of_ble_eq_true rfl) ?_
  show Ev SM RX12 cX12_undo 2 (some .int) 0 (EQi SM post) 0 [some (.ref 0), none] [] σ
  refine ev_aload_n (pc := 0) dX12_undo_0 rfl (i := 0) rfl ?_
  refine ev_get (pc := 1) fl_X12_32_12_16 rfl (by decide) rfl rfl dX12_undo_1 ?_
  refine ev_bipush (pc := 4) (v := 14) dX12_undo_4 kb_14 ?_
  refine ev_iald (pc := 6) rfl rfl ki_14_465 kn_14 dX12_undo_6 ?_
  refine ev_if_ne (pc := 7) (tgt := 13) dX12_undo_7 (by decide) (fun c1 => ?_) (fun c1 => ?_)
  · have hf := hf.1 c1
    refine ev_aload_n (pc := 13) dX12_undo_13 rfl (i := 0) rfl ?_
    refine ev_get (pc := 14) fl_X12_32_12_16 rfl (by decide) rfl rfl dX12_undo_14 ?_
    refine ev_bipush (pc := 17) (v := 14) dX12_undo_17 kb_14 ?_
    refine ev_dup2 (pc := 19) dX12_undo_19 rfl rfl ?_
    refine ev_iald (pc := 20) rfl rfl ki_14_465 kn_14 dX12_undo_20 ?_
    refine ev_iconst (pc := 21) (v := 1) dX12_undo_21 kc_1 ?_
    refine ev_isub (pc := 22) dX12_undo_22 ?_
    refine ev_iast (pc := 23) rfl rfl ki_14_465 kn_14 dX12_undo_23 ?_
    refine ev_iconst (pc := 24) (v := 0) dX12_undo_24 kc_0 ?_
    refine ev_istore_n (pc := 25) (L' := [some (.ref 0), some (.int 0)]) dX12_undo_25 rfl (by decide) rfl rfl ?_
    obtain ⟨n5, hf⟩ := hf
    exact p_X12_undo_L26 post n5 _ _ hf
  · have hf := hf.2 c1
    refine ev_bipush (pc := 10) (v := (-2)) dX12_undo_10 kb_m2 ?_
    exact ev_iret (pc := 12) rfl dX12_undo_12 hf
def f_X12_now_L10 (a1 : Int32) (k86 : Int32 → Int32 → Int32 → St → Prop) (post : Int32 → St → Prop) : Nat → Int32 → Int32 → Int32 → Int32 → St → Prop
  | 0, _, _, _, _, _ => False
  | n + 1, v2, v3, v4, v5, σ => ((σ.1 2 0) ≤ v5 → (k86 v2 v3 v4 σ)) ∧ (¬ (σ.1 2 0) ≤ v5 → (vp_in (0 + v5) 465 ∧ (vp_in (6 + v5) 465 ∧ (vp_in (0 + v5) 465 ∧ ((((σ.1 8 ((0 + v5).toNatClampNeg)) / 2) ≤ v4 → ((f_X12_now_L10 a1 k86 post n) (v2 + (σ.1 8 ((0 + v5).toNatClampNeg))) (v3 + (σ.1 8 ((6 + v5).toNatClampNeg))) v4 (v5 + 1) σ)) ∧ (¬ ((σ.1 8 ((0 + v5).toNatClampNeg)) / 2) ≤ v4 → (vp_in (0 + v5) 465 ∧ ((f_X12_now_L10 a1 k86 post n) (v2 + (σ.1 8 ((0 + v5).toNatClampNeg))) (v3 + (σ.1 8 ((6 + v5).toNatClampNeg))) ((σ.1 8 ((0 + v5).toNatClampNeg)) / 2) (v5 + 1) σ))))))))
set_option maxRecDepth 100000 in
set_option maxHeartbeats 4000000 in
theorem p_X12_now_L10 (a1 : Int32) (k86 : Int32 → Int32 → Int32 → St → Prop) (post : Int32 → St → Prop) (hk86 : ∀ (v2 : Int32) (v3 : Int32) (v4 : Int32) (τ : St), k86 v2 v3 v4 τ → Ev SM RX12 cX12_now 6 (some .int) 0 (EQi SM post) 86 [some (.ref 0), some (.int a1), some (.int v2), some (.int v3), some (.int v4), none] [] τ) : ∀ (n : Nat) (v2 : Int32) (v3 : Int32) (v4 : Int32) (v5 : Int32) (σ : St), f_X12_now_L10 a1 k86 post n v2 v3 v4 v5 σ → Ev SM RX12 cX12_now 6 (some .int) 0 (EQi SM post) 10 [some (.ref 0), some (.int a1), some (.int v2), some (.int v3), some (.int v4), some (.int v5)] [] σ := by
  intro n
  induction n with
  | zero =>
    intro v2 v3 v4 v5 σ hf
    exact hf.elim
  | succ n hagain10 =>
    intro v2 v3 v4 v5 σ hf
    rw [f_X12_now_L10] at hf
    refine ev_iload (pc := 10) dX12_now_10 rfl ?_
    refine ev_aload_n (pc := 12) dX12_now_12 rfl (i := 0) rfl ?_
    refine ev_get (pc := 13) fl_X12_13_12_3 rfl (by decide) rfl rfl dX12_now_13 ?_
    refine ev_iconst (pc := 16) (v := 0) dX12_now_16 kc_0 ?_
    refine ev_iald (pc := 17) rfl rfl ki_0_2 kn_0 dX12_now_17 ?_
    refine ev_icmp_ge (pc := 18) (tgt := 86) dX12_now_18 (by decide) (fun c1 => ?_) (fun c1 => ?_)
    · have hf := hf.1 c1
      refine ev_mask [true, true, true, true, true, false] (L' := [some (.ref 0), some (.int a1), some (.int v2), some (.int v3), some (.int v4), none]) rfl ?_
      exact hk86 _ _ _ _ hf
    · have hf := hf.2 c1
      refine ev_iload_n (pc := 21) dX12_now_21 rfl (i := 2) rfl ?_
      refine ev_aload_n (pc := 22) dX12_now_22 rfl (i := 0) rfl ?_
      refine ev_get (pc := 23) fl_X12_32_12_16 rfl (by decide) rfl rfl dX12_now_23 ?_
      refine ev_iconst (pc := 26) (v := 0) dX12_now_26 kc_0 ?_
      refine ev_iload (pc := 27) dX12_now_27 rfl ?_
      refine ev_iadd (pc := 29) dX12_now_29 ?_
      obtain ⟨h2, hf⟩ := hf
      refine ev_iald (pc := 30) rfl rfl h2 rfl dX12_now_30 ?_
      refine ev_iadd (pc := 31) dX12_now_31 ?_
      refine ev_istore_n (pc := 32) (L' := [some (.ref 0), some (.int a1), some (.int (v2 + (σ.1 8 ((0 + v5).toNatClampNeg)))), some (.int v3), some (.int v4), some (.int v5)]) dX12_now_32 rfl (by decide) rfl rfl ?_
      refine ev_iload_n (pc := 33) dX12_now_33 rfl (i := 3) rfl ?_
      refine ev_aload_n (pc := 34) dX12_now_34 rfl (i := 0) rfl ?_
      refine ev_get (pc := 35) fl_X12_32_12_16 rfl (by decide) rfl rfl dX12_now_35 ?_
      refine ev_bipush (pc := 38) (v := 6) dX12_now_38 kb_6 ?_
      refine ev_iload (pc := 40) dX12_now_40 rfl ?_
      refine ev_iadd (pc := 42) dX12_now_42 ?_
      obtain ⟨h3, hf⟩ := hf
      refine ev_iald (pc := 43) rfl rfl h3 rfl dX12_now_43 ?_
      refine ev_iadd (pc := 44) dX12_now_44 ?_
      refine ev_istore_n (pc := 45) (L' := [some (.ref 0), some (.int a1), some (.int (v2 + (σ.1 8 ((0 + v5).toNatClampNeg)))), some (.int (v3 + (σ.1 8 ((6 + v5).toNatClampNeg)))), some (.int v4), some (.int v5)]) dX12_now_45 rfl (by decide) rfl rfl ?_
      refine ev_aload_n (pc := 46) dX12_now_46 rfl (i := 0) rfl ?_
      refine ev_get (pc := 47) fl_X12_32_12_16 rfl (by decide) rfl rfl dX12_now_47 ?_
      refine ev_iconst (pc := 50) (v := 0) dX12_now_50 kc_0 ?_
      refine ev_iload (pc := 51) dX12_now_51 rfl ?_
      refine ev_iadd (pc := 53) dX12_now_53 ?_
      obtain ⟨h4, hf⟩ := hf
      refine ev_iald (pc := 54) rfl rfl h4 rfl dX12_now_54 ?_
      refine ev_iconst (pc := 55) (v := 2) dX12_now_55 kc_2 ?_
      refine ev_idiv (pc := 56) dX12_now_56 (by decide) ?_
      refine ev_iload (pc := 57) dX12_now_57 rfl ?_
      refine ev_icmp_le (pc := 59) (tgt := 76) dX12_now_59 (by decide) (fun c5 => ?_) (fun c5 => ?_)
      · have hf := hf.1 c5
        refine ev_iload (pc := 76) dX12_now_76 rfl ?_
        refine ev_istore (pc := 78) (L' := [some (.ref 0), some (.int a1), some (.int (v2 + (σ.1 8 ((0 + v5).toNatClampNeg)))), some (.int (v3 + (σ.1 8 ((6 + v5).toNatClampNeg)))), some (.int v4), some (.int v5)]) dX12_now_78 (by decide) rfl rfl ?_
        refine ev_iinc (pc := 80) (v := v5 + 1) (L' := [some (.ref 0), some (.int a1), some (.int (v2 + (σ.1 8 ((0 + v5).toNatClampNeg)))), some (.int (v3 + (σ.1 8 ((6 + v5).toNatClampNeg)))), some (.int v4), some (.int (v5 + 1))]) dX12_now_80 rfl (by rw [kc_1]) (by decide) rfl rfl ?_
        refine ev_goto (pc := 83) (tgt := 10) dX12_now_83 (by decide) ?_
        exact hagain10 _ _ _ _ _ hf
      · have hf := hf.2 c5
        refine ev_aload_n (pc := 62) dX12_now_62 rfl (i := 0) rfl ?_
        refine ev_get (pc := 63) fl_X12_32_12_16 rfl (by decide) rfl rfl dX12_now_63 ?_
        refine ev_iconst (pc := 66) (v := 0) dX12_now_66 kc_0 ?_
        refine ev_iload (pc := 67) dX12_now_67 rfl ?_
        refine ev_iadd (pc := 69) dX12_now_69 ?_
        obtain ⟨h6, hf⟩ := hf
        refine ev_iald (pc := 70) rfl rfl h6 rfl dX12_now_70 ?_
        refine ev_iconst (pc := 71) (v := 2) dX12_now_71 kc_2 ?_
        refine ev_idiv (pc := 72) dX12_now_72 (by decide) ?_
        refine ev_goto (pc := 73) (tgt := 78) dX12_now_73 (by decide) ?_
        refine ev_istore (pc := 78) (L' := [some (.ref 0), some (.int a1), some (.int (v2 + (σ.1 8 ((0 + v5).toNatClampNeg)))), some (.int (v3 + (σ.1 8 ((6 + v5).toNatClampNeg)))), some (.int ((σ.1 8 ((0 + v5).toNatClampNeg)) / 2)), some (.int v5)]) dX12_now_78 (by decide) rfl rfl ?_
        refine ev_iinc (pc := 80) (v := v5 + 1) (L' := [some (.ref 0), some (.int a1), some (.int (v2 + (σ.1 8 ((0 + v5).toNatClampNeg)))), some (.int (v3 + (σ.1 8 ((6 + v5).toNatClampNeg)))), some (.int ((σ.1 8 ((0 + v5).toNatClampNeg)) / 2)), some (.int (v5 + 1))]) dX12_now_80 rfl (by rw [kc_1]) (by decide) rfl rfl ?_
        refine ev_goto (pc := 83) (tgt := 10) dX12_now_83 (by decide) ?_
        exact hagain10 _ _ _ _ _ hf
def f_X12_now (a1 : Int32) (σ : St) (post : Int32 → St → Prop) : Prop := ∃ n16 : Nat, f_X12_now_L10 a1 (fun x8 x9 x10 σ7 => (a1 = 0 → (post (σ7.1 8 13) σ7)) ∧ (a1 = 1 → (post (σ7.1 8 12) σ7)) ∧ (a1 = 2 → (post x8 σ7)) ∧ (a1 = 3 → (post x9 σ7)) ∧ (a1 = 4 → (post (x10 + 1) σ7)) ∧ (¬ a1 = 0 → ¬ a1 = 1 → ¬ a1 = 2 → ¬ a1 = 3 → ¬ a1 = 4 → (post (-1) σ7))) post n16 0 0 (-1) 0 σ
set_option maxRecDepth 100000 in
set_option maxHeartbeats 4000000 in
theorem c_X12_now (a1 : Int32) (σ : St) (post : Int32 → St → Prop) (hf : f_X12_now a1 σ post) : Ct SM yX12_now cX12_now 6 (some .int) 0 (EQi SM post) [.ref 0, .int a1] σ := by
  rw [f_X12_now] at hf
  refine ct_of (by decide) rfl (Nat.le_of_ble_eq_true rfl) ?_
  show Ev SM RX12 cX12_now 6 (some .int) 0 (EQi SM post) 0 [some (.ref 0), some (.int a1), none, none, none, none] [] σ
  refine ev_iconst (pc := 0) (v := 0) dX12_now_0 kc_0 ?_
  refine ev_istore_n (pc := 1) (L' := [some (.ref 0), some (.int a1), some (.int 0), none, none, none]) dX12_now_1 rfl (by decide) rfl rfl ?_
  refine ev_iconst (pc := 2) (v := 0) dX12_now_2 kc_0 ?_
  refine ev_istore_n (pc := 3) (L' := [some (.ref 0), some (.int a1), some (.int 0), some (.int 0), none, none]) dX12_now_3 rfl (by decide) rfl rfl ?_
  refine ev_iconst (pc := 4) (v := (-1)) dX12_now_4 kc_m1 ?_
  refine ev_istore (pc := 5) (L' := [some (.ref 0), some (.int a1), some (.int 0), some (.int 0), some (.int (-1)), none]) dX12_now_5 (by decide) rfl rfl ?_
  refine ev_iconst (pc := 7) (v := 0) dX12_now_7 kc_0 ?_
  refine ev_istore (pc := 8) (L' := [some (.ref 0), some (.int a1), some (.int 0), some (.int 0), some (.int (-1)), some (.int 0)]) dX12_now_8 (by decide) rfl rfl ?_
  obtain ⟨n16, hf⟩ := hf
  exact p_X12_now_L10 a1 _ post (fun x8 x9 x10 σ7 hf => by
    refine ev_iload_n (pc := 86) dX12_now_86 rfl (i := 1) rfl ?_
    by_cases e11 : a1 = 0
    · have hf := hf.1 e11
      refine ev_tabIn (pc := 87) (off := 33) (tgt := 120) dX12_now_87 (by rw [e11]; decide) (by rw [e11]; decide) (by rw [e11]; decide) (by decide) ?_
      refine ev_aload_n (pc := 120) dX12_now_120 rfl (i := 0) rfl ?_
      refine ev_get (pc := 121) fl_X12_32_12_16 rfl (by decide) rfl rfl dX12_now_121 ?_
      refine ev_bipush (pc := 124) (v := 13) dX12_now_124 kb_13 ?_
      refine ev_iald (pc := 126) rfl rfl ki_13_465 kn_13 dX12_now_126 ?_
      exact ev_iret (pc := 127) rfl dX12_now_127 hf
    by_cases e12 : a1 = 1
    · have hf := hf.2.1 e12
      refine ev_tabIn (pc := 87) (off := 41) (tgt := 128) dX12_now_87 (by rw [e12]; decide) (by rw [e12]; decide) (by rw [e12]; decide) (by decide) ?_
      refine ev_aload_n (pc := 128) dX12_now_128 rfl (i := 0) rfl ?_
      refine ev_get (pc := 129) fl_X12_32_12_16 rfl (by decide) rfl rfl dX12_now_129 ?_
      refine ev_bipush (pc := 132) (v := 12) dX12_now_132 kb_12 ?_
      refine ev_iald (pc := 134) rfl rfl ki_12_465 kn_12 dX12_now_134 ?_
      exact ev_iret (pc := 135) rfl dX12_now_135 hf
    by_cases e13 : a1 = 2
    · have hf := hf.2.2.1 e13
      refine ev_tabIn (pc := 87) (off := 49) (tgt := 136) dX12_now_87 (by rw [e13]; decide) (by rw [e13]; decide) (by rw [e13]; decide) (by decide) ?_
      refine ev_iload_n (pc := 136) dX12_now_136 rfl (i := 2) rfl ?_
      exact ev_iret (pc := 137) rfl dX12_now_137 hf
    by_cases e14 : a1 = 3
    · have hf := hf.2.2.2.1 e14
      refine ev_tabIn (pc := 87) (off := 51) (tgt := 138) dX12_now_87 (by rw [e14]; decide) (by rw [e14]; decide) (by rw [e14]; decide) (by decide) ?_
      refine ev_iload_n (pc := 138) dX12_now_138 rfl (i := 3) rfl ?_
      exact ev_iret (pc := 139) rfl dX12_now_139 hf
    by_cases e15 : a1 = 4
    · have hf := hf.2.2.2.2.1 e15
      refine ev_tabIn (pc := 87) (off := 53) (tgt := 140) dX12_now_87 (by rw [e15]; decide) (by rw [e15]; decide) (by rw [e15]; decide) (by decide) ?_
      refine ev_iload (pc := 140) dX12_now_140 rfl ?_
      refine ev_iconst (pc := 142) (v := 1) dX12_now_142 kc_1 ?_
      refine ev_iadd (pc := 143) dX12_now_143 ?_
      exact ev_iret (pc := 144) rfl dX12_now_144 hf
    have hf := hf.2.2.2.2.2 e11 e12 e13 e14 e15
    refine ev_tabOut (pc := 87) (tgt := 145) dX12_now_87 (tab_out 4 (by decide) (fun k hk => by
      match k, hk with
      | 0, _ => exact e11
      | 1, _ => exact e12
      | 2, _ => exact e13
      | 3, _ => exact e14
      | 4, _ => exact e15)) (by decide) ?_
    refine ev_iconst (pc := 145) (v := (-1)) dX12_now_145 kc_m1 ?_
    exact ev_iret (pc := 146) rfl dX12_now_146 hf) n16 _ _ _ _ _ hf
def f_X12_yieldOf (a1 : Int32) (σ : St) (post : Int32 → St → Prop) : Prop := f_X12_isShift a1 σ (fun x2 σ1 => (¬ x2 = 0 → (f_X12_take σ1 (fun σ4 => f_X12_pass 10 24 0 0 a1 σ4 (fun x7 σ6 => post x7 σ6)))) ∧ (x2 = 0 → (post (-1) σ1)))
set_option maxRecDepth 100000 in
set_option maxHeartbeats 4000000 in
theorem c_X12_yieldOf (a1 : Int32) (σ : St) (post : Int32 → St → Prop) (hf : f_X12_yieldOf a1 σ post) : Ct SM yX12_yieldOf cX12_yieldOf 2 (some .int) 3 (EQi SM post) [.ref 0, .int a1] σ := by
  rw [f_X12_yieldOf] at hf
  refine ct_of (by decide) rfl (Nat.le_of_ble_eq_true rfl) ?_
  show Ev SM RX12 cX12_yieldOf 2 (some .int) 3 (EQi SM post) 0 [some (.ref 0), some (.int a1)] [] σ
  refine ev_aload_n (pc := 0) dX12_yieldOf_0 rfl (i := 0) rfl ?_
  refine ev_iload_n (pc := 1) dX12_yieldOf_1 rfl (i := 1) rfl ?_
  refine ev_calli (pc := 2) (stk := []) (ce_V (c_X12_isShift a1 σ _ hf) wv_X12_150_X12_isShift rfl (by decide) rfl (by decide) rfl (Nat.le_of_ble_eq_true rfl) rfl dX12_yieldOf_2) (fun x2 σ1 hf => ?_)
  refine ev_if_ne (pc := 5) (tgt := 10) dX12_yieldOf_5 (by decide) (fun c3 => ?_) (fun c3 => ?_)
  · have hf := hf.1 c3
    refine ev_aload_n (pc := 10) dX12_yieldOf_10 rfl (i := 0) rfl ?_
    refine ev_callv (pc := 11) (stk := []) (ce_V (c_X12_take σ1 _ hf) wv_X12_156_X12_take rfl (by decide) rfl (by decide) rfl (Nat.le_of_ble_eq_true rfl) rfl dX12_yieldOf_11) (fun σ4 hf => ?_)
    refine ev_aload_n (pc := 14) dX12_yieldOf_14 rfl (i := 0) rfl ?_
    refine ev_aload_n (pc := 15) dX12_yieldOf_15 rfl (i := 0) rfl ?_
    refine ev_get (pc := 16) fl_X12_39_12_18 rfl (by decide) rfl rfl dX12_yieldOf_16 ?_
    refine ev_iconst (pc := 19) (v := 0) dX12_yieldOf_19 kc_0 ?_
    refine ev_iconst (pc := 20) (v := 0) dX12_yieldOf_20 kc_0 ?_
    refine ev_iload_n (pc := 21) dX12_yieldOf_21 rfl (i := 1) rfl ?_
    refine ev_calli (pc := 22) (stk := []) (ce_V (c_X12_pass 10 24 0 0 a1 rfl σ4 _ hf) wv_X12_159_X12_pass rfl (by decide) rfl (by decide) rfl (Nat.le_of_ble_eq_true rfl) rfl dX12_yieldOf_22) (fun x7 σ6 hf => ?_)
    exact ev_iret (pc := 25) rfl dX12_yieldOf_25 hf
  · have hf := hf.2 c3
    refine ev_iconst (pc := 8) (v := (-1)) dX12_yieldOf_8 kc_m1 ?_
    exact ev_iret (pc := 9) rfl dX12_yieldOf_9 hf
def f_X12_best_J50_18 (a1 : Int32) (again18 : Int32 → Int32 → Int32 → St → Prop) (k70 : Int32 → Int32 → St → Prop) (post : Int32 → St → Prop) (v2 : Int32) (v3 : Int32) (v4 : Int32) (s0 : Int32) (σ : St) : Prop := (s0 ≤ v3 → (again18 v2 v3 (v4 + 1) σ)) ∧ (¬ s0 ≤ v3 → (again18 v4 s0 (v4 + 1) σ))
set_option maxRecDepth 100000 in
set_option maxHeartbeats 4000000 in
theorem p_X12_best_J50_18 (a1 : Int32) (again18 : Int32 → Int32 → Int32 → St → Prop) (k70 : Int32 → Int32 → St → Prop) (post : Int32 → St → Prop) (hagain18 : ∀ (v2 : Int32) (v3 : Int32) (v4 : Int32) (τ : St), again18 v2 v3 v4 τ → Ev SM RX12 cX12_best 6 (some .int) 4 (EQi SM post) 18 [some (.ref 0), some (.int a1), some (.int v2), some (.int v3), some (.int v4), none] [] τ) (hk70 : ∀ (v2 : Int32) (v3 : Int32) (τ : St), k70 v2 v3 τ → Ev SM RX12 cX12_best 6 (some .int) 4 (EQi SM post) 70 [some (.ref 0), some (.int a1), some (.int v2), some (.int v3), none, none] [] τ) (v2 : Int32) (v3 : Int32) (v4 : Int32) (s0 : Int32) (σ : St) (hf : f_X12_best_J50_18 a1 again18 k70 post v2 v3 v4 s0 σ) : Ev SM RX12 cX12_best 6 (some .int) 4 (EQi SM post) 50 [some (.ref 0), some (.int a1), some (.int v2), some (.int v3), some (.int v4), none] [.int s0] σ := by
  rw [f_X12_best_J50_18] at hf
  refine ev_istore (pc := 50) (L' := [some (.ref 0), some (.int a1), some (.int v2), some (.int v3), some (.int v4), some (.int s0)]) dX12_best_50 (by decide) rfl rfl ?_
  refine ev_iload (pc := 52) dX12_best_52 rfl ?_
  refine ev_iload_n (pc := 54) dX12_best_54 rfl (i := 3) rfl ?_
  refine ev_icmp_le (pc := 55) (tgt := 64) dX12_best_55 (by decide) (fun c8 => ?_) (fun c8 => ?_)
  · have hf := hf.1 c8
    refine ev_iinc (pc := 64) (v := v4 + 1) (L' := [some (.ref 0), some (.int a1), some (.int v2), some (.int v3), some (.int (v4 + 1)), some (.int s0)]) dX12_best_64 rfl (by rw [kc_1]) (by decide) rfl rfl ?_
    refine ev_goto (pc := 67) (tgt := 18) dX12_best_67 (by decide) ?_
    refine ev_mask [true, true, true, true, true, false] (L' := [some (.ref 0), some (.int a1), some (.int v2), some (.int v3), some (.int (v4 + 1)), none]) rfl ?_
    exact hagain18 _ _ _ _ hf
  · have hf := hf.2 c8
    refine ev_iload (pc := 58) dX12_best_58 rfl ?_
    refine ev_istore_n (pc := 60) (L' := [some (.ref 0), some (.int a1), some (.int v4), some (.int v3), some (.int v4), some (.int s0)]) dX12_best_60 rfl (by decide) rfl rfl ?_
    refine ev_iload (pc := 61) dX12_best_61 rfl ?_
    refine ev_istore_n (pc := 63) (L' := [some (.ref 0), some (.int a1), some (.int v4), some (.int s0), some (.int v4), some (.int s0)]) dX12_best_63 rfl (by decide) rfl rfl ?_
    refine ev_iinc (pc := 64) (v := v4 + 1) (L' := [some (.ref 0), some (.int a1), some (.int v4), some (.int s0), some (.int (v4 + 1)), some (.int s0)]) dX12_best_64 rfl (by rw [kc_1]) (by decide) rfl rfl ?_
    refine ev_goto (pc := 67) (tgt := 18) dX12_best_67 (by decide) ?_
    refine ev_mask [true, true, true, true, true, false] (L' := [some (.ref 0), some (.int a1), some (.int v4), some (.int s0), some (.int (v4 + 1)), none]) rfl ?_
    exact hagain18 _ _ _ _ hf
def f_X12_best_L18 (a1 : Int32) (k70 : Int32 → Int32 → St → Prop) (post : Int32 → St → Prop) : Nat → Int32 → Int32 → Int32 → St → Prop
  | 0, _, _, _, _ => False
  | n + 1, v2, v3, v4, σ => ((1 <<< ((σ.1 2 0) &&& 31)) ≤ v4 → (k70 v2 v3 σ)) ∧ (¬ (1 <<< ((σ.1 2 0) &&& 31)) ≤ v4 → (f_X12_isShift v4 σ (fun x6 σ5 => (x6 = 0 → (f_X12_best_J50_18 a1 (f_X12_best_L18 a1 k70 post n) k70 post v2 v3 v4 0 σ5)) ∧ (¬ x6 = 0 → (f_X12_yieldOf v4 σ5 (fun x10 σ9 => f_X12_best_J50_18 a1 (f_X12_best_L18 a1 k70 post n) k70 post v2 v3 v4 x10 σ9))))))
set_option maxRecDepth 100000 in
set_option maxHeartbeats 4000000 in
theorem p_X12_best_L18 (a1 : Int32) (k70 : Int32 → Int32 → St → Prop) (post : Int32 → St → Prop) (hk70 : ∀ (v2 : Int32) (v3 : Int32) (τ : St), k70 v2 v3 τ → Ev SM RX12 cX12_best 6 (some .int) 4 (EQi SM post) 70 [some (.ref 0), some (.int a1), some (.int v2), some (.int v3), none, none] [] τ) : ∀ (n : Nat) (v2 : Int32) (v3 : Int32) (v4 : Int32) (σ : St), f_X12_best_L18 a1 k70 post n v2 v3 v4 σ → Ev SM RX12 cX12_best 6 (some .int) 4 (EQi SM post) 18 [some (.ref 0), some (.int a1), some (.int v2), some (.int v3), some (.int v4), none] [] σ := by
  intro n
  induction n with
  | zero =>
    intro v2 v3 v4 σ hf
    exact hf.elim
  | succ n hagain18 =>
    intro v2 v3 v4 σ hf
    rw [f_X12_best_L18] at hf
    refine ev_iload (pc := 18) dX12_best_18 rfl ?_
    refine ev_iconst (pc := 20) (v := 1) dX12_best_20 kc_1 ?_
    refine ev_aload_n (pc := 21) dX12_best_21 rfl (i := 0) rfl ?_
    refine ev_get (pc := 22) fl_X12_13_12_3 rfl (by decide) rfl rfl dX12_best_22 ?_
    refine ev_iconst (pc := 25) (v := 0) dX12_best_25 kc_0 ?_
    refine ev_iald (pc := 26) rfl rfl ki_0_2 kn_0 dX12_best_26 ?_
    refine ev_ishl (pc := 27) dX12_best_27 ?_
    refine ev_icmp_ge (pc := 28) (tgt := 70) dX12_best_28 (by decide) (fun c4 => ?_) (fun c4 => ?_)
    · have hf := hf.1 c4
      refine ev_mask [true, true, true, true, false, false] (L' := [some (.ref 0), some (.int a1), some (.int v2), some (.int v3), none, none]) rfl ?_
      exact hk70 _ _ _ hf
    · have hf := hf.2 c4
      refine ev_aload_n (pc := 31) dX12_best_31 rfl (i := 0) rfl ?_
      refine ev_iload (pc := 32) dX12_best_32 rfl ?_
      refine ev_calli (pc := 34) (stk := []) (ce_V (c_X12_isShift v4 σ _ hf) wv_X12_150_X12_isShift rfl (by decide) rfl (by decide) rfl (Nat.le_of_ble_eq_true rfl) rfl dX12_best_34) (fun x6 σ5 hf => ?_)
      refine ev_if_eq (pc := 37) (tgt := 49) dX12_best_37 (by decide) (fun c7 => ?_) (fun c7 => ?_)
      · have hf := hf.1 c7
        refine ev_iconst (pc := 49) (v := 0) dX12_best_49 kc_0 ?_
        exact p_X12_best_J50_18 a1 (f_X12_best_L18 a1 k70 post n) k70 post hagain18 hk70 _ _ _ _ _ hf
      · have hf := hf.2 c7
        refine ev_aload_n (pc := 40) dX12_best_40 rfl (i := 0) rfl ?_
        refine ev_iload (pc := 41) dX12_best_41 rfl ?_
        refine ev_calli (pc := 43) (stk := []) (ce_V (c_X12_yieldOf v4 σ5 _ hf) wv_X12_163_X12_yieldOf rfl (by decide) rfl (by decide) rfl (Nat.le_of_ble_eq_true rfl) rfl dX12_best_43) (fun x10 σ9 hf => ?_)
        refine ev_goto (pc := 46) (tgt := 50) dX12_best_46 (by decide) ?_
        exact p_X12_best_J50_18 a1 (f_X12_best_L18 a1 k70 post n) k70 post hagain18 hk70 _ _ _ _ _ hf
def f_X12_best (a1 : Int32) (σ : St) (post : Int32 → St → Prop) : Prop := f_X12_in a1 0 1 σ (fun x2 σ1 => (¬ x2 = 0 → (∃ n15 : Nat, f_X12_best_L18 a1 (fun x12 x13 σ11 => (¬ a1 = 0 → (post x13 σ11)) ∧ (a1 = 0 → (post x12 σ11))) post n15 0 0 0 σ1)) ∧ (x2 = 0 → (post (-1) σ1)))
set_option maxRecDepth 100000 in
set_option maxHeartbeats 4000000 in
theorem c_X12_best (a1 : Int32) (σ : St) (post : Int32 → St → Prop) (hf : f_X12_best a1 σ post) : Ct SM yX12_best cX12_best 6 (some .int) 4 (EQi SM post) [.ref 0, .int a1] σ := by
  rw [f_X12_best] at hf
  refine ct_of (by decide) rfl (Nat.le_of_ble_eq_true rfl) ?_
  show Ev SM RX12 cX12_best 6 (some .int) 4 (EQi SM post) 0 [some (.ref 0), some (.int a1), none, none, none, none] [] σ
  refine ev_iload_n (pc := 0) dX12_best_0 rfl (i := 1) rfl ?_
  refine ev_iconst (pc := 1) (v := 0) dX12_best_1 kc_0 ?_
  refine ev_iconst (pc := 2) (v := 1) dX12_best_2 kc_1 ?_
  refine ev_calli (pc := 3) (stk := []) (ce_S (c_X12_in a1 0 1 σ _ hf) wt_X12_69_X12_in  (by decide) rfl (Nat.le_of_ble_eq_true rfl) rfl dX12_best_3) (fun x2 σ1 hf => ?_)
  refine ev_if_ne (pc := 6) (tgt := 11) dX12_best_6 (by decide) (fun c3 => ?_) (fun c3 => ?_)
  · have hf := hf.1 c3
    refine ev_iconst (pc := 11) (v := 0) dX12_best_11 kc_0 ?_
    refine ev_istore_n (pc := 12) (L' := [some (.ref 0), some (.int a1), some (.int 0), none, none, none]) dX12_best_12 rfl (by decide) rfl rfl ?_
    refine ev_iconst (pc := 13) (v := 0) dX12_best_13 kc_0 ?_
    refine ev_istore_n (pc := 14) (L' := [some (.ref 0), some (.int a1), some (.int 0), some (.int 0), none, none]) dX12_best_14 rfl (by decide) rfl rfl ?_
    refine ev_iconst (pc := 15) (v := 0) dX12_best_15 kc_0 ?_
    refine ev_istore (pc := 16) (L' := [some (.ref 0), some (.int a1), some (.int 0), some (.int 0), some (.int 0), none]) dX12_best_16 (by decide) rfl rfl ?_
    obtain ⟨n15, hf⟩ := hf
    exact p_X12_best_L18 a1 _ post (fun x12 x13 σ11 hf => by
      refine ev_iload_n (pc := 70) dX12_best_70 rfl (i := 1) rfl ?_
      refine ev_if_ne (pc := 71) (tgt := 78) dX12_best_71 (by decide) (fun c14 => ?_) (fun c14 => ?_)
      · have hf := hf.1 c14
        refine ev_iload_n (pc := 78) dX12_best_78 rfl (i := 3) rfl ?_
        exact ev_iret (pc := 79) rfl dX12_best_79 hf
      · have hf := hf.2 c14
        refine ev_iload_n (pc := 74) dX12_best_74 rfl (i := 2) rfl ?_
        refine ev_goto (pc := 75) (tgt := 79) dX12_best_75 (by decide) ?_
        exact ev_iret (pc := 79) rfl dX12_best_79 hf) n15 _ _ _ _ hf
  · have hf := hf.2 c3
    refine ev_iconst (pc := 9) (v := (-1)) dX12_best_9 kc_m1 ?_
    exact ev_iret (pc := 10) rfl dX12_best_10 hf
def f_X12_isFull_L5 (a1 : Int32) (a2 : Int32) (post : Int32 → St → Prop) : Nat → Int32 → Int32 → St → Prop
  | 0, _, _, _ => False
  | n + 1, v3, v4, σ => ((σ.1 2 0) ≤ v4 → ((v3 = 0 ∨ v3 = 1) ∧ (post v3 σ))) ∧ (¬ (σ.1 2 0) ≤ v4 → ((v3 = 0 → ((f_X12_isFull_L5 a1 a2 post n) 0 (v4 + 1) σ)) ∧ (¬ v3 = 0 → (vp_in (0 + v4) 465 ∧ (((σ.1 8 ((0 + v4).toNatClampNeg)) < a2 → ((f_X12_isFull_L5 a1 a2 post n) 1 (v4 + 1) σ)) ∧ (¬ (σ.1 8 ((0 + v4).toNatClampNeg)) < a2 → (vp_in ((6 * a1) + v4) 36 ∧ (((σ.1 11 (((6 * a1) + v4).toNatClampNeg)) < a2 → ((f_X12_isFull_L5 a1 a2 post n) 0 (v4 + 1) σ)) ∧ (¬ (σ.1 11 (((6 * a1) + v4).toNatClampNeg)) < a2 → ((f_X12_isFull_L5 a1 a2 post n) 1 (v4 + 1) σ))))))))))
set_option maxRecDepth 100000 in
set_option maxHeartbeats 4000000 in
theorem p_X12_isFull_L5 (a1 : Int32) (a2 : Int32) (post : Int32 → St → Prop) : ∀ (n : Nat) (v3 : Int32) (v4 : Int32) (σ : St), f_X12_isFull_L5 a1 a2 post n v3 v4 σ → Ev SM RX12 cX12_isFull 5 (some .boolean) 0 (EQi SM post) 5 [some (.ref 0), some (.int a1), some (.int a2), some (.int v3), some (.int v4)] [] σ := by
  intro n
  induction n with
  | zero =>
    intro v3 v4 σ hf
    exact hf.elim
  | succ n hagain5 =>
    intro v3 v4 σ hf
    rw [f_X12_isFull_L5] at hf
    refine ev_iload (pc := 5) dX12_isFull_5 rfl ?_
    refine ev_aload_n (pc := 7) dX12_isFull_7 rfl (i := 0) rfl ?_
    refine ev_get (pc := 8) fl_X12_13_12_3 rfl (by decide) rfl rfl dX12_isFull_8 ?_
    refine ev_iconst (pc := 11) (v := 0) dX12_isFull_11 kc_0 ?_
    refine ev_iald (pc := 12) rfl rfl ki_0_2 kn_0 dX12_isFull_12 ?_
    refine ev_icmp_ge (pc := 13) (tgt := 61) dX12_isFull_13 (by decide) (fun c1 => ?_) (fun c1 => ?_)
    · have hf := hf.1 c1
      refine ev_iload_n (pc := 61) dX12_isFull_61 rfl (i := 3) rfl ?_
      obtain ⟨h2, hf⟩ := hf
      exact ev_zret (pc := 62) rfl dX12_isFull_62 (nb_n h2) hf
    · have hf := hf.2 c1
      refine ev_iload_n (pc := 16) dX12_isFull_16 rfl (i := 3) rfl ?_
      refine ev_if_eq (pc := 17) (tgt := 53) dX12_isFull_17 (by decide) (fun c3 => ?_) (fun c3 => ?_)
      · have hf := hf.1 c3
        refine ev_iconst (pc := 53) (v := 0) dX12_isFull_53 kc_0 ?_
        refine ev_istore_n (pc := 54) (L' := [some (.ref 0), some (.int a1), some (.int a2), some (.int 0), some (.int v4)]) dX12_isFull_54 rfl (by decide) rfl rfl ?_
        refine ev_iinc (pc := 55) (v := v4 + 1) (L' := [some (.ref 0), some (.int a1), some (.int a2), some (.int 0), some (.int (v4 + 1))]) dX12_isFull_55 rfl (by rw [kc_1]) (by decide) rfl rfl ?_
        refine ev_goto (pc := 58) (tgt := 5) dX12_isFull_58 (by decide) ?_
        exact hagain5 _ _ _ hf
      · have hf := hf.2 c3
        refine ev_aload_n (pc := 20) dX12_isFull_20 rfl (i := 0) rfl ?_
        refine ev_get (pc := 21) fl_X12_32_12_16 rfl (by decide) rfl rfl dX12_isFull_21 ?_
        refine ev_iconst (pc := 24) (v := 0) dX12_isFull_24 kc_0 ?_
        refine ev_iload (pc := 25) dX12_isFull_25 rfl ?_
        refine ev_iadd (pc := 27) dX12_isFull_27 ?_
        obtain ⟨h4, hf⟩ := hf
        refine ev_iald (pc := 28) rfl rfl h4 rfl dX12_isFull_28 ?_
        refine ev_iload_n (pc := 29) dX12_isFull_29 rfl (i := 2) rfl ?_
        refine ev_icmp_lt (pc := 30) (tgt := 49) dX12_isFull_30 (by decide) (fun c5 => ?_) (fun c5 => ?_)
        · have hf := hf.1 c5
          refine ev_iconst (pc := 49) (v := 1) dX12_isFull_49 kc_1 ?_
          refine ev_goto (pc := 50) (tgt := 54) dX12_isFull_50 (by decide) ?_
          refine ev_istore_n (pc := 54) (L' := [some (.ref 0), some (.int a1), some (.int a2), some (.int 1), some (.int v4)]) dX12_isFull_54 rfl (by decide) rfl rfl ?_
          refine ev_iinc (pc := 55) (v := v4 + 1) (L' := [some (.ref 0), some (.int a1), some (.int a2), some (.int 1), some (.int (v4 + 1))]) dX12_isFull_55 rfl (by rw [kc_1]) (by decide) rfl rfl ?_
          refine ev_goto (pc := 58) (tgt := 5) dX12_isFull_58 (by decide) ?_
          exact hagain5 _ _ _ hf
        · have hf := hf.2 c5
          refine ev_aload_n (pc := 33) dX12_isFull_33 rfl (i := 0) rfl ?_
          refine ev_get (pc := 34) fl_X12_42_12_19 rfl (by decide) rfl rfl dX12_isFull_34 ?_
          refine ev_bipush (pc := 37) (v := 6) dX12_isFull_37 kb_6 ?_
          refine ev_iload_n (pc := 39) dX12_isFull_39 rfl (i := 1) rfl ?_
          refine ev_imul (pc := 40) dX12_isFull_40 ?_
          refine ev_iload (pc := 41) dX12_isFull_41 rfl ?_
          refine ev_iadd (pc := 43) dX12_isFull_43 ?_
          obtain ⟨h6, hf⟩ := hf
          refine ev_iald (pc := 44) rfl rfl h6 rfl dX12_isFull_44 ?_
          refine ev_iload_n (pc := 45) dX12_isFull_45 rfl (i := 2) rfl ?_
          refine ev_icmp_lt (pc := 46) (tgt := 53) dX12_isFull_46 (by decide) (fun c7 => ?_) (fun c7 => ?_)
          · have hf := hf.1 c7
            refine ev_iconst (pc := 53) (v := 0) dX12_isFull_53 kc_0 ?_
            refine ev_istore_n (pc := 54) (L' := [some (.ref 0), some (.int a1), some (.int a2), some (.int 0), some (.int v4)]) dX12_isFull_54 rfl (by decide) rfl rfl ?_
            refine ev_iinc (pc := 55) (v := v4 + 1) (L' := [some (.ref 0), some (.int a1), some (.int a2), some (.int 0), some (.int (v4 + 1))]) dX12_isFull_55 rfl (by rw [kc_1]) (by decide) rfl rfl ?_
            refine ev_goto (pc := 58) (tgt := 5) dX12_isFull_58 (by decide) ?_
            exact hagain5 _ _ _ hf
          · have hf := hf.2 c7
            refine ev_iconst (pc := 49) (v := 1) dX12_isFull_49 kc_1 ?_
            refine ev_goto (pc := 50) (tgt := 54) dX12_isFull_50 (by decide) ?_
            refine ev_istore_n (pc := 54) (L' := [some (.ref 0), some (.int a1), some (.int a2), some (.int 1), some (.int v4)]) dX12_isFull_54 rfl (by decide) rfl rfl ?_
            refine ev_iinc (pc := 55) (v := v4 + 1) (L' := [some (.ref 0), some (.int a1), some (.int a2), some (.int 1), some (.int (v4 + 1))]) dX12_isFull_55 rfl (by rw [kc_1]) (by decide) rfl rfl ?_
            refine ev_goto (pc := 58) (tgt := 5) dX12_isFull_58 (by decide) ?_
            exact hagain5 _ _ _ hf
def f_X12_isFull (a1 : Int32) (a2 : Int32) (σ : St) (post : Int32 → St → Prop) : Prop := ∃ n8 : Nat, f_X12_isFull_L5 a1 a2 post n8 1 0 σ
set_option maxRecDepth 100000 in
set_option maxHeartbeats 4000000 in
theorem c_X12_isFull (a1 : Int32) (a2 : Int32) (σ : St) (post : Int32 → St → Prop) (hf : f_X12_isFull a1 a2 σ post) : Ct SM yX12_isFull cX12_isFull 5 (some .boolean) 0 (EQi SM post) [.ref 0, .int a1, .int a2] σ := by
  rw [f_X12_isFull] at hf
  refine ct_of (by decide) rfl (Nat.le_of_ble_eq_true rfl) ?_
  show Ev SM RX12 cX12_isFull 5 (some .boolean) 0 (EQi SM post) 0 [some (.ref 0), some (.int a1), some (.int a2), none, none] [] σ
  refine ev_iconst (pc := 0) (v := 1) dX12_isFull_0 kc_1 ?_
  refine ev_istore_n (pc := 1) (L' := [some (.ref 0), some (.int a1), some (.int a2), some (.int 1), none]) dX12_isFull_1 rfl (by decide) rfl rfl ?_
  refine ev_iconst (pc := 2) (v := 0) dX12_isFull_2 kc_0 ?_
  refine ev_istore (pc := 3) (L' := [some (.ref 0), some (.int a1), some (.int a2), some (.int 1), some (.int 0)]) dX12_isFull_3 (by decide) rfl rfl ?_
  obtain ⟨n8, hf⟩ := hf
  exact p_X12_isFull_L5 a1 a2 post n8 _ _ _ hf
