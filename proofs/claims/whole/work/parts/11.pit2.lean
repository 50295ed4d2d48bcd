def f_X0_lives_L3 (r1 : Nat) (n1 : Nat) (r2 : Nat) (n2 : Nat) (a3 : Int32) (post : St → Prop) : Nat → Int32 → St → Prop
  | 0, _, _ => False
  | n + 1, v4, σ => ((σ.1 21 0) ≤ v4 → (post σ)) ∧ (¬ (σ.1 21 0) ≤ v4 → ((¬ ((a3 >>> (v4 &&& 31)) &&& 1) = 1 → (vp_in v4 n1 ∧ (vp_in v4 6 ∧ (vp_in v4 n2 ∧ ((f_X0_lives_L3 r1 n1 r2 n2 a3 post n) (v4 + 1) (st_up σ r2 v4.toNatClampNeg (if ((σ.1 r1 v4.toNatClampNeg) + (σ.1 23 v4.toNatClampNeg)) < 999 then ((σ.1 r1 v4.toNatClampNeg) + (σ.1 23 v4.toNatClampNeg)) else 999))))))) ∧ (((a3 >>> (v4 &&& 31)) &&& 1) = 1 → (vp_in v4 n1 ∧ (f_X0_aheadOfCut (σ.1 r1 v4.toNatClampNeg) v4 a3 σ (fun x8 σ7 => vp_in v4 n2 ∧ ((f_X0_lives_L3 r1 n1 r2 n2 a3 post n) (v4 + 1) (st_up σ7 r2 v4.toNatClampNeg (x8 - (x8 / 2))))))))))
set_option maxRecDepth 100000 in
set_option maxHeartbeats 4000000 in
theorem p_X0_lives_L3 (r1 : Nat) (n1 : Nat) (r2 : Nat) (n2 : Nat) (a3 : Int32) (hr1 : SX.1[r1]? = some (20, n1, [])) (hr2 : SX.1[r2]? = some (20, n2, [])) (post : St → Prop) : ∀ (n : Nat) (v4 : Int32) (σ : St), f_X0_lives_L3 r1 n1 r2 n2 a3 post n v4 σ → Ev SX RX0 cX0_lives 6 none 1 (EQv SX post) 3 [some (.ref 21), some (.ref r1), some (.ref r2), some (.int a3), some (.int v4), none] [] σ := by
  intro n
  induction n with
  | zero =>
    intro v4 σ hf
    exact hf.elim
  | succ n hagain3 =>
    intro v4 σ hf
    rw [f_X0_lives_L3] at hf
    refine ev_iload (pc := 3) dX0_lives_3 rfl ?_
    refine ev_aload_n (pc := 5) dX0_lives_5 rfl (i := 0) rfl ?_
    refine ev_get (pc := 6) fl_X0_36_0_0 rfl (by decide) rfl rfl dX0_lives_6 ?_
    refine ev_icmp_ge (pc := 9) (tgt := 77) dX0_lives_9 (by decide) (fun c1 => ?_) (fun c1 => ?_)
    · have hf := hf.1 c1
      exact ev_vret (pc := 77) rfl dX0_lives_77 hf
    · have hf := hf.2 c1
      refine ev_iload_n (pc := 12) dX0_lives_12 rfl (i := 3) rfl ?_
      refine ev_iload (pc := 13) dX0_lives_13 rfl ?_
      refine ev_ishr (pc := 15) dX0_lives_15 ?_
      refine ev_iconst (pc := 16) (v := 1) dX0_lives_16 kc_1 ?_
      refine ev_iand (pc := 17) dX0_lives_17 ?_
      refine ev_iconst (pc := 18) (v := 1) dX0_lives_18 kc_1 ?_
      refine ev_icmp_ne (pc := 19) (tgt := 49) dX0_lives_19 (by decide) (fun c2 => ?_) (fun c2 => ?_)
      · have hf := hf.1 c2
        refine ev_aload_n (pc := 49) dX0_lives_49 rfl (i := 2) rfl ?_
        refine ev_iload (pc := 50) dX0_lives_50 rfl ?_
        refine ev_sipush (pc := 52) (v := 999) dX0_lives_52 ks_999 ?_
        refine ev_aload_n (pc := 55) dX0_lives_55 rfl (i := 1) rfl ?_
        refine ev_iload (pc := 56) dX0_lives_56 rfl ?_
        obtain ⟨h3, hf⟩ := hf
        refine ev_iald (pc := 58) hr1 rfl h3 rfl dX0_lives_58 ?_
        refine ev_aload_n (pc := 59) dX0_lives_59 rfl (i := 0) rfl ?_
        refine ev_get (pc := 60) fl_X0_22_0_4 rfl (by decide) rfl rfl dX0_lives_60 ?_
        refine ev_iload (pc := 63) dX0_lives_63 rfl ?_
        obtain ⟨h4, hf⟩ := hf
        refine ev_iald (pc := 65) rfl rfl h4 rfl dX0_lives_65 ?_
        refine ev_iadd (pc := 66) dX0_lives_66 ?_
        refine ev_min (pc := 67) wmin_X0_78 (by omega) (Nat.le_of_ble_eq_true rfl) dX0_lives_67 ?_
        obtain ⟨h5, hf⟩ := hf
        refine ev_iast (pc := 70) hr2 rfl h5 rfl dX0_lives_70 ?_
        refine ev_iinc (pc := 71) (v := v4 + 1) (L' := [some (.ref 21), some (.ref r1), some (.ref r2), some (.int a3), some (.int (v4 + 1)), none]) dX0_lives_71 rfl (by rw [kc_1]) (by decide) rfl rfl ?_
        refine ev_goto (pc := 74) (tgt := 3) dX0_lives_74 (by decide) ?_
        exact hagain3 _ _ hf
      · have hf := hf.2 c2
        refine ev_aload_n (pc := 22) dX0_lives_22 rfl (i := 0) rfl ?_
        refine ev_aload_n (pc := 23) dX0_lives_23 rfl (i := 1) rfl ?_
        refine ev_iload (pc := 24) dX0_lives_24 rfl ?_
        obtain ⟨h6, hf⟩ := hf
        refine ev_iald (pc := 26) hr1 rfl h6 rfl dX0_lives_26 ?_
        refine ev_iload (pc := 27) dX0_lives_27 rfl ?_
        refine ev_iload_n (pc := 29) dX0_lives_29 rfl (i := 3) rfl ?_
        refine ev_calli (pc := 30) (stk := []) (ce_V (c_X0_aheadOfCut (σ.1 r1 v4.toNatClampNeg) v4 a3 σ _ hf) wv_X0_74_X0_aheadOfCut rfl (by decide) rfl (by decide) rfl (Nat.le_of_ble_eq_true rfl) rfl dX0_lives_30) (fun x8 σ7 hf => ?_)
        refine ev_istore (pc := 33) (L' := [some (.ref 21), some (.ref r1), some (.ref r2), some (.int a3), some (.int v4), some (.int x8)]) dX0_lives_33 (by decide) rfl rfl ?_
        refine ev_aload_n (pc := 35) dX0_lives_35 rfl (i := 2) rfl ?_
        refine ev_iload (pc := 36) dX0_lives_36 rfl ?_
        refine ev_iload (pc := 38) dX0_lives_38 rfl ?_
        refine ev_iload (pc := 40) dX0_lives_40 rfl ?_
        refine ev_iconst (pc := 42) (v := 2) dX0_lives_42 kc_2 ?_
        refine ev_idiv (pc := 43) dX0_lives_43 (by decide) ?_
        refine ev_isub (pc := 44) dX0_lives_44 ?_
        obtain ⟨h9, hf⟩ := hf
        refine ev_iast (pc := 45) hr2 rfl h9 rfl dX0_lives_45 ?_
        refine ev_goto (pc := 46) (tgt := 71) dX0_lives_46 (by decide) ?_
        refine ev_iinc (pc := 71) (v := v4 + 1) (L' := [some (.ref 21), some (.ref r1), some (.ref r2), some (.int a3), some (.int (v4 + 1)), some (.int x8)]) dX0_lives_71 rfl (by rw [kc_1]) (by decide) rfl rfl ?_
        refine ev_goto (pc := 74) (tgt := 3) dX0_lives_74 (by decide) ?_
        refine ev_mask [true, true, true, true, true, false] (L' := [some (.ref 21), some (.ref r1), some (.ref r2), some (.int a3), some (.int (v4 + 1)), none]) rfl ?_
        exact hagain3 _ _ hf
def f_X0_lives (r1 : Nat) (n1 : Nat) (r2 : Nat) (n2 : Nat) (a3 : Int32) (σ : St) (post : St → Prop) : Prop := ∃ n10 : Nat, f_X0_lives_L3 r1 n1 r2 n2 a3 post n10 0 σ
set_option maxRecDepth 100000 in
set_option maxHeartbeats 4000000 in
theorem c_X0_lives (r1 : Nat) (n1 : Nat) (r2 : Nat) (n2 : Nat) (a3 : Int32) (hr1 : SX.1[r1]? = some (20, n1, [])) (hr2 : SX.1[r2]? = some (20, n2, [])) (σ : St) (post : St → Prop) (hf : f_X0_lives r1 n1 r2 n2 a3 σ post) : Ct SX yX0_lives cX0_lives 6 none 1 (EQv SX post) [.ref 21, .ref r1, .ref r2, .int a3] σ := by
  rw [f_X0_lives] at hf
  refine ct_of (by decide) rfl (Nat.le_of_ble_eq_true rfl) ?_
  show Ev SX RX0 cX0_lives 6 none 1 (EQv SX post) 0 [some (.ref 21), some (.ref r1), some (.ref r2), some (.int a3), none, none] [] σ
  refine ev_iconst (pc := 0) (v := 0) dX0_lives_0 kc_0 ?_
  refine ev_istore (pc := 1) (L' := [some (.ref 21), some (.ref r1), some (.ref r2), some (.int a3), some (.int 0), none]) dX0_lives_1 (by decide) rfl rfl ?_
  obtain ⟨n10, hf⟩ := hf
  exact p_X0_lives_L3 r1 n1 r2 n2 a3 hr1 hr2 post n10 _ _ hf
def f_X0_coinsOf (a1 : Int32) (a2 : Int32) (a3 : Int32) (σ : St) (post : Int32 → St → Prop) : Prop := (¬ ((a3 >>> (a2 &&& 31)) &&& 1) = 0 → (f_X0_aheadOfCut a1 a2 a3 σ (fun x3 σ2 => ((σ2.1 21 2) ≤ (x3 / 2) → (post (x3 / 2) σ2)) ∧ (¬ (σ2.1 21 2) ≤ (x3 / 2) → (post 0 σ2))))) ∧ (((a3 >>> (a2 &&& 31)) &&& 1) = 0 → (post 0 σ))
set_option maxRecDepth 100000 in
set_option maxHeartbeats 4000000 in
theorem c_X0_coinsOf (a1 : Int32) (a2 : Int32) (a3 : Int32) (σ : St) (post : Int32 → St → Prop) (hf : f_X0_coinsOf a1 a2 a3 σ post) : Ct SX yX0_coinsOf cX0_coinsOf 5 (some .int) 1 (EQi SX post) [.ref 21, .int a1, .int a2, .int a3] σ := by
  rw [f_X0_coinsOf] at hf
  refine ct_of (by decide) rfl (Nat.le_of_ble_eq_true rfl) ?_
  show Ev SX RX0 cX0_coinsOf 5 (some .int) 1 (EQi SX post) 0 [some (.ref 21), some (.int a1), some (.int a2), some (.int a3), none] [] σ
  refine ev_iload_n (pc := 0) dX0_coinsOf_0 rfl (i := 3) rfl ?_
  refine ev_iload_n (pc := 1) dX0_coinsOf_1 rfl (i := 2) rfl ?_
  refine ev_ishr (pc := 2) dX0_coinsOf_2 ?_
  refine ev_iconst (pc := 3) (v := 1) dX0_coinsOf_3 kc_1 ?_
  refine ev_iand (pc := 4) dX0_coinsOf_4 ?_
  refine ev_if_ne (pc := 5) (tgt := 10) dX0_coinsOf_5 (by decide) (fun c1 => ?_) (fun c1 => ?_)
  · have hf := hf.1 c1
    refine ev_aload_n (pc := 10) dX0_coinsOf_10 rfl (i := 0) rfl ?_
    refine ev_iload_n (pc := 11) dX0_coinsOf_11 rfl (i := 1) rfl ?_
    refine ev_iload_n (pc := 12) dX0_coinsOf_12 rfl (i := 2) rfl ?_
    refine ev_iload_n (pc := 13) dX0_coinsOf_13 rfl (i := 3) rfl ?_
    refine ev_calli (pc := 14) (stk := []) (ce_V (c_X0_aheadOfCut a1 a2 a3 σ _ hf) wv_X0_74_X0_aheadOfCut rfl (by decide) rfl (by decide) rfl (Nat.le_of_ble_eq_true rfl) rfl dX0_coinsOf_14) (fun x3 σ2 hf => ?_)
    refine ev_iconst (pc := 17) (v := 2) dX0_coinsOf_17 kc_2 ?_
    refine ev_idiv (pc := 18) dX0_coinsOf_18 (by decide) ?_
    refine ev_istore (pc := 19) (L' := [some (.ref 21), some (.int a1), some (.int a2), some (.int a3), some (.int (x3 / 2))]) dX0_coinsOf_19 (by decide) rfl rfl ?_
    refine ev_iload (pc := 21) dX0_coinsOf_21 rfl ?_
    refine ev_aload_n (pc := 23) dX0_coinsOf_23 rfl (i := 0) rfl ?_
    refine ev_get (pc := 24) fl_X0_15_0_2 rfl (by decide) rfl rfl dX0_coinsOf_24 ?_
    refine ev_icmp_ge (pc := 27) (tgt := 34) dX0_coinsOf_27 (by decide) (fun c4 => ?_) (fun c4 => ?_)
    · have hf := hf.1 c4
      refine ev_iload (pc := 34) dX0_coinsOf_34 rfl ?_
      exact ev_iret (pc := 36) rfl dX0_coinsOf_36 hf
    · have hf := hf.2 c4
      refine ev_iconst (pc := 30) (v := 0) dX0_coinsOf_30 kc_0 ?_
      refine ev_goto (pc := 31) (tgt := 36) dX0_coinsOf_31 (by decide) ?_
      exact ev_iret (pc := 36) rfl dX0_coinsOf_36 hf
  · have hf := hf.2 c1
    refine ev_iconst (pc := 8) (v := 0) dX0_coinsOf_8 kc_0 ?_
    exact ev_iret (pc := 9) rfl dX0_coinsOf_9 hf
def f_X4_remembers_J37 (post : St → Prop) (σ : St) : Prop := (¬ (0 : Int32) < 0 ∧ ¬ (((σ.1 39 4) * 14) : Int32) < 0 ∧ ¬ (6 : Int32) < 0 ∧ (0 : Int32).toNatClampNeg + (6 : Int32).toNatClampNeg ≤ 6 ∧ (((σ.1 39 4) * 14) : Int32).toNatClampNeg + (6 : Int32).toNatClampNeg ≤ 140) ∧ (∀ σ3 : St, σ3 = (st_row σ 42 (va_cpy (σ.1 40) (σ.1 42) 0 (((σ.1 39 4) * 14).toNatClampNeg) 6)) → ((¬ (0 : Int32) < 0 ∧ ¬ ((((σ.1 39 4) * 14) + 6) : Int32) < 0 ∧ ¬ (6 : Int32) < 0 ∧ (0 : Int32).toNatClampNeg + (6 : Int32).toNatClampNeg ≤ 6 ∧ ((((σ.1 39 4) * 14) + 6) : Int32).toNatClampNeg + (6 : Int32).toNatClampNeg ≤ 140) ∧ (∀ σ5 : St, σ5 = (st_row σ3 42 (va_cpy (σ3.1 41) (σ3.1 42) 0 ((((σ.1 39 4) * 14) + 6).toNatClampNeg) 6)) → (vp_in ((((σ.1 39 4) * 14) + 14) - 2) 140 ∧ (∀ σ7 : St, σ7 = (st_up σ5 42 (((((σ.1 39 4) * 14) + 14) - 2).toNatClampNeg) ((st_row σ3 42 (va_cpy (σ3.1 41) (σ3.1 42) 0 ((((σ.1 39 4) * 14) + 6).toNatClampNeg) 6)).1 39 2)) → (vp_in ((((σ.1 39 4) * 14) + 14) - 1) 140 ∧ (∀ σ9 : St, σ9 = (st_up σ7 42 (((((σ.1 39 4) * 14) + 14) - 1).toNatClampNeg) ((st_up σ5 42 (((((σ.1 39 4) * 14) + 14) - 2).toNatClampNeg) ((st_row σ3 42 (va_cpy (σ3.1 41) (σ3.1 42) 0 ((((σ.1 39 4) * 14) + 6).toNatClampNeg) 6)).1 39 2)).1 39 3)) → (post (st_up σ9 39 4 (((st_up σ7 42 (((((σ.1 39 4) * 14) + 14) - 1).toNatClampNeg) ((st_up σ5 42 (((((σ.1 39 4) * 14) + 14) - 2).toNatClampNeg) ((st_row σ3 42 (va_cpy (σ3.1 41) (σ3.1 42) 0 ((((σ.1 39 4) * 14) + 6).toNatClampNeg) 6)).1 39 2)).1 39 3)).1 39 4) + 1))))))))))
set_option maxRecDepth 100000 in
set_option maxHeartbeats 4000000 in
theorem p_X4_remembers_J37 (post : St → Prop) (σ : St) (hf : f_X4_remembers_J37 post σ) : Ev SX RX4 cX4_remembers 2 none 1 (EQv SX post) 37 [some (.ref 39), none] [] σ := by
  rw [f_X4_remembers_J37] at hf
  refine ev_aload_n (pc := 37) dX4_remembers_37 rfl (i := 0) rfl ?_
  refine ev_get (pc := 38) fl_X4_43_4_4 rfl (by decide) rfl rfl dX4_remembers_38 ?_
  refine ev_bipush (pc := 41) (v := 14) dX4_remembers_41 kb_14 ?_
  refine ev_imul (pc := 43) dX4_remembers_43 ?_
  refine ev_istore_n (pc := 44) (L' := [some (.ref 39), some (.int ((σ.1 39 4) * 14))]) dX4_remembers_44 rfl (by decide) rfl rfl ?_
  refine ev_aload_n (pc := 45) dX4_remembers_45 rfl (i := 0) rfl ?_
  refine ev_get (pc := 46) fl_X4_9_4_0 rfl (by decide) rfl rfl dX4_remembers_46 ?_
  refine ev_iconst (pc := 49) (v := 0) dX4_remembers_49 kc_0 ?_
  refine ev_aload_n (pc := 50) dX4_remembers_50 rfl (i := 0) rfl ?_
  refine ev_get (pc := 51) fl_X4_18_4_5 rfl (by decide) rfl rfl dX4_remembers_51 ?_
  refine ev_iload_n (pc := 54) dX4_remembers_54 rfl (i := 1) rfl ?_
  refine ev_bipush (pc := 55) (v := 6) dX4_remembers_55 kb_6 ?_
  obtain ⟨h2, hf⟩ := hf
  refine ev_copy (pc := 57) wcp_X4_24 rfl rfl rfl h2 kn_0 rfl kn_6 (by omega) (Nat.le_of_ble_eq_true rfl) dX4_remembers_57 ?_
  refine ev_aload_n (pc := 60) dX4_remembers_60 rfl (i := 0) rfl ?_
  refine ev_get (pc := 61) fl_X4_15_4_1 rfl (by decide) rfl rfl dX4_remembers_61 ?_
  refine ev_iconst (pc := 64) (v := 0) dX4_remembers_64 kc_0 ?_
  refine ev_aload_n (pc := 65) dX4_remembers_65 rfl (i := 0) rfl ?_
  refine ev_get (pc := 66) fl_X4_18_4_5 rfl (by decide) rfl rfl dX4_remembers_66 ?_
  refine ev_iload_n (pc := 69) dX4_remembers_69 rfl (i := 1) rfl ?_
  refine ev_bipush (pc := 70) (v := 6) dX4_remembers_70 kb_6 ?_
  refine ev_iadd (pc := 72) dX4_remembers_72 ?_
  refine ev_bipush (pc := 73) (v := 6) dX4_remembers_73 kb_6 ?_
  refine ev_nm (fun σ3 q3 => ?_)
  have hf := hf σ3 q3
  obtain ⟨h4, hf⟩ := hf
  refine ev_copy (pc := 75) wcp_X4_24 rfl rfl rfl h4 kn_0 rfl kn_6 (by omega) (Nat.le_of_ble_eq_true rfl) dX4_remembers_75 ?_
  refine ev_aload_n (pc := 78) dX4_remembers_78 rfl (i := 0) rfl ?_
  refine ev_get (pc := 79) fl_X4_18_4_5 rfl (by decide) rfl rfl dX4_remembers_79 ?_
  refine ev_iload_n (pc := 82) dX4_remembers_82 rfl (i := 1) rfl ?_
  refine ev_bipush (pc := 83) (v := 14) dX4_remembers_83 kb_14 ?_
  refine ev_iadd (pc := 85) dX4_remembers_85 ?_
  refine ev_iconst (pc := 86) (v := 2) dX4_remembers_86 kc_2 ?_
  refine ev_isub (pc := 87) dX4_remembers_87 ?_
  refine ev_aload_n (pc := 88) dX4_remembers_88 rfl (i := 0) rfl ?_
  refine ev_get (pc := 89) fl_X4_36_4_2 rfl (by decide) rfl rfl dX4_remembers_89 ?_
  refine ev_nm (fun σ5 q5 => ?_)
  have hf := hf σ5 q5
  obtain ⟨h6, hf⟩ := hf
  refine ev_iast (pc := 92) rfl rfl h6 rfl dX4_remembers_92 ?_
  refine ev_aload_n (pc := 93) dX4_remembers_93 rfl (i := 0) rfl ?_
  refine ev_get (pc := 94) fl_X4_18_4_5 rfl (by decide) rfl rfl dX4_remembers_94 ?_
  refine ev_iload_n (pc := 97) dX4_remembers_97 rfl (i := 1) rfl ?_
  refine ev_bipush (pc := 98) (v := 14) dX4_remembers_98 kb_14 ?_
  refine ev_iadd (pc := 100) dX4_remembers_100 ?_
  refine ev_iconst (pc := 101) (v := 1) dX4_remembers_101 kc_1 ?_
  refine ev_isub (pc := 102) dX4_remembers_102 ?_
  refine ev_aload_n (pc := 103) dX4_remembers_103 rfl (i := 0) rfl ?_
  refine ev_get (pc := 104) fl_X4_40_4_3 rfl (by decide) rfl rfl dX4_remembers_104 ?_
  refine ev_nm (fun σ7 q7 => ?_)
  have hf := hf σ7 q7
  obtain ⟨h8, hf⟩ := hf
  refine ev_iast (pc := 107) rfl rfl h8 rfl dX4_remembers_107 ?_
  refine ev_aload_n (pc := 108) dX4_remembers_108 rfl (i := 0) rfl ?_
  refine ev_dup (pc := 109) dX4_remembers_109 rfl ?_
  refine ev_get (pc := 110) fl_X4_43_4_4 rfl (by decide) rfl rfl dX4_remembers_110 ?_
  refine ev_iconst (pc := 113) (v := 1) dX4_remembers_113 kc_1 ?_
  refine ev_iadd (pc := 114) dX4_remembers_114 ?_
  refine ev_nm (fun σ9 q9 => ?_)
  have hf := hf σ9 q9
  refine ev_puti (pc := 115) fp_X4_43_4_4 rfl (by decide) rfl rfl rfl dX4_remembers_115 ?_
  exact ev_vret (pc := 118) rfl dX4_remembers_118 hf
def f_X4_remembers (σ : St) (post : St → Prop) : Prop := ((σ.1 39 4) < 10 → (f_X4_remembers_J37 post σ)) ∧ (¬ (σ.1 39 4) < 10 → ((¬ (14 : Int32) < 0 ∧ ¬ (0 : Int32) < 0 ∧ ¬ ((140 - 14) : Int32) < 0 ∧ (14 : Int32).toNatClampNeg + ((140 - 14) : Int32).toNatClampNeg ≤ 140 ∧ (0 : Int32).toNatClampNeg + ((140 - 14) : Int32).toNatClampNeg ≤ 140) ∧ (∀ σ11 : St, σ11 = (st_row σ 42 (va_cpy (σ.1 42) (σ.1 42) 14 0 (((140 - 14) : Int32).toNatClampNeg))) → (f_X4_remembers_J37 post (st_up σ11 39 4 9)))))
set_option maxRecDepth 100000 in
set_option maxHeartbeats 4000000 in
theorem c_X4_remembers (σ : St) (post : St → Prop) (hf : f_X4_remembers σ post) : Ct SX yX4_remembers cX4_remembers 2 none 1 (EQv SX post) [.ref 39] σ := by
  rw [f_X4_remembers] at hf
  refine ct_of (by decide) rfl (Nat.le_of_ble_eq_true rfl) ?_
  show Ev SX RX4 cX4_remembers 2 none 1 (EQv SX post) 0 [some (.ref 39), none] [] σ
  refine ev_aload_n (pc := 0) dX4_remembers_0 rfl (i := 0) rfl ?_
  refine ev_get (pc := 1) fl_X4_43_4_4 rfl (by decide) rfl rfl dX4_remembers_1 ?_
  refine ev_bipush (pc := 4) (v := 10) dX4_remembers_4 kb_10 ?_
  refine ev_icmp_lt (pc := 6) (tgt := 37) dX4_remembers_6 (by decide) (fun c1 => ?_) (fun c1 => ?_)
  · have hf := hf.1 c1
    exact p_X4_remembers_J37 post _ hf
  · have hf := hf.2 c1
    refine ev_aload_n (pc := 9) dX4_remembers_9 rfl (i := 0) rfl ?_
    refine ev_get (pc := 10) fl_X4_18_4_5 rfl (by decide) rfl rfl dX4_remembers_10 ?_
    refine ev_bipush (pc := 13) (v := 14) dX4_remembers_13 kb_14 ?_
    refine ev_aload_n (pc := 15) dX4_remembers_15 rfl (i := 0) rfl ?_
    refine ev_get (pc := 16) fl_X4_18_4_5 rfl (by decide) rfl rfl dX4_remembers_16 ?_
    refine ev_iconst (pc := 19) (v := 0) dX4_remembers_19 kc_0 ?_
    refine ev_aload_n (pc := 20) dX4_remembers_20 rfl (i := 0) rfl ?_
    refine ev_get (pc := 21) fl_X4_18_4_5 rfl (by decide) rfl rfl dX4_remembers_21 ?_
    refine ev_alen (pc := 24) (v := 140) (t := 0) rfl rfl rfl (by decide) dX4_remembers_24 ?_
    refine ev_bipush (pc := 25) (v := 14) dX4_remembers_25 kb_14 ?_
    refine ev_isub (pc := 27) dX4_remembers_27 ?_
    obtain ⟨h10, hf⟩ := hf
    refine ev_copy (pc := 28) wcp_X4_24 rfl rfl rfl h10 kn_14 kn_0 rfl (by omega) (Nat.le_of_ble_eq_true rfl) dX4_remembers_28 ?_
    refine ev_aload_n (pc := 31) dX4_remembers_31 rfl (i := 0) rfl ?_
    refine ev_bipush (pc := 32) (v := 9) dX4_remembers_32 kb_9 ?_
    refine ev_nm (fun σ11 q11 => ?_)
    have hf := hf σ11 q11
    refine ev_puti (pc := 34) fp_X4_43_4_4 rfl (by decide) rfl rfl rfl dX4_remembers_34 ?_
    exact p_X4_remembers_J37 post _ hf
def f_X11_week_L40 (a1 : Int32) (k98 : Int32 → St → Prop) (post : Int32 → St → Prop) : Nat → Int32 → Int32 → St → Prop
  | 0, _, _, _ => False
  | n + 1, v2, v3, σ => ((σ.1 21 0) ≤ v3 → (k98 v2 σ)) ∧ (¬ (σ.1 21 0) ≤ v3 → (vp_in v3 6 ∧ (f_X0_coinsOf (σ.1 40 v3.toNatClampNeg) v3 a1 σ (fun x10 σ9 => (x10 ≤ 0 → ((f_X11_week_L40 a1 k98 post n) (v2 + x10) (v3 + 1) σ9)) ∧ (¬ x10 ≤ 0 → (vp_in v3 6 ∧ ((f_X11_week_L40 a1 k98 post n) (v2 + x10) (v3 + 1) (st_up σ9 41 v3.toNatClampNeg x10))))))))
set_option maxRecDepth 100000 in
set_option maxHeartbeats 4000000 in
theorem p_X11_week_L40 (a1 : Int32) (k98 : Int32 → St → Prop) (post : Int32 → St → Prop) (hk98 : ∀ (v2 : Int32) (τ : St), k98 v2 τ → Ev SX RX11 cX11_week 5 (some .int) 2 (EQi SX post) 98 [some (.ref 0), some (.int a1), some (.int v2), none, none] [] τ) : ∀ (n : Nat) (v2 : Int32) (v3 : Int32) (σ : St), f_X11_week_L40 a1 k98 post n v2 v3 σ → Ev SX RX11 cX11_week 5 (some .int) 2 (EQi SX post) 40 [some (.ref 0), some (.int a1), some (.int v2), some (.int v3), none] [] σ := by
  intro n
  induction n with
  | zero =>
    intro v2 v3 σ hf
    exact hf.elim
  | succ n hagain40 =>
    intro v2 v3 σ hf
    rw [f_X11_week_L40] at hf
    refine ev_iload_n (pc := 40) dX11_week_40 rfl (i := 3) rfl ?_
    refine ev_aload_n (pc := 41) dX11_week_41 rfl (i := 0) rfl ?_
    refine ev_get (pc := 42) fl_X11_23_11_2 rfl (by decide) rfl rfl dX11_week_42 ?_
    refine ev_get (pc := 45) fl_X11_158_0_0 rfl (by decide) rfl rfl dX11_week_45 ?_
    refine ev_icmp_ge (pc := 48) (tgt := 98) dX11_week_48 (by decide) (fun c7 => ?_) (fun c7 => ?_)
    · have hf := hf.1 c7
      refine ev_mask [true, true, true, false, false] (L' := [some (.ref 0), some (.int a1), some (.int v2), none, none]) rfl ?_
      exact hk98 _ _ hf
    · have hf := hf.2 c7
      refine ev_aload_n (pc := 51) dX11_week_51 rfl (i := 0) rfl ?_
      refine ev_get (pc := 52) fl_X11_23_11_2 rfl (by decide) rfl rfl dX11_week_52 ?_
      refine ev_aload_n (pc := 55) dX11_week_55 rfl (i := 0) rfl ?_
      refine ev_get (pc := 56) fl_X11_29_11_3 rfl (by decide) rfl rfl dX11_week_56 ?_
      refine ev_get (pc := 59) fl_X11_131_4_0 rfl (by decide) rfl rfl dX11_week_59 ?_
      refine ev_iload_n (pc := 62) dX11_week_62 rfl (i := 3) rfl ?_
      obtain ⟨h8, hf⟩ := hf
      refine ev_iald (pc := 63) rfl rfl h8 rfl dX11_week_63 ?_
      refine ev_iload_n (pc := 64) dX11_week_64 rfl (i := 3) rfl ?_
      refine ev_iload_n (pc := 65) dX11_week_65 rfl (i := 1) rfl ?_
      refine ev_calli (pc := 66) (stk := []) (ce_V (c_X0_coinsOf (σ.1 40 v3.toNatClampNeg) v3 a1 σ _ hf) wv_X11_161_X0_coinsOf rfl (by decide) rfl (by decide) rfl (Nat.le_of_ble_eq_true rfl) rfl dX11_week_66) (fun x10 σ9 hf => ?_)
      refine ev_istore (pc := 69) (L' := [some (.ref 0), some (.int a1), some (.int v2), some (.int v3), some (.int x10)]) dX11_week_69 (by decide) rfl rfl ?_
      refine ev_iload_n (pc := 71) dX11_week_71 rfl (i := 2) rfl ?_
      refine ev_iload (pc := 72) dX11_week_72 rfl ?_
      refine ev_iadd (pc := 74) dX11_week_74 ?_
      refine ev_istore_n (pc := 75) (L' := [some (.ref 0), some (.int a1), some (.int (v2 + x10)), some (.int v3), some (.int x10)]) dX11_week_75 rfl (by decide) rfl rfl ?_
      refine ev_iload (pc := 76) dX11_week_76 rfl ?_
      refine ev_if_le (pc := 78) (tgt := 92) dX11_week_78 (by decide) (fun c11 => ?_) (fun c11 => ?_)
      · have hf := hf.1 c11
        refine ev_iinc (pc := 92) (v := v3 + 1) (L' := [some (.ref 0), some (.int a1), some (.int (v2 + x10)), some (.int (v3 + 1)), some (.int x10)]) dX11_week_92 rfl (by rw [kc_1]) (by decide) rfl rfl ?_
        refine ev_goto (pc := 95) (tgt := 40) dX11_week_95 (by decide) ?_
        refine ev_mask [true, true, true, true, false] (L' := [some (.ref 0), some (.int a1), some (.int (v2 + x10)), some (.int (v3 + 1)), none]) rfl ?_
        exact hagain40 _ _ _ hf
      · have hf := hf.2 c11
        refine ev_aload_n (pc := 81) dX11_week_81 rfl (i := 0) rfl ?_
        refine ev_get (pc := 82) fl_X11_29_11_3 rfl (by decide) rfl rfl dX11_week_82 ?_
        refine ev_get (pc := 85) fl_X11_137_4_1 rfl (by decide) rfl rfl dX11_week_85 ?_
        refine ev_iload_n (pc := 88) dX11_week_88 rfl (i := 3) rfl ?_
        refine ev_iload (pc := 89) dX11_week_89 rfl ?_
        obtain ⟨h12, hf⟩ := hf
        refine ev_iast (pc := 91) rfl rfl h12 rfl dX11_week_91 ?_
        refine ev_iinc (pc := 92) (v := v3 + 1) (L' := [some (.ref 0), some (.int a1), some (.int (v2 + x10)), some (.int (v3 + 1)), some (.int x10)]) dX11_week_92 rfl (by rw [kc_1]) (by decide) rfl rfl ?_
        refine ev_goto (pc := 95) (tgt := 40) dX11_week_95 (by decide) ?_
        refine ev_mask [true, true, true, true, false] (L' := [some (.ref 0), some (.int a1), some (.int (v2 + x10)), some (.int (v3 + 1)), none]) rfl ?_
        exact hagain40 _ _ _ hf
def f_X11_week (a1 : Int32) (σ : St) (post : Int32 → St → Prop) : Prop := f_X0_isShift a1 σ (fun x2 σ1 => (¬ x2 = 0 → (((σ1.1 39 3) < 300 → (f_X4_remembers σ1 (fun σ5 => ∃ n18 : Nat, f_X11_week_L40 a1 (fun x14 σ13 => f_X0_lives 40 6 40 6 a1 σ13 (fun σ15 => ∀ σ17 : St, σ17 = (st_up σ15 39 2 (if ((σ15.1 39 2) + x14) < 999999 then ((σ15.1 39 2) + x14) else 999999)) → (post x14 (st_up σ17 39 3 (((st_up σ15 39 2 (if ((σ15.1 39 2) + x14) < 999999 then ((σ15.1 39 2) + x14) else 999999)).1 39 3) + 1))))) post n18 0 0 σ5))) ∧ (¬ (σ1.1 39 3) < 300 → (post (-2) σ1)))) ∧ (x2 = 0 → (post (-1) σ1)))
set_option maxRecDepth 100000 in
set_option maxHeartbeats 4000000 in
theorem c_X11_week (a1 : Int32) (σ : St) (post : Int32 → St → Prop) (hf : f_X11_week a1 σ post) : Ct SX yX11_week cX11_week 5 (some .int) 2 (EQi SX post) [.ref 0, .int a1] σ := by
  rw [f_X11_week] at hf
  refine ct_of (by decide) rfl (Nat.le_of_ble_eq_true rfl) ?_
  show Ev SX RX11 cX11_week 5 (some .int) 2 (EQi SX post) 0 [some (.ref 0), some (.int a1), none, none, none] [] σ
  refine ev_aload_n (pc := 0) dX11_week_0 rfl (i := 0) rfl ?_
  refine ev_get (pc := 1) fl_X11_23_11_2 rfl (by decide) rfl rfl dX11_week_1 ?_
  refine ev_iload_n (pc := 4) dX11_week_4 rfl (i := 1) rfl ?_
  refine ev_calli (pc := 5) (stk := []) (ce_V (c_X0_isShift a1 σ _ hf) wv_X11_149_X0_isShift rfl (by decide) rfl (by decide) rfl (Nat.le_of_ble_eq_true rfl) rfl dX11_week_5) (fun x2 σ1 hf => ?_)
  refine ev_if_ne (pc := 8) (tgt := 13) dX11_week_8 (by decide) (fun c3 => ?_) (fun c3 => ?_)
  · have hf := hf.1 c3
    refine ev_aload_n (pc := 13) dX11_week_13 rfl (i := 0) rfl ?_
    refine ev_get (pc := 14) fl_X11_29_11_3 rfl (by decide) rfl rfl dX11_week_14 ?_
    refine ev_get (pc := 17) fl_X11_152_4_3 rfl (by decide) rfl rfl dX11_week_17 ?_
    refine ev_sipush (pc := 20) (v := 300) dX11_week_20 ks_300 ?_
    refine ev_icmp_lt (pc := 23) (tgt := 29) dX11_week_23 (by decide) (fun c4 => ?_) (fun c4 => ?_)
    · have hf := hf.1 c4
      refine ev_aload_n (pc := 29) dX11_week_29 rfl (i := 0) rfl ?_
      refine ev_get (pc := 30) fl_X11_29_11_3 rfl (by decide) rfl rfl dX11_week_30 ?_
      refine ev_callv (pc := 33) (stk := []) (ce_V (c_X4_remembers σ1 _ hf) wv_X11_155_X4_remembers rfl (by decide) rfl (by decide) rfl (Nat.le_of_ble_eq_true rfl) rfl dX11_week_33) (fun σ5 hf => ?_)
      refine ev_iconst (pc := 36) (v := 0) dX11_week_36 kc_0 ?_
      refine ev_istore_n (pc := 37) (L' := [some (.ref 0), some (.int a1), some (.int 0), none, none]) dX11_week_37 rfl (by decide) rfl rfl ?_
      refine ev_iconst (pc := 38) (v := 0) dX11_week_38 kc_0 ?_
      refine ev_istore_n (pc := 39) (L' := [some (.ref 0), some (.int a1), some (.int 0), some (.int 0), none]) dX11_week_39 rfl (by decide) rfl rfl ?_
      obtain ⟨n18, hf⟩ := hf
      exact p_X11_week_L40 a1 _ post (fun x14 σ13 hf => by
        refine ev_aload_n (pc := 98) dX11_week_98 rfl (i := 0) rfl ?_
        refine ev_get (pc := 99) fl_X11_23_11_2 rfl (by decide) rfl rfl dX11_week_99 ?_
        refine ev_aload_n (pc := 102) dX11_week_102 rfl (i := 0) rfl ?_
        refine ev_get (pc := 103) fl_X11_29_11_3 rfl (by decide) rfl rfl dX11_week_103 ?_
        refine ev_get (pc := 106) fl_X11_131_4_0 rfl (by decide) rfl rfl dX11_week_106 ?_
        refine ev_aload_n (pc := 109) dX11_week_109 rfl (i := 0) rfl ?_
        refine ev_get (pc := 110) fl_X11_29_11_3 rfl (by decide) rfl rfl dX11_week_110 ?_
        refine ev_get (pc := 113) fl_X11_131_4_0 rfl (by decide) rfl rfl dX11_week_113 ?_
        refine ev_iload_n (pc := 116) dX11_week_116 rfl (i := 1) rfl ?_
        refine ev_callv (pc := 117) (stk := []) (ce_V (c_X0_lives 40 6 40 6 a1 rfl rfl σ13 _ hf) wv_X11_165_X0_lives rfl (by decide) rfl (by decide) rfl (Nat.le_of_ble_eq_true rfl) rfl dX11_week_117) (fun σ15 hf => ?_)
        refine ev_aload_n (pc := 120) dX11_week_120 rfl (i := 0) rfl ?_
        refine ev_get (pc := 121) fl_X11_29_11_3 rfl (by decide) rfl rfl dX11_week_121 ?_
        refine ev_ldc (pc := 124) wk_X11_169 dX11_week_124 ?_
        refine ev_aload_n (pc := 126) dX11_week_126 rfl (i := 0) rfl ?_
        refine ev_get (pc := 127) fl_X11_29_11_3 rfl (by decide) rfl rfl dX11_week_127 ?_
        refine ev_get (pc := 130) fl_X11_170_4_2 rfl (by decide) rfl rfl dX11_week_130 ?_
        refine ev_iload_n (pc := 133) dX11_week_133 rfl (i := 2) rfl ?_
        refine ev_iadd (pc := 134) dX11_week_134 ?_
        refine ev_min (pc := 135) wmin_X11_173 (by omega) (Nat.le_of_ble_eq_true rfl) dX11_week_135 ?_
        refine ev_puti (pc := 138) fp_X11_170_4_2 rfl (by decide) rfl rfl rfl dX11_week_138 ?_
        refine ev_aload_n (pc := 141) dX11_week_141 rfl (i := 0) rfl ?_
        refine ev_get (pc := 142) fl_X11_29_11_3 rfl (by decide) rfl rfl dX11_week_142 ?_
        refine ev_dup (pc := 145) dX11_week_145 rfl ?_
        refine ev_get (pc := 146) fl_X11_152_4_3 rfl (by decide) rfl rfl dX11_week_146 ?_
        refine ev_iconst (pc := 149) (v := 1) dX11_week_149 kc_1 ?_
        refine ev_iadd (pc := 150) dX11_week_150 ?_
        refine ev_nm (fun σ17 q17 => ?_)
        have hf := hf σ17 q17
        refine ev_puti (pc := 151) fp_X11_152_4_3 rfl (by decide) rfl rfl rfl dX11_week_151 ?_
        refine ev_iload_n (pc := 154) dX11_week_154 rfl (i := 2) rfl ?_
        exact ev_iret (pc := 155) rfl dX11_week_155 hf) n18 _ _ _ hf
    · have hf := hf.2 c4
      refine ev_bipush (pc := 26) (v := (-2)) dX11_week_26 kb_m2 ?_
      exact ev_iret (pc := 28) rfl dX11_week_28 hf
  · have hf := hf.2 c3
    refine ev_iconst (pc := 11) (v := (-1)) dX11_week_11 kc_m1 ?_
    exact ev_iret (pc := 12) rfl dX11_week_12 hf
def f_X11_quarrel (a1 : Int32) (a2 : Int32) (a3 : Int32) (σ : St) (post : Int32 → St → Prop) : Prop := f_X0_areTwo a1 a2 σ (fun x2 σ1 => (x2 = 0 → (post (-1) σ1)) ∧ (¬ x2 = 0 → ((a3 < 1 → (post (-1) σ1)) ∧ (¬ a3 < 1 → ((a3 ≤ 50 → (f_X4_remembers σ1 (fun σ6 => vp_in a1 6 ∧ (vp_in a1 6 ∧ (vp_in a2 6 ∧ (∀ σ11 : St, σ11 = (st_up σ6 40 a1.toNatClampNeg (if ((σ6.1 40 a1.toNatClampNeg) + a3) < 999 then ((σ6.1 40 a1.toNatClampNeg) + a3) else 999)) → (vp_in a2 6 ∧ (vp_in a1 6 ∧ (post ((st_up σ11 40 a2.toNatClampNeg (if (((st_up σ6 40 a1.toNatClampNeg (if ((σ6.1 40 a1.toNatClampNeg) + a3) < 999 then ((σ6.1 40 a1.toNatClampNeg) + a3) else 999)).1 40 a2.toNatClampNeg) + a3) < 999 then (((st_up σ6 40 a1.toNatClampNeg (if ((σ6.1 40 a1.toNatClampNeg) + a3) < 999 then ((σ6.1 40 a1.toNatClampNeg) + a3) else 999)).1 40 a2.toNatClampNeg) + a3) else 999)).1 40 a1.toNatClampNeg) (st_up σ11 40 a2.toNatClampNeg (if (((st_up σ6 40 a1.toNatClampNeg (if ((σ6.1 40 a1.toNatClampNeg) + a3) < 999 then ((σ6.1 40 a1.toNatClampNeg) + a3) else 999)).1 40 a2.toNatClampNeg) + a3) < 999 then (((st_up σ6 40 a1.toNatClampNeg (if ((σ6.1 40 a1.toNatClampNeg) + a3) < 999 then ((σ6.1 40 a1.toNatClampNeg) + a3) else 999)).1 40 a2.toNatClampNeg) + a3) else 999))))))))))) ∧ (¬ a3 ≤ 50 → (post (-1) σ1)))))))
set_option maxRecDepth 100000 in
set_option maxHeartbeats 4000000 in
theorem c_X11_quarrel (a1 : Int32) (a2 : Int32) (a3 : Int32) (σ : St) (post : Int32 → St → Prop) (hf : f_X11_quarrel a1 a2 a3 σ post) : Ct SX yX11_quarrel cX11_quarrel 4 (some .int) 2 (EQi SX post) [.ref 0, .int a1, .int a2, .int a3] σ := by
  rw [f_X11_quarrel] at hf
  refine ct_of (by decide) rfl (Nat.le_of_ble_eq_true rfl) ?_
  show Ev SX RX11 cX11_quarrel 4 (some .int) 2 (EQi SX post) 0 [some (.ref 0), some (.int a1), some (.int a2), some (.int a3)] [] σ
  refine ev_aload_n (pc := 0) dX11_quarrel_0 rfl (i := 0) rfl ?_
  refine ev_get (pc := 1) fl_X11_23_11_2 rfl (by decide) rfl rfl dX11_quarrel_1 ?_
  refine ev_iload_n (pc := 4) dX11_quarrel_4 rfl (i := 1) rfl ?_
  refine ev_iload_n (pc := 5) dX11_quarrel_5 rfl (i := 2) rfl ?_
  refine ev_calli (pc := 6) (stk := []) (ce_V (c_X0_areTwo a1 a2 σ _ hf) wv_X11_140_X0_areTwo rfl (by decide) rfl (by decide) rfl (Nat.le_of_ble_eq_true rfl) rfl dX11_quarrel_6) (fun x2 σ1 hf => ?_)
  refine ev_if_eq (pc := 9) (tgt := 23) dX11_quarrel_9 (by decide) (fun c3 => ?_) (fun c3 => ?_)
  · have hf := hf.1 c3
    refine ev_iconst (pc := 23) (v := (-1)) dX11_quarrel_23 kc_m1 ?_
    exact ev_iret (pc := 24) rfl dX11_quarrel_24 hf
  · have hf := hf.2 c3
    refine ev_iload_n (pc := 12) dX11_quarrel_12 rfl (i := 3) rfl ?_
    refine ev_iconst (pc := 13) (v := 1) dX11_quarrel_13 kc_1 ?_
    refine ev_icmp_lt (pc := 14) (tgt := 23) dX11_quarrel_14 (by decide) (fun c4 => ?_) (fun c4 => ?_)
    · have hf := hf.1 c4
      refine ev_iconst (pc := 23) (v := (-1)) dX11_quarrel_23 kc_m1 ?_
      exact ev_iret (pc := 24) rfl dX11_quarrel_24 hf
    · have hf := hf.2 c4
      refine ev_iload_n (pc := 17) dX11_quarrel_17 rfl (i := 3) rfl ?_
      refine ev_bipush (pc := 18) (v := 50) dX11_quarrel_18 kb_50 ?_
      refine ev_icmp_le (pc := 20) (tgt := 25) dX11_quarrel_20 (by decide) (fun c5 => ?_) (fun c5 => ?_)
      · have hf := hf.1 c5
        refine ev_aload_n (pc := 25) dX11_quarrel_25 rfl (i := 0) rfl ?_
        refine ev_get (pc := 26) fl_X11_29_11_3 rfl (by decide) rfl rfl dX11_quarrel_26 ?_
        refine ev_callv (pc := 29) (stk := []) (ce_V (c_X4_remembers σ1 _ hf) wv_X11_155_X4_remembers rfl (by decide) rfl (by decide) rfl (Nat.le_of_ble_eq_true rfl) rfl dX11_quarrel_29) (fun σ6 hf => ?_)
        refine ev_aload_n (pc := 32) dX11_quarrel_32 rfl (i := 0) rfl ?_
        refine ev_get (pc := 33) fl_X11_29_11_3 rfl (by decide) rfl rfl dX11_quarrel_33 ?_
        refine ev_get (pc := 36) fl_X11_131_4_0 rfl (by decide) rfl rfl dX11_quarrel_36 ?_
        refine ev_iload_n (pc := 39) dX11_quarrel_39 rfl (i := 1) rfl ?_
        refine ev_sipush (pc := 40) (v := 999) dX11_quarrel_40 ks_999 ?_
        refine ev_aload_n (pc := 43) dX11_quarrel_43 rfl (i := 0) rfl ?_
        refine ev_get (pc := 44) fl_X11_29_11_3 rfl (by decide) rfl rfl dX11_quarrel_44 ?_
        refine ev_get (pc := 47) fl_X11_131_4_0 rfl (by decide) rfl rfl dX11_quarrel_47 ?_
        refine ev_iload_n (pc := 50) dX11_quarrel_50 rfl (i := 1) rfl ?_
        obtain ⟨h8, hf⟩ := hf
        refine ev_iald (pc := 51) rfl rfl h8 rfl dX11_quarrel_51 ?_
        refine ev_iload_n (pc := 52) dX11_quarrel_52 rfl (i := 3) rfl ?_
        refine ev_iadd (pc := 53) dX11_quarrel_53 ?_
        refine ev_min (pc := 54) wmin_X11_173 (by omega) (Nat.le_of_ble_eq_true rfl) dX11_quarrel_54 ?_
        obtain ⟨h9, hf⟩ := hf
        refine ev_iast (pc := 57) rfl rfl h9 rfl dX11_quarrel_57 ?_
        refine ev_aload_n (pc := 58) dX11_quarrel_58 rfl (i := 0) rfl ?_
        refine ev_get (pc := 59) fl_X11_29_11_3 rfl (by decide) rfl rfl dX11_quarrel_59 ?_
        refine ev_get (pc := 62) fl_X11_131_4_0 rfl (by decide) rfl rfl dX11_quarrel_62 ?_
        refine ev_iload_n (pc := 65) dX11_quarrel_65 rfl (i := 2) rfl ?_
        refine ev_sipush (pc := 66) (v := 999) dX11_quarrel_66 ks_999 ?_
        refine ev_aload_n (pc := 69) dX11_quarrel_69 rfl (i := 0) rfl ?_
        refine ev_get (pc := 70) fl_X11_29_11_3 rfl (by decide) rfl rfl dX11_quarrel_70 ?_
        refine ev_get (pc := 73) fl_X11_131_4_0 rfl (by decide) rfl rfl dX11_quarrel_73 ?_
        refine ev_iload_n (pc := 76) dX11_quarrel_76 rfl (i := 2) rfl ?_
        obtain ⟨h10, hf⟩ := hf
        refine ev_iald (pc := 77) rfl rfl h10 rfl dX11_quarrel_77 ?_
        refine ev_iload_n (pc := 78) dX11_quarrel_78 rfl (i := 3) rfl ?_
        refine ev_iadd (pc := 79) dX11_quarrel_79 ?_
        refine ev_min (pc := 80) wmin_X11_173 (by omega) (Nat.le_of_ble_eq_true rfl) dX11_quarrel_80 ?_
        refine ev_nm (fun σ11 q11 => ?_)
        have hf := hf σ11 q11
        obtain ⟨h12, hf⟩ := hf
        refine ev_iast (pc := 83) rfl rfl h12 rfl dX11_quarrel_83 ?_
        refine ev_aload_n (pc := 84) dX11_quarrel_84 rfl (i := 0) rfl ?_
        refine ev_get (pc := 85) fl_X11_29_11_3 rfl (by decide) rfl rfl dX11_quarrel_85 ?_
        refine ev_get (pc := 88) fl_X11_131_4_0 rfl (by decide) rfl rfl dX11_quarrel_88 ?_
        refine ev_iload_n (pc := 91) dX11_quarrel_91 rfl (i := 1) rfl ?_
        obtain ⟨h13, hf⟩ := hf
        refine ev_iald (pc := 92) rfl rfl h13 rfl dX11_quarrel_92 ?_
        exact ev_iret (pc := 93) rfl dX11_quarrel_93 hf
      · have hf := hf.2 c5
        refine ev_iconst (pc := 23) (v := (-1)) dX11_quarrel_23 kc_m1 ?_
        exact ev_iret (pc := 24) rfl dX11_quarrel_24 hf
def f_X11_forgives (a1 : Int32) (σ : St) (post : Int32 → St → Prop) : Prop := f_X0_isMan a1 σ (fun x2 σ1 => (¬ x2 = 0 → (f_X4_remembers σ1 (fun σ4 => vp_in a1 6 ∧ (vp_in a1 6 ∧ (post (σ4.1 40 a1.toNatClampNeg) (st_up σ4 40 a1.toNatClampNeg 0)))))) ∧ (x2 = 0 → (post (-1) σ1)))
set_option maxRecDepth 100000 in
set_option maxHeartbeats 4000000 in
theorem c_X11_forgives (a1 : Int32) (σ : St) (post : Int32 → St → Prop) (hf : f_X11_forgives a1 σ post) : Ct SX yX11_forgives cX11_forgives 3 (some .int) 2 (EQi SX post) [.ref 0, .int a1] σ := by
  rw [f_X11_forgives] at hf
  refine ct_of (by decide) rfl (Nat.le_of_ble_eq_true rfl) ?_
  show Ev SX RX11 cX11_forgives 3 (some .int) 2 (EQi SX post) 0 [some (.ref 0), some (.int a1), none] [] σ
  refine ev_aload_n (pc := 0) dX11_forgives_0 rfl (i := 0) rfl ?_
  refine ev_get (pc := 1) fl_X11_23_11_2 rfl (by decide) rfl rfl dX11_forgives_1 ?_
  refine ev_iload_n (pc := 4) dX11_forgives_4 rfl (i := 1) rfl ?_
  refine ev_calli (pc := 5) (stk := []) (ce_V (c_X0_isMan a1 σ _ hf) wv_X11_127_X0_isMan rfl (by decide) rfl (by decide) rfl (Nat.le_of_ble_eq_true rfl) rfl dX11_forgives_5) (fun x2 σ1 hf => ?_)
  refine ev_if_ne (pc := 8) (tgt := 13) dX11_forgives_8 (by decide) (fun c3 => ?_) (fun c3 => ?_)
  · have hf := hf.1 c3
    refine ev_aload_n (pc := 13) dX11_forgives_13 rfl (i := 0) rfl ?_
    refine ev_get (pc := 14) fl_X11_29_11_3 rfl (by decide) rfl rfl dX11_forgives_14 ?_
    refine ev_callv (pc := 17) (stk := []) (ce_V (c_X4_remembers σ1 _ hf) wv_X11_155_X4_remembers rfl (by decide) rfl (by decide) rfl (Nat.le_of_ble_eq_true rfl) rfl dX11_forgives_17) (fun σ4 hf => ?_)
    refine ev_aload_n (pc := 20) dX11_forgives_20 rfl (i := 0) rfl ?_
    refine ev_get (pc := 21) fl_X11_29_11_3 rfl (by decide) rfl rfl dX11_forgives_21 ?_
    refine ev_get (pc := 24) fl_X11_131_4_0 rfl (by decide) rfl rfl dX11_forgives_24 ?_
    refine ev_iload_n (pc := 27) dX11_forgives_27 rfl (i := 1) rfl ?_
    obtain ⟨h6, hf⟩ := hf
    refine ev_iald (pc := 28) rfl rfl h6 rfl dX11_forgives_28 ?_
    refine ev_istore_n (pc := 29) (L' := [some (.ref 0), some (.int a1), some (.int (σ4.1 40 a1.toNatClampNeg))]) dX11_forgives_29 rfl (by decide) rfl rfl ?_
    refine ev_aload_n (pc := 30) dX11_forgives_30 rfl (i := 0) rfl ?_
    refine ev_get (pc := 31) fl_X11_29_11_3 rfl (by decide) rfl rfl dX11_forgives_31 ?_
    refine ev_get (pc := 34) fl_X11_131_4_0 rfl (by decide) rfl rfl dX11_forgives_34 ?_
    refine ev_iload_n (pc := 37) dX11_forgives_37 rfl (i := 1) rfl ?_
    refine ev_iconst (pc := 38) (v := 0) dX11_forgives_38 kc_0 ?_
    obtain ⟨h7, hf⟩ := hf
    refine ev_iast (pc := 39) rfl rfl h7 rfl dX11_forgives_39 ?_
    refine ev_iload_n (pc := 40) dX11_forgives_40 rfl (i := 2) rfl ?_
    exact ev_iret (pc := 41) rfl dX11_forgives_41 hf
  · have hf := hf.2 c3
    refine ev_iconst (pc := 11) (v := (-1)) dX11_forgives_11 kc_m1 ?_
    exact ev_iret (pc := 12) rfl dX11_forgives_12 hf
def f_X11_buys (a1 : Int32) (σ : St) (post : Int32 → St → Prop) : Prop := f_X0_isMan a1 σ (fun x2 σ1 => (¬ x2 = 0 → (vp_in a1 6 ∧ (((σ1.1 41 a1.toNatClampNeg) = 0 → (post (-2) σ1)) ∧ (¬ (σ1.1 41 a1.toNatClampNeg) = 0 → (vp_in a1 6 ∧ ((((σ1.1 40 a1.toNatClampNeg) + (σ1.1 41 a1.toNatClampNeg)) ≤ 999 → (f_X4_remembers σ1 (fun σ8 => vp_in a1 6 ∧ (vp_in a1 6 ∧ (∀ σ12 : St, σ12 = (st_up σ8 40 a1.toNatClampNeg ((σ8.1 40 a1.toNatClampNeg) + (σ1.1 41 a1.toNatClampNeg))) → (vp_in a1 6 ∧ (∀ σ14 : St, σ14 = (st_up σ12 41 a1.toNatClampNeg 0) → (post (σ1.1 41 a1.toNatClampNeg) (st_up σ14 39 2 (((st_up σ12 41 a1.toNatClampNeg 0).1 39 2) - (σ1.1 41 a1.toNatClampNeg))))))))))) ∧ (¬ ((σ1.1 40 a1.toNatClampNeg) + (σ1.1 41 a1.toNatClampNeg)) ≤ 999 → (post (-2) σ1)))))))) ∧ (x2 = 0 → (post (-1) σ1)))
set_option maxRecDepth 100000 in
set_option maxHeartbeats 4000000 in
theorem c_X11_buys (a1 : Int32) (σ : St) (post : Int32 → St → Prop) (hf : f_X11_buys a1 σ post) : Ct SX yX11_buys cX11_buys 3 (some .int) 2 (EQi SX post) [.ref 0, .int a1] σ := by
  rw [f_X11_buys] at hf
  refine ct_of (by decide) rfl (Nat.le_of_ble_eq_true rfl) ?_
  show Ev SX RX11 cX11_buys 3 (some .int) 2 (EQi SX post) 0 [some (.ref 0), some (.int a1), none] [] σ
  refine ev_aload_n (pc := 0) dX11_buys_0 rfl (i := 0) rfl ?_
  refine ev_get (pc := 1) fl_X11_23_11_2 rfl (by decide) rfl rfl dX11_buys_1 ?_
  refine ev_iload_n (pc := 4) dX11_buys_4 rfl (i := 1) rfl ?_
  refine ev_calli (pc := 5) (stk := []) (ce_V (c_X0_isMan a1 σ _ hf) wv_X11_127_X0_isMan rfl (by decide) rfl (by decide) rfl (Nat.le_of_ble_eq_true rfl) rfl dX11_buys_5) (fun x2 σ1 hf => ?_)
  refine ev_if_ne (pc := 8) (tgt := 13) dX11_buys_8 (by decide) (fun c3 => ?_) (fun c3 => ?_)
  · have hf := hf.1 c3
    refine ev_aload_n (pc := 13) dX11_buys_13 rfl (i := 0) rfl ?_
    refine ev_get (pc := 14) fl_X11_29_11_3 rfl (by decide) rfl rfl dX11_buys_14 ?_
    refine ev_get (pc := 17) fl_X11_137_4_1 rfl (by decide) rfl rfl dX11_buys_17 ?_
    refine ev_iload_n (pc := 20) dX11_buys_20 rfl (i := 1) rfl ?_
    obtain ⟨h4, hf⟩ := hf
    refine ev_iald (pc := 21) rfl rfl h4 rfl dX11_buys_21 ?_
    refine ev_istore_n (pc := 22) (L' := [some (.ref 0), some (.int a1), some (.int (σ1.1 41 a1.toNatClampNeg))]) dX11_buys_22 rfl (by decide) rfl rfl ?_
    refine ev_iload_n (pc := 23) dX11_buys_23 rfl (i := 2) rfl ?_
    refine ev_if_eq (pc := 24) (tgt := 44) dX11_buys_24 (by decide) (fun c5 => ?_) (fun c5 => ?_)
    · have hf := hf.1 c5
      refine ev_bipush (pc := 44) (v := (-2)) dX11_buys_44 kb_m2 ?_
      exact ev_iret (pc := 46) rfl dX11_buys_46 hf
    · have hf := hf.2 c5
      refine ev_aload_n (pc := 27) dX11_buys_27 rfl (i := 0) rfl ?_
      refine ev_get (pc := 28) fl_X11_29_11_3 rfl (by decide) rfl rfl dX11_buys_28 ?_
      refine ev_get (pc := 31) fl_X11_131_4_0 rfl (by decide) rfl rfl dX11_buys_31 ?_
      refine ev_iload_n (pc := 34) dX11_buys_34 rfl (i := 1) rfl ?_
      obtain ⟨h6, hf⟩ := hf
      refine ev_iald (pc := 35) rfl rfl h6 rfl dX11_buys_35 ?_
      refine ev_iload_n (pc := 36) dX11_buys_36 rfl (i := 2) rfl ?_
      refine ev_iadd (pc := 37) dX11_buys_37 ?_
      refine ev_sipush (pc := 38) (v := 999) dX11_buys_38 ks_999 ?_
      refine ev_icmp_le (pc := 41) (tgt := 47) dX11_buys_41 (by decide) (fun c7 => ?_) (fun c7 => ?_)
      · have hf := hf.1 c7
        refine ev_aload_n (pc := 47) dX11_buys_47 rfl (i := 0) rfl ?_
        refine ev_get (pc := 48) fl_X11_29_11_3 rfl (by decide) rfl rfl dX11_buys_48 ?_
        refine ev_callv (pc := 51) (stk := []) (ce_V (c_X4_remembers σ1 _ hf) wv_X11_155_X4_remembers rfl (by decide) rfl (by decide) rfl (Nat.le_of_ble_eq_true rfl) rfl dX11_buys_51) (fun σ8 hf => ?_)
        refine ev_aload_n (pc := 54) dX11_buys_54 rfl (i := 0) rfl ?_
        refine ev_get (pc := 55) fl_X11_29_11_3 rfl (by decide) rfl rfl dX11_buys_55 ?_
        refine ev_get (pc := 58) fl_X11_131_4_0 rfl (by decide) rfl rfl dX11_buys_58 ?_
        refine ev_iload_n (pc := 61) dX11_buys_61 rfl (i := 1) rfl ?_
        refine ev_dup2 (pc := 62) dX11_buys_62 rfl rfl ?_
        obtain ⟨h10, hf⟩ := hf
        refine ev_iald (pc := 63) rfl rfl h10 rfl dX11_buys_63 ?_
        refine ev_iload_n (pc := 64) dX11_buys_64 rfl (i := 2) rfl ?_
        refine ev_iadd (pc := 65) dX11_buys_65 ?_
        obtain ⟨h11, hf⟩ := hf
        refine ev_iast (pc := 66) rfl rfl h11 rfl dX11_buys_66 ?_
        refine ev_aload_n (pc := 67) dX11_buys_67 rfl (i := 0) rfl ?_
        refine ev_get (pc := 68) fl_X11_29_11_3 rfl (by decide) rfl rfl dX11_buys_68 ?_
        refine ev_get (pc := 71) fl_X11_137_4_1 rfl (by decide) rfl rfl dX11_buys_71 ?_
        refine ev_iload_n (pc := 74) dX11_buys_74 rfl (i := 1) rfl ?_
        refine ev_iconst (pc := 75) (v := 0) dX11_buys_75 kc_0 ?_
        refine ev_nm (fun σ12 q12 => ?_)
        have hf := hf σ12 q12
        obtain ⟨h13, hf⟩ := hf
        refine ev_iast (pc := 76) rfl rfl h13 rfl dX11_buys_76 ?_
        refine ev_aload_n (pc := 77) dX11_buys_77 rfl (i := 0) rfl ?_
        refine ev_get (pc := 78) fl_X11_29_11_3 rfl (by decide) rfl rfl dX11_buys_78 ?_
        refine ev_dup (pc := 81) dX11_buys_81 rfl ?_
        refine ev_get (pc := 82) fl_X11_170_4_2 rfl (by decide) rfl rfl dX11_buys_82 ?_
        refine ev_iload_n (pc := 85) dX11_buys_85 rfl (i := 2) rfl ?_
        refine ev_isub (pc := 86) dX11_buys_86 ?_
        refine ev_nm (fun σ14 q14 => ?_)
        have hf := hf σ14 q14
        refine ev_puti (pc := 87) fp_X11_170_4_2 rfl (by decide) rfl rfl rfl dX11_buys_87 ?_
        refine ev_iload_n (pc := 90) dX11_buys_90 rfl (i := 2) rfl ?_
        exact ev_iret (pc := 91) rfl dX11_buys_91 hf
      · have hf := hf.2 c7
        refine ev_bipush (pc := 44) (v := (-2)) dX11_buys_44 kb_m2 ?_
        exact ev_iret (pc := 46) rfl dX11_buys_46 hf
  · have hf := hf.2 c3
    refine ev_iconst (pc := 11) (v := (-1)) dX11_buys_11 kc_m1 ?_
    exact ev_iret (pc := 12) rfl dX11_buys_12 hf
def f_X4_recalls (σ : St) (post : St → Prop) : Prop := (0 < (σ.1 39 4) → (∀ σ2 : St, σ2 = (st_up σ 39 4 ((σ.1 39 4) - 1)) → ((¬ ((((st_up σ 39 4 ((σ.1 39 4) - 1)).1 39 4) * 14) : Int32) < 0 ∧ ¬ (0 : Int32) < 0 ∧ ¬ (6 : Int32) < 0 ∧ ((((st_up σ 39 4 ((σ.1 39 4) - 1)).1 39 4) * 14) : Int32).toNatClampNeg + (6 : Int32).toNatClampNeg ≤ 140 ∧ (0 : Int32).toNatClampNeg + (6 : Int32).toNatClampNeg ≤ 6) ∧ (∀ σ4 : St, σ4 = (st_row σ2 40 (va_cpy (σ2.1 42) (σ2.1 40) ((((st_up σ 39 4 ((σ.1 39 4) - 1)).1 39 4) * 14).toNatClampNeg) 0 6)) → ((¬ (((((st_up σ 39 4 ((σ.1 39 4) - 1)).1 39 4) * 14) + 6) : Int32) < 0 ∧ ¬ (0 : Int32) < 0 ∧ ¬ (6 : Int32) < 0 ∧ (((((st_up σ 39 4 ((σ.1 39 4) - 1)).1 39 4) * 14) + 6) : Int32).toNatClampNeg + (6 : Int32).toNatClampNeg ≤ 140 ∧ (0 : Int32).toNatClampNeg + (6 : Int32).toNatClampNeg ≤ 6) ∧ (vp_in (((((st_up σ 39 4 ((σ.1 39 4) - 1)).1 39 4) * 14) + 14) - 2) 140 ∧ (∀ σ7 : St, σ7 = (st_row σ4 41 (va_cpy (σ4.1 42) (σ4.1 41) (((((st_up σ 39 4 ((σ.1 39 4) - 1)).1 39 4) * 14) + 6).toNatClampNeg) 0 6)) → (vp_in (((((st_up σ 39 4 ((σ.1 39 4) - 1)).1 39 4) * 14) + 14) - 1) 140 ∧ (∀ σ9 : St, σ9 = (st_up σ7 39 2 ((st_row σ4 41 (va_cpy (σ4.1 42) (σ4.1 41) (((((st_up σ 39 4 ((σ.1 39 4) - 1)).1 39 4) * 14) + 6).toNatClampNeg) 0 6)).1 42 ((((((st_up σ 39 4 ((σ.1 39 4) - 1)).1 39 4) * 14) + 14) - 2).toNatClampNeg))) → (post (st_up σ9 39 3 ((st_up σ7 39 2 ((st_row σ4 41 (va_cpy (σ4.1 42) (σ4.1 41) (((((st_up σ 39 4 ((σ.1 39 4) - 1)).1 39 4) * 14) + 6).toNatClampNeg) 0 6)).1 42 ((((((st_up σ 39 4 ((σ.1 39 4) - 1)).1 39 4) * 14) + 14) - 2).toNatClampNeg))).1 42 ((((((st_up σ 39 4 ((σ.1 39 4) - 1)).1 39 4) * 14) + 14) - 1).toNatClampNeg))))))))))))) ∧ (¬ 0 < (σ.1 39 4) → (post σ))
set_option maxRecDepth 100000 in
set_option maxHeartbeats 4000000 in
theorem c_X4_recalls (σ : St) (post : St → Prop) (hf : f_X4_recalls σ post) : Ct SX yX4_recalls cX4_recalls 2 none 1 (EQv SX post) [.ref 39] σ := by
  rw [f_X4_recalls] at hf
  refine ct_of (by decide) rfl (Nat.le_of_ble_eq_true rfl) ?_
  show Ev SX RX4 cX4_recalls 2 none 1 (EQv SX post) 0 [some (.ref 39), none] [] σ
  refine ev_aload_n (pc := 0) dX4_recalls_0 rfl (i := 0) rfl ?_
  refine ev_get (pc := 1) fl_X4_43_4_4 rfl (by decide) rfl rfl dX4_recalls_1 ?_
  refine ev_if_gt (pc := 4) (tgt := 8) dX4_recalls_4 (by decide) (fun c1 => ?_) (fun c1 => ?_)
  · have hf := hf.1 c1
    refine ev_aload_n (pc := 8) dX4_recalls_8 rfl (i := 0) rfl ?_
    refine ev_dup (pc := 9) dX4_recalls_9 rfl ?_
    refine ev_get (pc := 10) fl_X4_43_4_4 rfl (by decide) rfl rfl dX4_recalls_10 ?_
    refine ev_iconst (pc := 13) (v := 1) dX4_recalls_13 kc_1 ?_
    refine ev_isub (pc := 14) dX4_recalls_14 ?_
    refine ev_puti (pc := 15) fp_X4_43_4_4 rfl (by decide) rfl rfl rfl dX4_recalls_15 ?_
    refine ev_aload_n (pc := 18) dX4_recalls_18 rfl (i := 0) rfl ?_
    refine ev_get (pc := 19) fl_X4_43_4_4 rfl (by decide) rfl rfl dX4_recalls_19 ?_
    refine ev_bipush (pc := 22) (v := 14) dX4_recalls_22 kb_14 ?_
    refine ev_imul (pc := 24) dX4_recalls_24 ?_
    refine ev_istore_n (pc := 25) (L' := [some (.ref 39), some (.int (((st_up σ 39 4 ((σ.1 39 4) - 1)).1 39 4) * 14))]) dX4_recalls_25 rfl (by decide) rfl rfl ?_
    refine ev_aload_n (pc := 26) dX4_recalls_26 rfl (i := 0) rfl ?_
    refine ev_get (pc := 27) fl_X4_18_4_5 rfl (by decide) rfl rfl dX4_recalls_27 ?_
    refine ev_iload_n (pc := 30) dX4_recalls_30 rfl (i := 1) rfl ?_
    refine ev_aload_n (pc := 31) dX4_recalls_31 rfl (i := 0) rfl ?_
    refine ev_get (pc := 32) fl_X4_9_4_0 rfl (by decide) rfl rfl dX4_recalls_32 ?_
    refine ev_iconst (pc := 35) (v := 0) dX4_recalls_35 kc_0 ?_
    refine ev_bipush (pc := 36) (v := 6) dX4_recalls_36 kb_6 ?_
    refine ev_nm (fun σ2 q2 => ?_)
    have hf := hf σ2 q2
    obtain ⟨h3, hf⟩ := hf
    refine ev_copy (pc := 38) wcp_X4_24 rfl rfl rfl h3 rfl kn_0 kn_6 (by omega) (Nat.le_of_ble_eq_true rfl) dX4_recalls_38 ?_
    refine ev_aload_n (pc := 41) dX4_recalls_41 rfl (i := 0) rfl ?_
    refine ev_get (pc := 42) fl_X4_18_4_5 rfl (by decide) rfl rfl dX4_recalls_42 ?_
    refine ev_iload_n (pc := 45) dX4_recalls_45 rfl (i := 1) rfl ?_
    refine ev_bipush (pc := 46) (v := 6) dX4_recalls_46 kb_6 ?_
    refine ev_iadd (pc := 48) dX4_recalls_48 ?_
    refine ev_aload_n (pc := 49) dX4_recalls_49 rfl (i := 0) rfl ?_
    refine ev_get (pc := 50) fl_X4_15_4_1 rfl (by decide) rfl rfl dX4_recalls_50 ?_
    refine ev_iconst (pc := 53) (v := 0) dX4_recalls_53 kc_0 ?_
    refine ev_bipush (pc := 54) (v := 6) dX4_recalls_54 kb_6 ?_
    refine ev_nm (fun σ4 q4 => ?_)
    have hf := hf σ4 q4
    obtain ⟨h5, hf⟩ := hf
    refine ev_copy (pc := 56) wcp_X4_24 rfl rfl rfl h5 rfl kn_0 kn_6 (by omega) (Nat.le_of_ble_eq_true rfl) dX4_recalls_56 ?_
    refine ev_aload_n (pc := 59) dX4_recalls_59 rfl (i := 0) rfl ?_
    refine ev_aload_n (pc := 60) dX4_recalls_60 rfl (i := 0) rfl ?_
    refine ev_get (pc := 61) fl_X4_18_4_5 rfl (by decide) rfl rfl dX4_recalls_61 ?_
    refine ev_iload_n (pc := 64) dX4_recalls_64 rfl (i := 1) rfl ?_
    refine ev_bipush (pc := 65) (v := 14) dX4_recalls_65 kb_14 ?_
    refine ev_iadd (pc := 67) dX4_recalls_67 ?_
    refine ev_iconst (pc := 68) (v := 2) dX4_recalls_68 kc_2 ?_
    refine ev_isub (pc := 69) dX4_recalls_69 ?_
    obtain ⟨h6, hf⟩ := hf
    refine ev_iald (pc := 70) rfl rfl h6 rfl dX4_recalls_70 ?_
    refine ev_nm (fun σ7 q7 => ?_)
    have hf := hf σ7 q7
    refine ev_puti (pc := 71) fp_X4_36_4_2 rfl (by decide) rfl rfl rfl dX4_recalls_71 ?_
    refine ev_aload_n (pc := 74) dX4_recalls_74 rfl (i := 0) rfl ?_
    refine ev_aload_n (pc := 75) dX4_recalls_75 rfl (i := 0) rfl ?_
    refine ev_get (pc := 76) fl_X4_18_4_5 rfl (by decide) rfl rfl dX4_recalls_76 ?_
    refine ev_iload_n (pc := 79) dX4_recalls_79 rfl (i := 1) rfl ?_
    refine ev_bipush (pc := 80) (v := 14) dX4_recalls_80 kb_14 ?_
    refine ev_iadd (pc := 82) dX4_recalls_82 ?_
    refine ev_iconst (pc := 83) (v := 1) dX4_recalls_83 kc_1 ?_
    refine ev_isub (pc := 84) dX4_recalls_84 ?_
    obtain ⟨h8, hf⟩ := hf
    refine ev_iald (pc := 85) rfl rfl h8 rfl dX4_recalls_85 ?_
    refine ev_nm (fun σ9 q9 => ?_)
    have hf := hf σ9 q9
    refine ev_puti (pc := 86) fp_X4_40_4_3 rfl (by decide) rfl rfl rfl dX4_recalls_86 ?_
    exact ev_vret (pc := 89) rfl dX4_recalls_89 hf
  · have hf := hf.2 c1
    exact ev_vret (pc := 7) rfl dX4_recalls_7 hf
def f_X11_undo (σ : St) (post : Int32 → St → Prop) : Prop := (¬ (σ.1 39 4) = 0 → (f_X4_recalls σ (fun σ2 => post (σ2.1 39 4) σ2))) ∧ ((σ.1 39 4) = 0 → (post (-2) σ))
set_option maxRecDepth 100000 in
set_option maxHeartbeats 4000000 in
theorem c_X11_undo (σ : St) (post : Int32 → St → Prop) (hf : f_X11_undo σ post) : Ct SX yX11_undo cX11_undo 1 (some .int) 2 (EQi SX post) [.ref 0] σ := by
  rw [f_X11_undo] at hf
  refine ct_of (by decide) rfl (Nat.le_of_ble_eq_true rfl) ?_
  show Ev SX RX11 cX11_undo 1 (some .int) 2 (EQi SX post) 0 [some (.ref 0)] [] σ
  refine ev_aload_n (pc := 0) dX11_undo_0 rfl (i := 0) rfl ?_
  refine ev_get (pc := 1) fl_X11_29_11_3 rfl (by decide) rfl rfl dX11_undo_1 ?_
  refine ev_get (pc := 4) fl_X11_179_4_4 rfl (by decide) rfl rfl dX11_undo_4 ?_
  refine ev_if_ne (pc := 7) (tgt := 13) dX11_undo_7 (by decide) (fun c1 => ?_) (fun c1 => ?_)
  · have hf := hf.1 c1
    refine ev_aload_n (pc := 13) dX11_undo_13 rfl (i := 0) rfl ?_
    refine ev_get (pc := 14) fl_X11_29_11_3 rfl (by decide) rfl rfl dX11_undo_14 ?_
    refine ev_callv (pc := 17) (stk := []) (ce_V (c_X4_recalls σ _ hf) wv_X11_182_X4_recalls rfl (by decide) rfl (by decide) rfl (Nat.le_of_ble_eq_true rfl) rfl dX11_undo_17) (fun σ2 hf => ?_)
    refine ev_aload_n (pc := 20) dX11_undo_20 rfl (i := 0) rfl ?_
    refine ev_get (pc := 21) fl_X11_29_11_3 rfl (by decide) rfl rfl dX11_undo_21 ?_
    refine ev_get (pc := 24) fl_X11_179_4_4 rfl (by decide) rfl rfl dX11_undo_24 ?_
    exact ev_iret (pc := 27) rfl dX11_undo_27 hf
  · have hf := hf.2 c1
    refine ev_bipush (pc := 10) (v := (-2)) dX11_undo_10 kb_m2 ?_
    exact ev_iret (pc := 12) rfl dX11_undo_12 hf
def f_X11_sumOf_L4 (r1 : Nat) (n1 : Nat) (post : Int32 → St → Prop) : Nat → Int32 → Int32 → St → Prop
  | 0, _, _, _ => False
  | n + 1, v2, v3, σ => ((σ.1 21 0) ≤ v3 → (post v2 σ)) ∧ (¬ (σ.1 21 0) ≤ v3 → (vp_in v3 n1 ∧ ((f_X11_sumOf_L4 r1 n1 post n) (v2 + (σ.1 r1 v3.toNatClampNeg)) (v3 + 1) σ)))
set_option maxRecDepth 100000 in
set_option maxHeartbeats 4000000 in
theorem p_X11_sumOf_L4 (r1 : Nat) (n1 : Nat) (hr1 : SX.1[r1]? = some (20, n1, [])) (post : Int32 → St → Prop) : ∀ (n : Nat) (v2 : Int32) (v3 : Int32) (σ : St), f_X11_sumOf_L4 r1 n1 post n v2 v3 σ → Ev SX RX11 cX11_sumOf 4 (some .int) 0 (EQi SX post) 4 [some (.ref 0), some (.ref r1), some (.int v2), some (.int v3)] [] σ := by
  intro n
  induction n with
  | zero =>
    intro v2 v3 σ hf
    exact hf.elim
  | succ n hagain4 =>
    intro v2 v3 σ hf
    rw [f_X11_sumOf_L4] at hf
    refine ev_iload_n (pc := 4) dX11_sumOf_4 rfl (i := 3) rfl ?_
    refine ev_aload_n (pc := 5) dX11_sumOf_5 rfl (i := 0) rfl ?_
    refine ev_get (pc := 6) fl_X11_23_11_2 rfl (by decide) rfl rfl dX11_sumOf_6 ?_
    refine ev_get (pc := 9) fl_X11_158_0_0 rfl (by decide) rfl rfl dX11_sumOf_9 ?_
    refine ev_icmp_ge (pc := 12) (tgt := 27) dX11_sumOf_12 (by decide) (fun c1 => ?_) (fun c1 => ?_)
    · have hf := hf.1 c1
      refine ev_iload_n (pc := 27) dX11_sumOf_27 rfl (i := 2) rfl ?_
      exact ev_iret (pc := 28) rfl dX11_sumOf_28 hf
    · have hf := hf.2 c1
      refine ev_iload_n (pc := 15) dX11_sumOf_15 rfl (i := 2) rfl ?_
      refine ev_aload_n (pc := 16) dX11_sumOf_16 rfl (i := 1) rfl ?_
      refine ev_iload_n (pc := 17) dX11_sumOf_17 rfl (i := 3) rfl ?_
      obtain ⟨h2, hf⟩ := hf
      refine ev_iald (pc := 18) hr1 rfl h2 rfl dX11_sumOf_18 ?_
      refine ev_iadd (pc := 19) dX11_sumOf_19 ?_
      refine ev_istore_n (pc := 20) (L' := [some (.ref 0), some (.ref r1), some (.int (v2 + (σ.1 r1 v3.toNatClampNeg))), some (.int v3)]) dX11_sumOf_20 rfl (by decide) rfl rfl ?_
      refine ev_iinc (pc := 21) (v := v3 + 1) (L' := [some (.ref 0), some (.ref r1), some (.int (v2 + (σ.1 r1 v3.toNatClampNeg))), some (.int (v3 + 1))]) dX11_sumOf_21 rfl (by rw [kc_1]) (by decide) rfl rfl ?_
      refine ev_goto (pc := 24) (tgt := 4) dX11_sumOf_24 (by decide) ?_
      exact hagain4 _ _ _ hf
def f_X11_sumOf (r1 : Nat) (n1 : Nat) (σ : St) (post : Int32 → St → Prop) : Prop := ∃ n3 : Nat, f_X11_sumOf_L4 r1 n1 post n3 0 0 σ
set_option maxRecDepth 100000 in
set_option maxHeartbeats 4000000 in
theorem c_X11_sumOf (r1 : Nat) (n1 : Nat) (hr1 : SX.1[r1]? = some (20, n1, [])) (σ : St) (post : Int32 → St → Prop) (hf : f_X11_sumOf r1 n1 σ post) : Ct SX yX11_sumOf cX11_sumOf 4 (some .int) 0 (EQi SX post) [.ref 0, .ref r1] σ := by
  rw [f_X11_sumOf] at hf
  refine ct_of (by decide) rfl (Nat.le_of_ble_eq_true rfl) ?_
  show Ev SX RX11 cX11_sumOf 4 (some .int) 0 (EQi SX post) 0 [some (.ref 0), some (.ref r1), none, none] [] σ
  refine ev_iconst (pc := 0) (v := 0) dX11_sumOf_0 kc_0 ?_
  refine ev_istore_n (pc := 1) (L' := [some (.ref 0), some (.ref r1), some (.int 0), none]) dX11_sumOf_1 rfl (by decide) rfl rfl ?_
  refine ev_iconst (pc := 2) (v := 0) dX11_sumOf_2 kc_0 ?_
  refine ev_istore_n (pc := 3) (L' := [some (.ref 0), some (.ref r1), some (.int 0), some (.int 0)]) dX11_sumOf_3 rfl (by decide) rfl rfl ?_
  obtain ⟨n3, hf⟩ := hf
  exact p_X11_sumOf_L4 r1 n1 hr1 post n3 _ _ _ hf
def f_X11_payForAll_L4 (post : Int32 → St → Prop) : Nat → Int32 → Int32 → St → Prop
  | 0, _, _, _ => False
  | n + 1, v1, v2, σ => ((σ.1 21 0) ≤ v2 → (post v1 σ)) ∧ (¬ (σ.1 21 0) ≤ v2 → (vp_in v2 6 ∧ (∀ y3 : Int32, y3 = (if v1 < (((σ.1 40 v2.toNatClampNeg) / 2) + 1) then (((σ.1 40 v2.toNatClampNeg) / 2) + 1) else v1) → ((f_X11_payForAll_L4 post n) y3 (v2 + 1) σ))))
set_option maxRecDepth 100000 in
set_option maxHeartbeats 4000000 in
theorem p_X11_payForAll_L4 (post : Int32 → St → Prop) : ∀ (n : Nat) (v1 : Int32) (v2 : Int32) (σ : St), f_X11_payForAll_L4 post n v1 v2 σ → Ev SX RX11 cX11_payForAll 3 (some .int) 1 (EQi SX post) 4 [some (.ref 0), some (.int v1), some (.int v2)] [] σ := by
  intro n
  induction n with
  | zero =>
    intro v1 v2 σ hf
    exact hf.elim
  | succ n hagain4 =>
    intro v1 v2 σ hf
    rw [f_X11_payForAll_L4] at hf
    refine ev_iload_n (pc := 4) dX11_payForAll_4 rfl (i := 2) rfl ?_
    refine ev_aload_n (pc := 5) dX11_payForAll_5 rfl (i := 0) rfl ?_
    refine ev_get (pc := 6) fl_X11_23_11_2 rfl (by decide) rfl rfl dX11_payForAll_6 ?_
    refine ev_get (pc := 9) fl_X11_158_0_0 rfl (by decide) rfl rfl dX11_payForAll_9 ?_
    refine ev_icmp_ge (pc := 12) (tgt := 39) dX11_payForAll_12 (by decide) (fun c1 => ?_) (fun c1 => ?_)
    · have hf := hf.1 c1
      refine ev_iload_n (pc := 39) dX11_payForAll_39 rfl (i := 1) rfl ?_
      exact ev_iret (pc := 40) rfl dX11_payForAll_40 hf
    · have hf := hf.2 c1
      refine ev_iload_n (pc := 15) dX11_payForAll_15 rfl (i := 1) rfl ?_
      refine ev_aload_n (pc := 16) dX11_payForAll_16 rfl (i := 0) rfl ?_
      refine ev_get (pc := 17) fl_X11_29_11_3 rfl (by decide) rfl rfl dX11_payForAll_17 ?_
      refine ev_get (pc := 20) fl_X11_131_4_0 rfl (by decide) rfl rfl dX11_payForAll_20 ?_
      refine ev_iload_n (pc := 23) dX11_payForAll_23 rfl (i := 2) rfl ?_
      obtain ⟨h2, hf⟩ := hf
      refine ev_iald (pc := 24) rfl rfl h2 rfl dX11_payForAll_24 ?_
      refine ev_iconst (pc := 25) (v := 2) dX11_payForAll_25 kc_2 ?_
      refine ev_idiv (pc := 26) dX11_payForAll_26 (by decide) ?_
      refine ev_iconst (pc := 27) (v := 1) dX11_payForAll_27 kc_1 ?_
      refine ev_iadd (pc := 28) dX11_payForAll_28 ?_
      refine ev_max (pc := 29) wmax_X11_193 (by omega) (Nat.le_of_ble_eq_true rfl) dX11_payForAll_29 ?_
      refine ev_nmi (fun y3 qy4 => ?_)
      have hf := hf y3 qy4
      refine ev_istore_n (pc := 32) (L' := [some (.ref 0), some (.int y3), some (.int v2)]) dX11_payForAll_32 rfl (by decide) rfl rfl ?_
      refine ev_iinc (pc := 33) (v := v2 + 1) (L' := [some (.ref 0), some (.int y3), some (.int (v2 + 1))]) dX11_payForAll_33 rfl (by rw [kc_1]) (by decide) rfl rfl ?_
      refine ev_goto (pc := 36) (tgt := 4) dX11_payForAll_36 (by decide) ?_
      exact hagain4 _ _ _ hf
def f_X11_payForAll (σ : St) (post : Int32 → St → Prop) : Prop := ∃ n5 : Nat, f_X11_payForAll_L4 post n5 0 0 σ
set_option maxRecDepth 100000 in
set_option maxHeartbeats 4000000 in
theorem c_X11_payForAll (σ : St) (post : Int32 → St → Prop) (hf : f_X11_payForAll σ post) : Ct SX yX11_payForAll cX11_payForAll 3 (some .int) 1 (EQi SX post) [.ref 0] σ := by
  rw [f_X11_payForAll] at hf
  refine ct_of (by decide) rfl (Nat.le_of_ble_eq_true rfl) ?_
  show Ev SX RX11 cX11_payForAll 3 (some .int) 1 (EQi SX post) 0 [some (.ref 0), none, none] [] σ
  refine ev_iconst (pc := 0) (v := 0) dX11_payForAll_0 kc_0 ?_
  refine ev_istore_n (pc := 1) (L' := [some (.ref 0), some (.int 0), none]) dX11_payForAll_1 rfl (by decide) rfl rfl ?_
  refine ev_iconst (pc := 2) (v := 0) dX11_payForAll_2 kc_0 ?_
  refine ev_istore_n (pc := 3) (L' := [some (.ref 0), some (.int 0), some (.int 0)]) dX11_payForAll_3 rfl (by decide) rfl rfl ?_
  obtain ⟨n5, hf⟩ := hf
  exact p_X11_payForAll_L4 post n5 _ _ _ hf
def f_X11_now (a1 : Int32) (σ : St) (post : Int32 → St → Prop) : Prop := (a1 = 0 → (post (σ.1 39 3) σ)) ∧ (a1 = 1 → (post (σ.1 39 2) σ)) ∧ (a1 = 2 → (f_X11_sumOf 40 6 σ (fun x5 σ4 => post x5 σ4))) ∧ (a1 = 3 → (f_X11_sumOf 41 6 σ (fun x8 σ7 => post x8 σ7))) ∧ (a1 = 4 → (f_X11_payForAll σ (fun x11 σ10 => post x11 σ10))) ∧ (¬ a1 = 0 → ¬ a1 = 1 → ¬ a1 = 2 → ¬ a1 = 3 → ¬ a1 = 4 → (post (-1) σ))
set_option maxRecDepth 100000 in
set_option maxHeartbeats 4000000 in
theorem c_X11_now (a1 : Int32) (σ : St) (post : Int32 → St → Prop) (hf : f_X11_now a1 σ post) : Ct SX yX11_now cX11_now 2 (some .int) 2 (EQi SX post) [.ref 0, .int a1] σ := by
  rw [f_X11_now] at hf
  refine ct_of (by decide) rfl (Nat.le_of_ble_eq_true rfl) ?_
  show Ev SX RX11 cX11_now 2 (some .int) 2 (EQi SX post) 0 [some (.ref 0), some (.int a1)] [] σ
  refine ev_iload_n (pc := 0) dX11_now_0 rfl (i := 1) rfl ?_
  by_cases e1 : a1 = 0
  · have hf := hf.1 e1
    refine ev_tabIn (pc := 1) (off := 35) (tgt := 36) dX11_now_1 (by rw [e1]; decide) (by rw [e1]; decide) (by rw [e1]; decide) (by decide) ?_
    refine ev_aload_n (pc := 36) dX11_now_36 rfl (i := 0) rfl ?_
    refine ev_get (pc := 37) fl_X11_29_11_3 rfl (by decide) rfl rfl dX11_now_37 ?_
    refine ev_get (pc := 40) fl_X11_152_4_3 rfl (by decide) rfl rfl dX11_now_40 ?_
    exact ev_iret (pc := 43) rfl dX11_now_43 hf
  by_cases e2 : a1 = 1
  · have hf := hf.2.1 e2
    refine ev_tabIn (pc := 1) (off := 43) (tgt := 44) dX11_now_1 (by rw [e2]; decide) (by rw [e2]; decide) (by rw [e2]; decide) (by decide) ?_
    refine ev_aload_n (pc := 44) dX11_now_44 rfl (i := 0) rfl ?_
    refine ev_get (pc := 45) fl_X11_29_11_3 rfl (by decide) rfl rfl dX11_now_45 ?_
    refine ev_get (pc := 48) fl_X11_170_4_2 rfl (by decide) rfl rfl dX11_now_48 ?_
    exact ev_iret (pc := 51) rfl dX11_now_51 hf
  by_cases e3 : a1 = 2
  · have hf := hf.2.2.1 e3
    refine ev_tabIn (pc := 1) (off := 51) (tgt := 52) dX11_now_1 (by rw [e3]; decide) (by rw [e3]; decide) (by rw [e3]; decide) (by decide) ?_
    refine ev_aload_n (pc := 52) dX11_now_52 rfl (i := 0) rfl ?_
    refine ev_aload_n (pc := 53) dX11_now_53 rfl (i := 0) rfl ?_
    refine ev_get (pc := 54) fl_X11_29_11_3 rfl (by decide) rfl rfl dX11_now_54 ?_
    refine ev_get (pc := 57) fl_X11_131_4_0 rfl (by decide) rfl rfl dX11_now_57 ?_
    refine ev_calli (pc := 60) (stk := []) (ce_V (c_X11_sumOf 40 6 rfl σ _ hf) wv_X11_185_X11_sumOf rfl (by decide) rfl (by decide) rfl (Nat.le_of_ble_eq_true rfl) rfl dX11_now_60) (fun x5 σ4 hf => ?_)
    exact ev_iret (pc := 63) rfl dX11_now_63 hf
  by_cases e6 : a1 = 3
  · have hf := hf.2.2.2.1 e6
    refine ev_tabIn (pc := 1) (off := 63) (tgt := 64) dX11_now_1 (by rw [e6]; decide) (by rw [e6]; decide) (by rw [e6]; decide) (by decide) ?_
    refine ev_aload_n (pc := 64) dX11_now_64 rfl (i := 0) rfl ?_
    refine ev_aload_n (pc := 65) dX11_now_65 rfl (i := 0) rfl ?_
    refine ev_get (pc := 66) fl_X11_29_11_3 rfl (by decide) rfl rfl dX11_now_66 ?_
    refine ev_get (pc := 69) fl_X11_137_4_1 rfl (by decide) rfl rfl dX11_now_69 ?_
    refine ev_calli (pc := 72) (stk := []) (ce_V (c_X11_sumOf 41 6 rfl σ _ hf) wv_X11_185_X11_sumOf rfl (by decide) rfl (by decide) rfl (Nat.le_of_ble_eq_true rfl) rfl dX11_now_72) (fun x8 σ7 hf => ?_)
    exact ev_iret (pc := 75) rfl dX11_now_75 hf
  by_cases e9 : a1 = 4
  · have hf := hf.2.2.2.2.1 e9
    refine ev_tabIn (pc := 1) (off := 75) (tgt := 76) dX11_now_1 (by rw [e9]; decide) (by rw [e9]; decide) (by rw [e9]; decide) (by decide) ?_
    refine ev_aload_n (pc := 76) dX11_now_76 rfl (i := 0) rfl ?_
    refine ev_calli (pc := 77) (stk := []) (ce_V (c_X11_payForAll σ _ hf) wv_X11_189_X11_payForAll rfl (by decide) rfl (by decide) rfl (Nat.le_of_ble_eq_true rfl) rfl dX11_now_77) (fun x11 σ10 hf => ?_)
    exact ev_iret (pc := 80) rfl dX11_now_80 hf
  have hf := hf.2.2.2.2.2 e1 e2 e3 e6 e9
  refine ev_tabOut (pc := 1) (tgt := 81) dX11_now_1 (tab_out 4 (by decide) (fun k hk => by
    match k, hk with
    | 0, _ => exact e1
    | 1, _ => exact e2
    | 2, _ => exact e3
    | 3, _ => exact e6
    | 4, _ => exact e9)) (by decide) ?_
  refine ev_iconst (pc := 81) (v := (-1)) dX11_now_81 kc_m1 ?_
  exact ev_iret (pc := 82) rfl dX11_now_82 hf
def f_X0_brings_L5 (r1 : Nat) (n1 : Nat) (a2 : Int32) (post : Int32 → St → Prop) : Nat → Int32 → Int32 → St → Prop
  | 0, _, _, _ => False
  | n + 1, v3, v4, σ => ((σ.1 21 0) ≤ v4 → (post v3 σ)) ∧ (¬ (σ.1 21 0) ≤ v4 → (vp_in v4 n1 ∧ (f_X0_coinsOf (σ.1 r1 v4.toNatClampNeg) v4 a2 σ (fun x4 σ3 => (f_X0_brings_L5 r1 n1 a2 post n) (v3 + x4) (v4 + 1) σ3))))
set_option maxRecDepth 100000 in
set_option maxHeartbeats 4000000 in
theorem p_X0_brings_L5 (r1 : Nat) (n1 : Nat) (a2 : Int32) (hr1 : SX.1[r1]? = some (20, n1, [])) (post : Int32 → St → Prop) : ∀ (n : Nat) (v3 : Int32) (v4 : Int32) (σ : St), f_X0_brings_L5 r1 n1 a2 post n v3 v4 σ → Ev SX RX0 cX0_brings 5 (some .int) 2 (EQi SX post) 5 [some (.ref 21), some (.ref r1), some (.int a2), some (.int v3), some (.int v4)] [] σ := by
  intro n
  induction n with
  | zero =>
    intro v3 v4 σ hf
    exact hf.elim
  | succ n hagain5 =>
    intro v3 v4 σ hf
    rw [f_X0_brings_L5] at hf
    refine ev_iload (pc := 5) dX0_brings_5 rfl ?_
    refine ev_aload_n (pc := 7) dX0_brings_7 rfl (i := 0) rfl ?_
    refine ev_get (pc := 8) fl_X0_36_0_0 rfl (by decide) rfl rfl dX0_brings_8 ?_
    refine ev_icmp_ge (pc := 11) (tgt := 34) dX0_brings_11 (by decide) (fun c1 => ?_) (fun c1 => ?_)
    · have hf := hf.1 c1
      refine ev_iload_n (pc := 34) dX0_brings_34 rfl (i := 3) rfl ?_
      exact ev_iret (pc := 35) rfl dX0_brings_35 hf
    · have hf := hf.2 c1
      refine ev_iload_n (pc := 14) dX0_brings_14 rfl (i := 3) rfl ?_
      refine ev_aload_n (pc := 15) dX0_brings_15 rfl (i := 0) rfl ?_
      refine ev_aload_n (pc := 16) dX0_brings_16 rfl (i := 1) rfl ?_
      refine ev_iload (pc := 17) dX0_brings_17 rfl ?_
      obtain ⟨h2, hf⟩ := hf
      refine ev_iald (pc := 19) hr1 rfl h2 rfl dX0_brings_19 ?_
      refine ev_iload (pc := 20) dX0_brings_20 rfl ?_
      refine ev_iload_n (pc := 22) dX0_brings_22 rfl (i := 2) rfl ?_
      refine ev_calli (pc := 23) (stk := [.int v3]) (ce_V (c_X0_coinsOf (σ.1 r1 v4.toNatClampNeg) v4 a2 σ _ hf) wv_X0_81_X0_coinsOf rfl (by decide) rfl (by decide) rfl (Nat.le_of_ble_eq_true rfl) rfl dX0_brings_23) (fun x4 σ3 hf => ?_)
      refine ev_iadd (pc := 26) dX0_brings_26 ?_
      refine ev_istore_n (pc := 27) (L' := [some (.ref 21), some (.ref r1), some (.int a2), some (.int (v3 + x4)), some (.int v4)]) dX0_brings_27 rfl (by decide) rfl rfl ?_
      refine ev_iinc (pc := 28) (v := v4 + 1) (L' := [some (.ref 21), some (.ref r1), some (.int a2), some (.int (v3 + x4)), some (.int (v4 + 1))]) dX0_brings_28 rfl (by rw [kc_1]) (by decide) rfl rfl ?_
      refine ev_goto (pc := 31) (tgt := 5) dX0_brings_31 (by decide) ?_
      exact hagain5 _ _ _ hf
def f_X0_brings (r1 : Nat) (n1 : Nat) (a2 : Int32) (σ : St) (post : Int32 → St → Prop) : Prop := ∃ n5 : Nat, f_X0_brings_L5 r1 n1 a2 post n5 0 0 σ
set_option maxRecDepth 100000 in
set_option maxHeartbeats 4000000 in
theorem c_X0_brings (r1 : Nat) (n1 : Nat) (a2 : Int32) (hr1 : SX.1[r1]? = some (20, n1, [])) (σ : St) (post : Int32 → St → Prop) (hf : f_X0_brings r1 n1 a2 σ post) : Ct SX yX0_brings cX0_brings 5 (some .int) 2 (EQi SX post) [.ref 21, .ref r1, .int a2] σ := by
  rw [f_X0_brings] at hf
  refine ct_of (by decide) rfl (Nat.le_of_ble_eq_true rfl) ?_
  show Ev SX RX0 cX0_brings 5 (some .int) 2 (EQi SX post) 0 [some (.ref 21), some (.ref r1), some (.int a2), none, none] [] σ
  refine ev_iconst (pc := 0) (v := 0) dX0_brings_0 kc_0 ?_
  refine ev_istore_n (pc := 1) (L' := [some (.ref 21), some (.ref r1), some (.int a2), some (.int 0), none]) dX0_brings_1 rfl (by decide) rfl rfl ?_
  refine ev_iconst (pc := 2) (v := 0) dX0_brings_2 kc_0 ?_
  refine ev_istore (pc := 3) (L' := [some (.ref 21), some (.ref r1), some (.int a2), some (.int 0), some (.int 0)]) dX0_brings_3 (by decide) rfl rfl ?_
  obtain ⟨n5, hf⟩ := hf
  exact p_X0_brings_L5 r1 n1 a2 hr1 post n5 _ _ _ hf
def f_X11_yieldOf (a1 : Int32) (σ : St) (post : Int32 → St → Prop) : Prop := f_X0_isShift a1 σ (fun x2 σ1 => (x2 = 0 → (post (-1) σ1)) ∧ (¬ x2 = 0 → (f_X0_brings 40 6 a1 σ1 (fun x5 σ4 => post x5 σ4))))
set_option maxRecDepth 100000 in
set_option maxHeartbeats 4000000 in
theorem c_X11_yieldOf (a1 : Int32) (σ : St) (post : Int32 → St → Prop) (hf : f_X11_yieldOf a1 σ post) : Ct SX yX11_yieldOf cX11_yieldOf 2 (some .int) 3 (EQi SX post) [.ref 0, .int a1] σ := by
  rw [f_X11_yieldOf] at hf
  refine ct_of (by decide) rfl (Nat.le_of_ble_eq_true rfl) ?_
  show Ev SX RX11 cX11_yieldOf 2 (some .int) 3 (EQi SX post) 0 [some (.ref 0), some (.int a1)] [] σ
  refine ev_aload_n (pc := 0) dX11_yieldOf_0 rfl (i := 0) rfl ?_
  refine ev_get (pc := 1) fl_X11_23_11_2 rfl (by decide) rfl rfl dX11_yieldOf_1 ?_
  refine ev_iload_n (pc := 4) dX11_yieldOf_4 rfl (i := 1) rfl ?_
  refine ev_calli (pc := 5) (stk := []) (ce_V (c_X0_isShift a1 σ _ hf) wv_X11_149_X0_isShift rfl (by decide) rfl (by decide) rfl (Nat.le_of_ble_eq_true rfl) rfl dX11_yieldOf_5) (fun x2 σ1 hf => ?_)
  refine ev_if_eq (pc := 8) (tgt := 29) dX11_yieldOf_8 (by decide) (fun c3 => ?_) (fun c3 => ?_)
  · have hf := hf.1 c3
    refine ev_iconst (pc := 29) (v := (-1)) dX11_yieldOf_29 kc_m1 ?_
    exact ev_iret (pc := 30) rfl dX11_yieldOf_30 hf
  · have hf := hf.2 c3
    refine ev_aload_n (pc := 11) dX11_yieldOf_11 rfl (i := 0) rfl ?_
    refine ev_get (pc := 12) fl_X11_23_11_2 rfl (by decide) rfl rfl dX11_yieldOf_12 ?_
    refine ev_aload_n (pc := 15) dX11_yieldOf_15 rfl (i := 0) rfl ?_
    refine ev_get (pc := 16) fl_X11_29_11_3 rfl (by decide) rfl rfl dX11_yieldOf_16 ?_
    refine ev_get (pc := 19) fl_X11_131_4_0 rfl (by decide) rfl rfl dX11_yieldOf_19 ?_
    refine ev_iload_n (pc := 22) dX11_yieldOf_22 rfl (i := 1) rfl ?_
    refine ev_calli (pc := 23) (stk := []) (ce_V (c_X0_brings 40 6 a1 rfl σ1 _ hf) wv_X11_196_X0_brings rfl (by decide) rfl (by decide) rfl (Nat.le_of_ble_eq_true rfl) rfl dX11_yieldOf_23) (fun x5 σ4 hf => ?_)
    refine ev_goto (pc := 26) (tgt := 30) dX11_yieldOf_26 (by decide) ?_
    exact ev_iret (pc := 30) rfl dX11_yieldOf_30 hf
def f_X11_best_J64_18 (a1 : Int32) (again18 : Int32 → Int32 → Int32 → St → Prop) (k84 : Int32 → Int32 → St → Prop) (post : Int32 → St → Prop) (v2 : Int32) (v3 : Int32) (v4 : Int32) (s0 : Int32) (σ : St) : Prop := (s0 ≤ v3 → (again18 v2 v3 (v4 + 1) σ)) ∧ (¬ s0 ≤ v3 → (again18 v4 s0 (v4 + 1) σ))
set_option maxRecDepth 100000 in
set_option maxHeartbeats 4000000 in
theorem p_X11_best_J64_18 (a1 : Int32) (again18 : Int32 → Int32 → Int32 → St → Prop) (k84 : Int32 → Int32 → St → Prop) (post : Int32 → St → Prop) (hagain18 : ∀ (v2 : Int32) (v3 : Int32) (v4 : Int32) (τ : St), again18 v2 v3 v4 τ → Ev SX RX11 cX11_best 6 (some .int) 3 (EQi SX post) 18 [some (.ref 0), some (.int a1), some (.int v2), some (.int v3), some (.int v4), none] [] τ) (hk84 : ∀ (v2 : Int32) (v3 : Int32) (τ : St), k84 v2 v3 τ → Ev SX RX11 cX11_best 6 (some .int) 3 (EQi SX post) 84 [some (.ref 0), some (.int a1), some (.int v2), some (.int v3), none, none] [] τ) (v2 : Int32) (v3 : Int32) (v4 : Int32) (s0 : Int32) (σ : St) (hf : f_X11_best_J64_18 a1 again18 k84 post v2 v3 v4 s0 σ) : Ev SX RX11 cX11_best 6 (some .int) 3 (EQi SX post) 64 [some (.ref 0), some (.int a1), some (.int v2), some (.int v3), some (.int v4), none] [.int s0] σ := by
  rw [f_X11_best_J64_18] at hf
  refine ev_istore (pc := 64) (L' := [some (.ref 0), some (.int a1), some (.int v2), some (.int v3), some (.int v4), some (.int s0)]) dX11_best_64 (by decide) rfl rfl ?_
  refine ev_iload (pc := 66) dX11_best_66 rfl ?_
  refine ev_iload_n (pc := 68) dX11_best_68 rfl (i := 3) rfl ?_
  refine ev_icmp_le (pc := 69) (tgt := 78) dX11_best_69 (by decide) (fun c7 => ?_) (fun c7 => ?_)
  · have hf := hf.1 c7
    refine ev_iinc (pc := 78) (v := v4 + 1) (L' := [some (.ref 0), some (.int a1), some (.int v2), some (.int v3), some (.int (v4 + 1)), some (.int s0)]) dX11_best_78 rfl (by rw [kc_1]) (by decide) rfl rfl ?_
    refine ev_goto (pc := 81) (tgt := 18) dX11_best_81 (by decide) ?_
    refine ev_mask [true, true, true, true, true, false] (L' := [some (.ref 0), some (.int a1), some (.int v2), some (.int v3), some (.int (v4 + 1)), none]) rfl ?_
    exact hagain18 _ _ _ _ hf
  · have hf := hf.2 c7
    refine ev_iload (pc := 72) dX11_best_72 rfl ?_
    refine ev_istore_n (pc := 74) (L' := [some (.ref 0), some (.int a1), some (.int v2), some (.int s0), some (.int v4), some (.int s0)]) dX11_best_74 rfl (by decide) rfl rfl ?_
    refine ev_iload (pc := 75) dX11_best_75 rfl ?_
    refine ev_istore_n (pc := 77) (L' := [some (.ref 0), some (.int a1), some (.int v4), some (.int s0), some (.int v4), some (.int s0)]) dX11_best_77 rfl (by decide) rfl rfl ?_
    refine ev_iinc (pc := 78) (v := v4 + 1) (L' := [some (.ref 0), some (.int a1), some (.int v4), some (.int s0), some (.int (v4 + 1)), some (.int s0)]) dX11_best_78 rfl (by rw [kc_1]) (by decide) rfl rfl ?_
    refine ev_goto (pc := 81) (tgt := 18) dX11_best_81 (by decide) ?_
    refine ev_mask [true, true, true, true, true, false] (L' := [some (.ref 0), some (.int a1), some (.int v4), some (.int s0), some (.int (v4 + 1)), none]) rfl ?_
    exact hagain18 _ _ _ _ hf
def f_X11_best_L18 (a1 : Int32) (k84 : Int32 → Int32 → St → Prop) (post : Int32 → St → Prop) : Nat → Int32 → Int32 → Int32 → St → Prop
  | 0, _, _, _, _ => False
  | n + 1, v2, v3, v4, σ => ((1 <<< ((σ.1 21 0) &&& 31)) ≤ v4 → (k84 v2 v3 σ)) ∧ (¬ (1 <<< ((σ.1 21 0) &&& 31)) ≤ v4 → (f_X0_isShift v4 σ (fun x5 σ4 => (x5 = 0 → (f_X11_best_J64_18 a1 (f_X11_best_L18 a1 k84 post n) k84 post v2 v3 v4 0 σ4)) ∧ (¬ x5 = 0 → (f_X0_brings 40 6 v4 σ4 (fun x9 σ8 => f_X11_best_J64_18 a1 (f_X11_best_L18 a1 k84 post n) k84 post v2 v3 v4 x9 σ8))))))
set_option maxRecDepth 100000 in
set_option maxHeartbeats 4000000 in
theorem p_X11_best_L18 (a1 : Int32) (k84 : Int32 → Int32 → St → Prop) (post : Int32 → St → Prop) (hk84 : ∀ (v2 : Int32) (v3 : Int32) (τ : St), k84 v2 v3 τ → Ev SX RX11 cX11_best 6 (some .int) 3 (EQi SX post) 84 [some (.ref 0), some (.int a1), some (.int v2), some (.int v3), none, none] [] τ) : ∀ (n : Nat) (v2 : Int32) (v3 : Int32) (v4 : Int32) (σ : St), f_X11_best_L18 a1 k84 post n v2 v3 v4 σ → Ev SX RX11 cX11_best 6 (some .int) 3 (EQi SX post) 18 [some (.ref 0), some (.int a1), some (.int v2), some (.int v3), some (.int v4), none] [] σ := by
  intro n
  induction n with
  | zero =>
    intro v2 v3 v4 σ hf
    exact hf.elim
  | succ n hagain18 =>
    intro v2 v3 v4 σ hf
    rw [f_X11_best_L18] at hf
    refine ev_iload (pc := 18) dX11_best_18 rfl ?_
    refine ev_iconst (pc := 20) (v := 1) dX11_best_20 kc_1 ?_
    refine ev_aload_n (pc := 21) dX11_best_21 rfl (i := 0) rfl ?_
    refine ev_get (pc := 22) fl_X11_23_11_2 rfl (by decide) rfl rfl dX11_best_22 ?_
    refine ev_get (pc := 25) fl_X11_158_0_0 rfl (by decide) rfl rfl dX11_best_25 ?_
    refine ev_ishl (pc := 28) dX11_best_28 ?_
    refine ev_icmp_ge (pc := 29) (tgt := 84) dX11_best_29 (by decide) (fun c3 => ?_) (fun c3 => ?_)
    · have hf := hf.1 c3
      refine ev_mask [true, true, true, true, false, false] (L' := [some (.ref 0), some (.int a1), some (.int v2), some (.int v3), none, none]) rfl ?_
      exact hk84 _ _ _ hf
    · have hf := hf.2 c3
      refine ev_aload_n (pc := 32) dX11_best_32 rfl (i := 0) rfl ?_
      refine ev_get (pc := 33) fl_X11_23_11_2 rfl (by decide) rfl rfl dX11_best_33 ?_
      refine ev_iload (pc := 36) dX11_best_36 rfl ?_
      refine ev_calli (pc := 38) (stk := []) (ce_V (c_X0_isShift v4 σ _ hf) wv_X11_149_X0_isShift rfl (by decide) rfl (by decide) rfl (Nat.le_of_ble_eq_true rfl) rfl dX11_best_38) (fun x5 σ4 hf => ?_)
      refine ev_if_eq (pc := 41) (tgt := 63) dX11_best_41 (by decide) (fun c6 => ?_) (fun c6 => ?_)
      · have hf := hf.1 c6
        refine ev_iconst (pc := 63) (v := 0) dX11_best_63 kc_0 ?_
        exact p_X11_best_J64_18 a1 (f_X11_best_L18 a1 k84 post n) k84 post hagain18 hk84 _ _ _ _ _ hf
      · have hf := hf.2 c6
        refine ev_aload_n (pc := 44) dX11_best_44 rfl (i := 0) rfl ?_
        refine ev_get (pc := 45) fl_X11_23_11_2 rfl (by decide) rfl rfl dX11_best_45 ?_
        refine ev_aload_n (pc := 48) dX11_best_48 rfl (i := 0) rfl ?_
        refine ev_get (pc := 49) fl_X11_29_11_3 rfl (by decide) rfl rfl dX11_best_49 ?_
        refine ev_get (pc := 52) fl_X11_131_4_0 rfl (by decide) rfl rfl dX11_best_52 ?_
        refine ev_iload (pc := 55) dX11_best_55 rfl ?_
        refine ev_calli (pc := 57) (stk := []) (ce_V (c_X0_brings 40 6 v4 rfl σ4 _ hf) wv_X11_196_X0_brings rfl (by decide) rfl (by decide) rfl (Nat.le_of_ble_eq_true rfl) rfl dX11_best_57) (fun x9 σ8 hf => ?_)
        refine ev_goto (pc := 60) (tgt := 64) dX11_best_60 (by decide) ?_
        exact p_X11_best_J64_18 a1 (f_X11_best_L18 a1 k84 post n) k84 post hagain18 hk84 _ _ _ _ _ hf
def f_X11_best (a1 : Int32) (σ : St) (post : Int32 → St → Prop) : Prop := (a1 < 0 → (post (-1) σ)) ∧ (¬ a1 < 0 → ((a1 ≤ 1 → (∃ n14 : Nat, f_X11_best_L18 a1 (fun x11 x12 σ10 => (¬ a1 = 0 → (post x12 σ10)) ∧ (a1 = 0 → (post x11 σ10))) post n14 0 0 1 σ)) ∧ (¬ a1 ≤ 1 → (post (-1) σ))))
set_option maxRecDepth 100000 in
set_option maxHeartbeats 4000000 in
theorem c_X11_best (a1 : Int32) (σ : St) (post : Int32 → St → Prop) (hf : f_X11_best a1 σ post) : Ct SX yX11_best cX11_best 6 (some .int) 3 (EQi SX post) [.ref 0, .int a1] σ := by
  rw [f_X11_best] at hf
  refine ct_of (by decide) rfl (Nat.le_of_ble_eq_true rfl) ?_
  show Ev SX RX11 cX11_best 6 (some .int) 3 (EQi SX post) 0 [some (.ref 0), some (.int a1), none, none, none, none] [] σ
  refine ev_iload_n (pc := 0) dX11_best_0 rfl (i := 1) rfl ?_
  refine ev_if_lt (pc := 1) (tgt := 9) dX11_best_1 (by decide) (fun c1 => ?_) (fun c1 => ?_)
  · have hf := hf.1 c1
    refine ev_iconst (pc := 9) (v := (-1)) dX11_best_9 kc_m1 ?_
    exact ev_iret (pc := 10) rfl dX11_best_10 hf
  · have hf := hf.2 c1
    refine ev_iload_n (pc := 4) dX11_best_4 rfl (i := 1) rfl ?_
    refine ev_iconst (pc := 5) (v := 1) dX11_best_5 kc_1 ?_
    refine ev_icmp_le (pc := 6) (tgt := 11) dX11_best_6 (by decide) (fun c2 => ?_) (fun c2 => ?_)
    · have hf := hf.1 c2
      refine ev_iconst (pc := 11) (v := 0) dX11_best_11 kc_0 ?_
      refine ev_istore_n (pc := 12) (L' := [some (.ref 0), some (.int a1), some (.int 0), none, none, none]) dX11_best_12 rfl (by decide) rfl rfl ?_
      refine ev_iconst (pc := 13) (v := 0) dX11_best_13 kc_0 ?_
      refine ev_istore_n (pc := 14) (L' := [some (.ref 0), some (.int a1), some (.int 0), some (.int 0), none, none]) dX11_best_14 rfl (by decide) rfl rfl ?_
      refine ev_iconst (pc := 15) (v := 1) dX11_best_15 kc_1 ?_
      refine ev_istore (pc := 16) (L' := [some (.ref 0), some (.int a1), some (.int 0), some (.int 0), some (.int 1), none]) dX11_best_16 (by decide) rfl rfl ?_
      obtain ⟨n14, hf⟩ := hf
      exact p_X11_best_L18 a1 _ post (fun x11 x12 σ10 hf => by
        refine ev_iload_n (pc := 84) dX11_best_84 rfl (i := 1) rfl ?_
        refine ev_if_ne (pc := 85) (tgt := 92) dX11_best_85 (by decide) (fun c13 => ?_) (fun c13 => ?_)
        · have hf := hf.1 c13
          refine ev_iload_n (pc := 92) dX11_best_92 rfl (i := 3) rfl ?_
          exact ev_iret (pc := 93) rfl dX11_best_93 hf
        · have hf := hf.2 c13
          refine ev_iload_n (pc := 88) dX11_best_88 rfl (i := 2) rfl ?_
          refine ev_goto (pc := 89) (tgt := 93) dX11_best_89 (by decide) ?_
          exact ev_iret (pc := 93) rfl dX11_best_93 hf) n14 _ _ _ _ hf
    · have hf := hf.2 c2
      refine ev_iconst (pc := 9) (v := (-1)) dX11_best_9 kc_m1 ?_
      exact ev_iret (pc := 10) rfl dX11_best_10 hf
def f_X0_coinsAtMost (a1 : Int32) (a2 : Int32) (σ : St) (post : Int32 → St → Prop) : Prop := vp_in a2 6 ∧ (∀ y2 : Int32, y2 = ((if (a1 + (σ.1 38 a2.toNatClampNeg)) < 999 then (a1 + (σ.1 38 a2.toNatClampNeg)) else 999) / 2) → (((σ.1 21 2) ≤ y2 → (post y2 σ)) ∧ (¬ (σ.1 21 2) ≤ y2 → (post 0 σ))))
set_option maxRecDepth 100000 in
set_option maxHeartbeats 4000000 in
theorem c_X0_coinsAtMost (a1 : Int32) (a2 : Int32) (σ : St) (post : Int32 → St → Prop) (hf : f_X0_coinsAtMost a1 a2 σ post) : Ct SX yX0_coinsAtMost cX0_coinsAtMost 4 (some .int) 1 (EQi SX post) [.ref 21, .int a1, .int a2] σ := by
  rw [f_X0_coinsAtMost] at hf
  refine ct_of (by decide) rfl (Nat.le_of_ble_eq_true rfl) ?_
  show Ev SX RX0 cX0_coinsAtMost 4 (some .int) 1 (EQi SX post) 0 [some (.ref 21), some (.int a1), some (.int a2), none] [] σ
  refine ev_sipush (pc := 0) (v := 999) dX0_coinsAtMost_0 ks_999 ?_
  refine ev_iload_n (pc := 3) dX0_coinsAtMost_3 rfl (i := 1) rfl ?_
  refine ev_aload_n (pc := 4) dX0_coinsAtMost_4 rfl (i := 0) rfl ?_
  refine ev_get (pc := 5) fl_X0_33_0_7 rfl (by decide) rfl rfl dX0_coinsAtMost_5 ?_
  refine ev_iload_n (pc := 8) dX0_coinsAtMost_8 rfl (i := 2) rfl ?_
  obtain ⟨h1, hf⟩ := hf
  refine ev_iald (pc := 9) rfl rfl h1 rfl dX0_coinsAtMost_9 ?_
  refine ev_iadd (pc := 10) dX0_coinsAtMost_10 ?_
  refine ev_min (pc := 11) wmin_X0_78 (by omega) (Nat.le_of_ble_eq_true rfl) dX0_coinsAtMost_11 ?_
  refine ev_iconst (pc := 14) (v := 2) dX0_coinsAtMost_14 kc_2 ?_
  refine ev_idiv (pc := 15) dX0_coinsAtMost_15 (by decide) ?_
  refine ev_nmi (fun y2 qy3 => ?_)
  have hf := hf y2 qy3
  refine ev_istore_n (pc := 16) (L' := [some (.ref 21), some (.int a1), some (.int a2), some (.int y2)]) dX0_coinsAtMost_16 rfl (by decide) rfl rfl ?_
  refine ev_iload_n (pc := 17) dX0_coinsAtMost_17 rfl (i := 3) rfl ?_
  refine ev_aload_n (pc := 18) dX0_coinsAtMost_18 rfl (i := 0) rfl ?_
  refine ev_get (pc := 19) fl_X0_15_0_2 rfl (by decide) rfl rfl dX0_coinsAtMost_19 ?_
  refine ev_icmp_ge (pc := 22) (tgt := 29) dX0_coinsAtMost_22 (by decide) (fun c4 => ?_) (fun c4 => ?_)
  · have hf := hf.1 c4
    refine ev_iload_n (pc := 29) dX0_coinsAtMost_29 rfl (i := 3) rfl ?_
    exact ev_iret (pc := 30) rfl dX0_coinsAtMost_30 hf
  · have hf := hf.2 c4
    refine ev_iconst (pc := 25) (v := 0) dX0_coinsAtMost_25 kc_0 ?_
    refine ev_goto (pc := 26) (tgt := 30) dX0_coinsAtMost_26 (by decide) ?_
    exact ev_iret (pc := 30) rfl dX0_coinsAtMost_30 hf
def f_X5_ceiling_J60_26 (r2 : Nat) (n2 : Nat) (again26 : Int32 → Int32 → Int32 → Int32 → Int32 → Int32 → St → Prop) (k83 : Int32 → Int32 → Int32 → Int32 → Int32 → St → Prop) (post : Int32 → St → Prop) (v3 : Int32) (v4 : Int32) (v5 : Int32) (v6 : Int32) (v7 : Int32) (v8 : Int32) (s0 : Int32) (σ : St) : Prop := (s0 ≤ v6 → (again26 v3 v4 v5 v6 v7 (v8 + 1) σ)) ∧ (¬ s0 ≤ v6 → (again26 v3 v4 v5 s0 v8 (v8 + 1) σ))
set_option maxRecDepth 100000 in
set_option maxHeartbeats 4000000 in
theorem p_X5_ceiling_J60_26 (r2 : Nat) (n2 : Nat) (hr2 : SX.1[r2]? = some (20, n2, [])) (again26 : Int32 → Int32 → Int32 → Int32 → Int32 → Int32 → St → Prop) (k83 : Int32 → Int32 → Int32 → Int32 → Int32 → St → Prop) (post : Int32 → St → Prop) (hagain26 : ∀ (v3 : Int32) (v4 : Int32) (v5 : Int32) (v6 : Int32) (v7 : Int32) (v8 : Int32) (τ : St), again26 v3 v4 v5 v6 v7 v8 τ → Ev SX RX5 cX5_ceiling 10 (some .int) 2 (EQi SX post) 26 [some (.ref 53), some (.ref 21), some (.ref r2), some (.int v3), some (.int v4), some (.int v5), some (.int v6), some (.int v7), some (.int v8), none] [] τ) (hk83 : ∀ (v3 : Int32) (v4 : Int32) (v5 : Int32) (v6 : Int32) (v7 : Int32) (τ : St), k83 v3 v4 v5 v6 v7 τ → Ev SX RX5 cX5_ceiling 10 (some .int) 2 (EQi SX post) 83 [some (.ref 53), some (.ref 21), some (.ref r2), some (.int v3), some (.int v4), some (.int v5), some (.int v6), some (.int v7), none, none] [] τ) (v3 : Int32) (v4 : Int32) (v5 : Int32) (v6 : Int32) (v7 : Int32) (v8 : Int32) (s0 : Int32) (σ : St) (hf : f_X5_ceiling_J60_26 r2 n2 again26 k83 post v3 v4 v5 v6 v7 v8 s0 σ) : Ev SX RX5 cX5_ceiling 10 (some .int) 2 (EQi SX post) 60 [some (.ref 53), some (.ref 21), some (.ref r2), some (.int v3), some (.int v4), some (.int v5), some (.int v6), some (.int v7), some (.int v8), none] [.int s0] σ := by
  rw [f_X5_ceiling_J60_26] at hf
  refine ev_istore (pc := 60) (L' := [some (.ref 53), some (.ref 21), some (.ref r2), some (.int v3), some (.int v4), some (.int v5), some (.int v6), some (.int v7), some (.int v8), some (.int s0)]) dX5_ceiling_60 (by decide) rfl rfl ?_
  refine ev_iload (pc := 62) dX5_ceiling_62 rfl ?_
  refine ev_iload (pc := 64) dX5_ceiling_64 rfl ?_
  refine ev_icmp_le (pc := 66) (tgt := 77) dX5_ceiling_66 (by decide) (fun c7 => ?_) (fun c7 => ?_)
  · have hf := hf.1 c7
    refine ev_iinc (pc := 77) (v := v8 + 1) (L' := [some (.ref 53), some (.ref 21), some (.ref r2), some (.int v3), some (.int v4), some (.int v5), some (.int v6), some (.int v7), some (.int (v8 + 1)), some (.int s0)]) dX5_ceiling_77 rfl (by rw [kc_1]) (by decide) rfl rfl ?_
    refine ev_goto (pc := 80) (tgt := 26) dX5_ceiling_80 (by decide) ?_
    refine ev_mask [true, true, true, true, true, true, true, true, true, false] (L' := [some (.ref 53), some (.ref 21), some (.ref r2), some (.int v3), some (.int v4), some (.int v5), some (.int v6), some (.int v7), some (.int (v8 + 1)), none]) rfl ?_
    exact hagain26 _ _ _ _ _ _ _ hf
  · have hf := hf.2 c7
    refine ev_iload (pc := 69) dX5_ceiling_69 rfl ?_
    refine ev_istore (pc := 71) (L' := [some (.ref 53), some (.ref 21), some (.ref r2), some (.int v3), some (.int v4), some (.int v5), some (.int s0), some (.int v7), some (.int v8), some (.int s0)]) dX5_ceiling_71 (by decide) rfl rfl ?_
    refine ev_iload (pc := 73) dX5_ceiling_73 rfl ?_
    refine ev_istore (pc := 75) (L' := [some (.ref 53), some (.ref 21), some (.ref r2), some (.int v3), some (.int v4), some (.int v5), some (.int s0), some (.int v8), some (.int v8), some (.int s0)]) dX5_ceiling_75 (by decide) rfl rfl ?_
    refine ev_iinc (pc := 77) (v := v8 + 1) (L' := [some (.ref 53), some (.ref 21), some (.ref r2), some (.int v3), some (.int v4), some (.int v5), some (.int s0), some (.int v8), some (.int (v8 + 1)), some (.int s0)]) dX5_ceiling_77 rfl (by rw [kc_1]) (by decide) rfl rfl ?_
    refine ev_goto (pc := 80) (tgt := 26) dX5_ceiling_80 (by decide) ?_
    refine ev_mask [true, true, true, true, true, true, true, true, true, false] (L' := [some (.ref 53), some (.ref 21), some (.ref r2), some (.int v3), some (.int v4), some (.int v5), some (.int s0), some (.int v8), some (.int (v8 + 1)), none]) rfl ?_
    exact hagain26 _ _ _ _ _ _ _ hf
def f_X5_ceiling_L26 (r2 : Nat) (n2 : Nat) (k83 : Int32 → Int32 → Int32 → Int32 → Int32 → St → Prop) (post : Int32 → St → Prop) : Nat → Int32 → Int32 → Int32 → Int32 → Int32 → Int32 → St → Prop
  | 0, _, _, _, _, _, _, _ => False
  | n + 1, v3, v4, v5, v6, v7, v8, σ => ((σ.1 21 0) ≤ v8 → (k83 v3 v4 v5 v6 v7 σ)) ∧ (¬ (σ.1 21 0) ≤ v8 → ((¬ ((v4 >>> (v8 &&& 31)) &&& 1) = 1 → (vp_in v8 n2 ∧ (f_X0_coinsAtMost (σ.1 r2 v8.toNatClampNeg) v8 σ (fun x6 σ5 => f_X5_ceiling_J60_26 r2 n2 (f_X5_ceiling_L26 r2 n2 k83 post n) k83 post v3 v4 v5 v6 v7 v8 x6 σ5)))) ∧ (((v4 >>> (v8 &&& 31)) &&& 1) = 1 → (f_X5_ceiling_J60_26 r2 n2 (f_X5_ceiling_L26 r2 n2 k83 post n) k83 post v3 v4 v5 v6 v7 v8 0 σ))))
set_option maxRecDepth 100000 in
set_option maxHeartbeats 4000000 in
theorem p_X5_ceiling_L26 (r2 : Nat) (n2 : Nat) (hr2 : SX.1[r2]? = some (20, n2, [])) (k83 : Int32 → Int32 → Int32 → Int32 → Int32 → St → Prop) (post : Int32 → St → Prop) (hk83 : ∀ (v3 : Int32) (v4 : Int32) (v5 : Int32) (v6 : Int32) (v7 : Int32) (τ : St), k83 v3 v4 v5 v6 v7 τ → Ev SX RX5 cX5_ceiling 10 (some .int) 2 (EQi SX post) 83 [some (.ref 53), some (.ref 21), some (.ref r2), some (.int v3), some (.int v4), some (.int v5), some (.int v6), some (.int v7), none, none] [] τ) : ∀ (n : Nat) (v3 : Int32) (v4 : Int32) (v5 : Int32) (v6 : Int32) (v7 : Int32) (v8 : Int32) (σ : St), f_X5_ceiling_L26 r2 n2 k83 post n v3 v4 v5 v6 v7 v8 σ → Ev SX RX5 cX5_ceiling 10 (some .int) 2 (EQi SX post) 26 [some (.ref 53), some (.ref 21), some (.ref r2), some (.int v3), some (.int v4), some (.int v5), some (.int v6), some (.int v7), some (.int v8), none] [] σ := by
  intro n
  induction n with
  | zero =>
    intro v3 v4 v5 v6 v7 v8 σ hf
    exact hf.elim
  | succ n hagain26 =>
    intro v3 v4 v5 v6 v7 v8 σ hf
    rw [f_X5_ceiling_L26] at hf
    refine ev_iload (pc := 26) dX5_ceiling_26 rfl ?_
    refine ev_aload_n (pc := 28) dX5_ceiling_28 rfl (i := 1) rfl ?_
    refine ev_get (pc := 29) fl_X5_40_0_0 rfl (by decide) rfl rfl dX5_ceiling_29 ?_
    refine ev_icmp_ge (pc := 32) (tgt := 83) dX5_ceiling_32 (by decide) (fun c2 => ?_) (fun c2 => ?_)
    · have hf := hf.1 c2
      refine ev_mask [true, true, true, true, true, true, true, true, false, false] (L' := [some (.ref 53), some (.ref 21), some (.ref r2), some (.int v3), some (.int v4), some (.int v5), some (.int v6), some (.int v7), none, none]) rfl ?_
      exact hk83 _ _ _ _ _ _ hf
    · have hf := hf.2 c2
      refine ev_iload (pc := 35) dX5_ceiling_35 rfl ?_
      refine ev_iload (pc := 37) dX5_ceiling_37 rfl ?_
      refine ev_ishr (pc := 39) dX5_ceiling_39 ?_
      refine ev_iconst (pc := 40) (v := 1) dX5_ceiling_40 kc_1 ?_
      refine ev_iand (pc := 41) dX5_ceiling_41 ?_
      refine ev_iconst (pc := 42) (v := 1) dX5_ceiling_42 kc_1 ?_
      refine ev_icmp_ne (pc := 43) (tgt := 50) dX5_ceiling_43 (by decide) (fun c3 => ?_) (fun c3 => ?_)
      · have hf := hf.1 c3
        refine ev_aload_n (pc := 50) dX5_ceiling_50 rfl (i := 1) rfl ?_
        refine ev_aload_n (pc := 51) dX5_ceiling_51 rfl (i := 2) rfl ?_
        refine ev_iload (pc := 52) dX5_ceiling_52 rfl ?_
        obtain ⟨h4, hf⟩ := hf
        refine ev_iald (pc := 54) hr2 rfl h4 rfl dX5_ceiling_54 ?_
        refine ev_iload (pc := 55) dX5_ceiling_55 rfl ?_
        refine ev_calli (pc := 57) (stk := []) (ce_V (c_X0_coinsAtMost (σ.1 r2 v8.toNatClampNeg) v8 σ _ hf) wv_X5_81_X0_coinsAtMost rfl (by decide) rfl (by decide) rfl (Nat.le_of_ble_eq_true rfl) rfl dX5_ceiling_57) (fun x6 σ5 hf => ?_)
        exact p_X5_ceiling_J60_26 r2 n2 hr2 (f_X5_ceiling_L26 r2 n2 k83 post n) k83 post hagain26 hk83 _ _ _ _ _ _ _ _ hf
      · have hf := hf.2 c3
        refine ev_iconst (pc := 46) (v := 0) dX5_ceiling_46 kc_0 ?_
        refine ev_goto (pc := 47) (tgt := 60) dX5_ceiling_47 (by decide) ?_
        exact p_X5_ceiling_J60_26 r2 n2 hr2 (f_X5_ceiling_L26 r2 n2 k83 post n) k83 post hagain26 hk83 _ _ _ _ _ _ _ _ hf
def f_X5_ceiling_L8 (r2 : Nat) (n2 : Nat) (post : Int32 → St → Prop) : Nat → Int32 → Int32 → Int32 → St → Prop
  | 0, _, _, _, _ => False
  | n + 1, v3, v4, v5, σ => ((σ.1 21 1) ≤ v5 → (post v3 σ)) ∧ (¬ (σ.1 21 1) ≤ v5 → (∃ n14 : Nat, f_X5_ceiling_L26 r2 n2 (fun x9 x10 x11 x12 x13 σ8 => (f_X5_ceiling_L8 r2 n2 post n) (x9 + x12) (x10 ||| (1 <<< (x13 &&& 31))) (x11 + 1) σ8) post n14 v3 v4 v5 0 0 0 σ))
set_option maxRecDepth 100000 in
set_option maxHeartbeats 4000000 in
theorem p_X5_ceiling_L8 (r2 : Nat) (n2 : Nat) (hr2 : SX.1[r2]? = some (20, n2, [])) (post : Int32 → St → Prop) : ∀ (n : Nat) (v3 : Int32) (v4 : Int32) (v5 : Int32) (σ : St), f_X5_ceiling_L8 r2 n2 post n v3 v4 v5 σ → Ev SX RX5 cX5_ceiling 10 (some .int) 2 (EQi SX post) 8 [some (.ref 53), some (.ref 21), some (.ref r2), some (.int v3), some (.int v4), some (.int v5), none, none, none, none] [] σ := by
  intro n
  induction n with
  | zero =>
    intro v3 v4 v5 σ hf
    exact hf.elim
  | succ n hagain8 =>
    intro v3 v4 v5 σ hf
    rw [f_X5_ceiling_L8] at hf
    refine ev_iload (pc := 8) dX5_ceiling_8 rfl ?_
    refine ev_aload_n (pc := 10) dX5_ceiling_10 rfl (i := 1) rfl ?_
    refine ev_get (pc := 11) fl_X5_78_0_1 rfl (by decide) rfl rfl dX5_ceiling_11 ?_
    refine ev_icmp_ge (pc := 14) (tgt := 103) dX5_ceiling_14 (by decide) (fun c1 => ?_) (fun c1 => ?_)
    · have hf := hf.1 c1
      refine ev_iload_n (pc := 103) dX5_ceiling_103 rfl (i := 3) rfl ?_
      exact ev_iret (pc := 104) rfl dX5_ceiling_104 hf
    · have hf := hf.2 c1
      refine ev_iconst (pc := 17) (v := 0) dX5_ceiling_17 kc_0 ?_
      refine ev_istore (pc := 18) (L' := [some (.ref 53), some (.ref 21), some (.ref r2), some (.int v3), some (.int v4), some (.int v5), some (.int 0), none, none, none]) dX5_ceiling_18 (by decide) rfl rfl ?_
      refine ev_iconst (pc := 20) (v := 0) dX5_ceiling_20 kc_0 ?_
      refine ev_istore (pc := 21) (L' := [some (.ref 53), some (.ref 21), some (.ref r2), some (.int v3), some (.int v4), some (.int v5), some (.int 0), some (.int 0), none, none]) dX5_ceiling_21 (by decide) rfl rfl ?_
      refine ev_iconst (pc := 23) (v := 0) dX5_ceiling_23 kc_0 ?_
      refine ev_istore (pc := 24) (L' := [some (.ref 53), some (.ref 21), some (.ref r2), some (.int v3), some (.int v4), some (.int v5), some (.int 0), some (.int 0), some (.int 0), none]) dX5_ceiling_24 (by decide) rfl rfl ?_
      obtain ⟨n14, hf⟩ := hf
      exact p_X5_ceiling_L26 r2 n2 hr2 _ post (fun x9 x10 x11 x12 x13 σ8 hf => by
        refine ev_iload (pc := 83) dX5_ceiling_83 rfl ?_
        refine ev_iconst (pc := 85) (v := 1) dX5_ceiling_85 kc_1 ?_
        refine ev_iload (pc := 86) dX5_ceiling_86 rfl ?_
        refine ev_ishl (pc := 88) dX5_ceiling_88 ?_
        refine ev_ior (pc := 89) dX5_ceiling_89 ?_
        refine ev_istore (pc := 90) (L' := [some (.ref 53), some (.ref 21), some (.ref r2), some (.int x9), some (.int (x10 ||| (1 <<< (x13 &&& 31)))), some (.int x11), some (.int x12), some (.int x13), none, none]) dX5_ceiling_90 (by decide) rfl rfl ?_
        refine ev_iload_n (pc := 92) dX5_ceiling_92 rfl (i := 3) rfl ?_
        refine ev_iload (pc := 93) dX5_ceiling_93 rfl ?_
        refine ev_iadd (pc := 95) dX5_ceiling_95 ?_
        refine ev_istore_n (pc := 96) (L' := [some (.ref 53), some (.ref 21), some (.ref r2), some (.int (x9 + x12)), some (.int (x10 ||| (1 <<< (x13 &&& 31)))), some (.int x11), some (.int x12), some (.int x13), none, none]) dX5_ceiling_96 rfl (by decide) rfl rfl ?_
        refine ev_iinc (pc := 97) (v := x11 + 1) (L' := [some (.ref 53), some (.ref 21), some (.ref r2), some (.int (x9 + x12)), some (.int (x10 ||| (1 <<< (x13 &&& 31)))), some (.int (x11 + 1)), some (.int x12), some (.int x13), none, none]) dX5_ceiling_97 rfl (by rw [kc_1]) (by decide) rfl rfl ?_
        refine ev_goto (pc := 100) (tgt := 8) dX5_ceiling_100 (by decide) ?_
        refine ev_mask [true, true, true, true, true, true, false, false, false, false] (L' := [some (.ref 53), some (.ref 21), some (.ref r2), some (.int (x9 + x12)), some (.int (x10 ||| (1 <<< (x13 &&& 31)))), some (.int (x11 + 1)), none, none, none, none]) rfl ?_
        exact hagain8 _ _ _ _ hf) n14 _ _ _ _ _ _ _ hf
def f_X5_ceiling (r2 : Nat) (n2 : Nat) (σ : St) (post : Int32 → St → Prop) : Prop := ∃ n15 : Nat, f_X5_ceiling_L8 r2 n2 post n15 0 0 0 σ
set_option maxRecDepth 100000 in
set_option maxHeartbeats 4000000 in
theorem c_X5_ceiling (r2 : Nat) (n2 : Nat) (hr2 : SX.1[r2]? = some (20, n2, [])) (σ : St) (post : Int32 → St → Prop) (hf : f_X5_ceiling r2 n2 σ post) : Ct SX yX5_ceiling cX5_ceiling 10 (some .int) 2 (EQi SX post) [.ref 53, .ref 21, .ref r2] σ := by
  rw [f_X5_ceiling] at hf
  refine ct_of (by decide) rfl (Nat.le_of_ble_eq_true rfl) ?_
  show Ev SX RX5 cX5_ceiling 10 (some .int) 2 (EQi SX post) 0 [some (.ref 53), some (.ref 21), some (.ref r2), none, none, none, none, none, none, none] [] σ
  refine ev_iconst (pc := 0) (v := 0) dX5_ceiling_0 kc_0 ?_
  refine ev_istore_n (pc := 1) (L' := [some (.ref 53), some (.ref 21), some (.ref r2), some (.int 0), none, none, none, none, none, none]) dX5_ceiling_1 rfl (by decide) rfl rfl ?_
  refine ev_iconst (pc := 2) (v := 0) dX5_ceiling_2 kc_0 ?_
  refine ev_istore (pc := 3) (L' := [some (.ref 53), some (.ref 21), some (.ref r2), some (.int 0), some (.int 0), none, none, none, none, none]) dX5_ceiling_3 (by decide) rfl rfl ?_
  refine ev_iconst (pc := 5) (v := 0) dX5_ceiling_5 kc_0 ?_
  refine ev_istore (pc := 6) (L' := [some (.ref 53), some (.ref 21), some (.ref r2), some (.int 0), some (.int 0), some (.int 0), none, none, none, none]) dX5_ceiling_6 (by decide) rfl rfl ?_
  obtain ⟨n15, hf⟩ := hf
  exact p_X5_ceiling_L8 r2 n2 hr2 post n15 _ _ _ _ hf
def f_X5_holds_L2 (r2 : Nat) (n2 : Nat) (post : Int32 → St → Prop) : Nat → Int32 → St → Prop
  | 0, _, _ => False
  | n + 1, v3, σ => ((σ.1 21 0) ≤ v3 → (post 1 σ)) ∧ (¬ (σ.1 21 0) ≤ v3 → ((¬ (((σ.1 53 6) >>> (v3 &&& 31)) &&& 1) = 1 → ((f_X5_holds_L2 r2 n2 post n) (v3 + 1) σ)) ∧ ((((σ.1 53 6) >>> (v3 &&& 31)) &&& 1) = 1 → (vp_in v3 n2 ∧ (((σ.1 53 5) ≤ (σ.1 r2 v3.toNatClampNeg) → ((f_X5_holds_L2 r2 n2 post n) (v3 + 1) σ)) ∧ (¬ (σ.1 53 5) ≤ (σ.1 r2 v3.toNatClampNeg) → (post 0 σ)))))))
set_option maxRecDepth 100000 in
set_option maxHeartbeats 4000000 in
theorem p_X5_holds_L2 (r2 : Nat) (n2 : Nat) (hr2 : SX.1[r2]? = some (20, n2, [])) (post : Int32 → St → Prop) : ∀ (n : Nat) (v3 : Int32) (σ : St), f_X5_holds_L2 r2 n2 post n v3 σ → Ev SX RX5 cX5_holds 4 (some .boolean) 0 (EQi SX post) 2 [some (.ref 53), some (.ref 21), some (.ref r2), some (.int v3)] [] σ := by
  intro n
  induction n with
  | zero =>
    intro v3 σ hf
    exact hf.elim
  | succ n hagain2 =>
    intro v3 σ hf
    rw [f_X5_holds_L2] at hf
    refine ev_iload_n (pc := 2) dX5_holds_2 rfl (i := 3) rfl ?_
    refine ev_aload_n (pc := 3) dX5_holds_3 rfl (i := 1) rfl ?_
    refine ev_get (pc := 4) fl_X5_40_0_0 rfl (by decide) rfl rfl dX5_holds_4 ?_
    refine ev_icmp_ge (pc := 7) (tgt := 40) dX5_holds_7 (by decide) (fun c1 => ?_) (fun c1 => ?_)
    · have hf := hf.1 c1
      refine ev_iconst (pc := 40) (v := 1) dX5_holds_40 kc_1 ?_
      exact ev_zret (pc := 41) rfl dX5_holds_41 rfl hf
    · have hf := hf.2 c1
      refine ev_aload_n (pc := 10) dX5_holds_10 rfl (i := 0) rfl ?_
      refine ev_get (pc := 11) fl_X5_37_5_6 rfl (by decide) rfl rfl dX5_holds_11 ?_
      refine ev_iload_n (pc := 14) dX5_holds_14 rfl (i := 3) rfl ?_
      refine ev_ishr (pc := 15) dX5_holds_15 ?_
      refine ev_iconst (pc := 16) (v := 1) dX5_holds_16 kc_1 ?_
      refine ev_iand (pc := 17) dX5_holds_17 ?_
      refine ev_iconst (pc := 18) (v := 1) dX5_holds_18 kc_1 ?_
      refine ev_icmp_ne (pc := 19) (tgt := 34) dX5_holds_19 (by decide) (fun c2 => ?_) (fun c2 => ?_)
      · have hf := hf.1 c2
        refine ev_iinc (pc := 34) (v := v3 + 1) (L' := [some (.ref 53), some (.ref 21), some (.ref r2), some (.int (v3 + 1))]) dX5_holds_34 rfl (by rw [kc_1]) (by decide) rfl rfl ?_
        refine ev_goto (pc := 37) (tgt := 2) dX5_holds_37 (by decide) ?_
        exact hagain2 _ _ hf
      · have hf := hf.2 c2
        refine ev_aload_n (pc := 22) dX5_holds_22 rfl (i := 2) rfl ?_
        refine ev_iload_n (pc := 23) dX5_holds_23 rfl (i := 3) rfl ?_
        obtain ⟨h3, hf⟩ := hf
        refine ev_iald (pc := 24) hr2 rfl h3 rfl dX5_holds_24 ?_
        refine ev_aload_n (pc := 25) dX5_holds_25 rfl (i := 0) rfl ?_
        refine ev_get (pc := 26) fl_X5_27_5_5 rfl (by decide) rfl rfl dX5_holds_26 ?_
        refine ev_icmp_ge (pc := 29) (tgt := 34) dX5_holds_29 (by decide) (fun c4 => ?_) (fun c4 => ?_)
        · have hf := hf.1 c4
          refine ev_iinc (pc := 34) (v := v3 + 1) (L' := [some (.ref 53), some (.ref 21), some (.ref r2), some (.int (v3 + 1))]) dX5_holds_34 rfl (by rw [kc_1]) (by decide) rfl rfl ?_
          refine ev_goto (pc := 37) (tgt := 2) dX5_holds_37 (by decide) ?_
          exact hagain2 _ _ hf
        · have hf := hf.2 c4
          refine ev_iconst (pc := 32) (v := 0) dX5_holds_32 kc_0 ?_
          exact ev_zret (pc := 33) rfl dX5_holds_33 rfl hf
def f_X5_holds (r2 : Nat) (n2 : Nat) (σ : St) (post : Int32 → St → Prop) : Prop := ∃ n5 : Nat, f_X5_holds_L2 r2 n2 post n5 0 σ
set_option maxRecDepth 100000 in
set_option maxHeartbeats 4000000 in
theorem c_X5_holds (r2 : Nat) (n2 : Nat) (hr2 : SX.1[r2]? = some (20, n2, [])) (σ : St) (post : Int32 → St → Prop) (hf : f_X5_holds r2 n2 σ post) : Ct SX yX5_holds cX5_holds 4 (some .boolean) 0 (EQi SX post) [.ref 53, .ref 21, .ref r2] σ := by
  rw [f_X5_holds] at hf
  refine ct_of (by decide) rfl (Nat.le_of_ble_eq_true rfl) ?_
  show Ev SX RX5 cX5_holds 4 (some .boolean) 0 (EQi SX post) 0 [some (.ref 53), some (.ref 21), some (.ref r2), none] [] σ
  refine ev_iconst (pc := 0) (v := 0) dX5_holds_0 kc_0 ?_
  refine ev_istore_n (pc := 1) (L' := [some (.ref 53), some (.ref 21), some (.ref r2), some (.int 0)]) dX5_holds_1 rfl (by decide) rfl rfl ?_
  obtain ⟨n5, hf⟩ := hf
  exact p_X5_holds_L2 r2 n2 hr2 post n5 _ _ hf
def f_X5_takes (a1 : Int32) (σ : St) (post : St → Prop) : Prop := (a1 ≤ (σ.1 53 0) → (post σ)) ∧ (¬ a1 ≤ (σ.1 53 0) → (∀ σ2 : St, σ2 = (st_up σ 53 0 a1) → (post (st_row σ2 54 (va_cpy (σ2.1 60) (σ2.1 54) 0 0 3)))))
set_option maxRecDepth 100000 in
set_option maxHeartbeats 4000000 in
theorem c_X5_takes (a1 : Int32) (σ : St) (post : St → Prop) (hf : f_X5_takes a1 σ post) : Ct SX yX5_takes cX5_takes 2 none 1 (EQv SX post) [.ref 53, .int a1] σ := by
  rw [f_X5_takes] at hf
  refine ct_of (by decide) rfl (Nat.le_of_ble_eq_true rfl) ?_
  show Ev SX RX5 cX5_takes 2 none 1 (EQv SX post) 0 [some (.ref 53), some (.int a1)] [] σ
  refine ev_iload_n (pc := 0) dX5_takes_0 rfl (i := 1) rfl ?_
  refine ev_aload_n (pc := 1) dX5_takes_1 rfl (i := 0) rfl ?_
  refine ev_get (pc := 2) fl_X5_34_5_0 rfl (by decide) rfl rfl dX5_takes_2 ?_
  refine ev_icmp_le (pc := 5) (tgt := 27) dX5_takes_5 (by decide) (fun c1 => ?_) (fun c1 => ?_)
  · have hf := hf.1 c1
    exact ev_vret (pc := 27) rfl dX5_takes_27 hf
  · have hf := hf.2 c1
    refine ev_aload_n (pc := 8) dX5_takes_8 rfl (i := 0) rfl ?_
    refine ev_iload_n (pc := 9) dX5_takes_9 rfl (i := 1) rfl ?_
    refine ev_puti (pc := 10) fp_X5_34_5_0 rfl (by decide) rfl rfl rfl dX5_takes_10 ?_
    refine ev_aload_n (pc := 13) dX5_takes_13 rfl (i := 0) rfl ?_
    refine ev_get (pc := 14) fl_X5_20_5_3 rfl (by decide) rfl rfl dX5_takes_14 ?_
    refine ev_iconst (pc := 17) (v := 0) dX5_takes_17 kc_0 ?_
    refine ev_aload_n (pc := 18) dX5_takes_18 rfl (i := 0) rfl ?_
    refine ev_get (pc := 19) fl_X5_9_5_1 rfl (by decide) rfl rfl dX5_takes_19 ?_
    refine ev_iconst (pc := 22) (v := 0) dX5_takes_22 kc_0 ?_
    refine ev_iconst (pc := 23) (v := 3) dX5_takes_23 kc_3 ?_
    refine ev_nm (fun σ2 q2 => ?_)
    have hf := hf σ2 q2
    refine ev_copy (pc := 24) wcp_X5_72 rfl rfl rfl (by decide) kn_0 kn_0 kn_3 (by omega) (Nat.le_of_ble_eq_true rfl) dX5_takes_24 ?_
    exact ev_vret (pc := 27) rfl dX5_takes_27 hf
def f_X5_looks_J121_65 (rec : Int32 → Int32 → St → (St → Prop) → Prop) (a2 : Int32) (a3 : Int32) (again65 : Int32 → Int32 → St → Prop) (post : St → Prop) (v4 : Int32) (v5 : Int32) (v6 : Int32) (σ : St) : Prop := vp_in a2 4 ∧ (vp_in (a2 + 1) 4 ∧ (f_X0_lives (56 + a2.toNatClampNeg) 6 (56 + (a2 + 1).toNatClampNeg) 6 v5 σ (fun σ17 => vp_in (a2 + 1) 4 ∧ (f_X5_holds (56 + (a2 + 1).toNatClampNeg) 6 σ17 (fun x21 σ20 => (x21 = 0 → (again65 v4 (v5 + 1) σ20)) ∧ (¬ x21 = 0 → (vp_in a2 3 ∧ (rec (a2 + 1) v6 (st_up σ20 60 a2.toNatClampNeg v5) (fun σ24 => again65 v4 (v5 + 1) σ24)))))))))
set_option maxRecDepth 100000 in
set_option maxHeartbeats 4000000 in
theorem p_X5_looks_J121_65 {nd : Nat} (rec : Int32 → Int32 → St → (St → Prop) → Prop) (hrec : ∀ (a2q : Int32) (a3q : Int32) (τ : St) (post2 : St → Prop), rec a2q a3q τ post2 → Ct SX yX5_looks cX5_looks 7 none (3 + nd) (EQv SX post2) [.ref 53, .ref 21, .int a2q, .int a3q] τ) (a2 : Int32) (a3 : Int32) (again65 : Int32 → Int32 → St → Prop) (post : St → Prop) (hagain65 : ∀ (v4 : Int32) (v5 : Int32) (τ : St), again65 v4 v5 τ → Ev SX RX5 cX5_looks 7 none (3 + (nd + 1)) (EQv SX post) 65 [some (.ref 53), some (.ref 21), some (.int a2), some (.int a3), some (.int v4), some (.int v5), none] [] τ) (v4 : Int32) (v5 : Int32) (v6 : Int32) (σ : St) (hf : f_X5_looks_J121_65 rec a2 a3 again65 post v4 v5 v6 σ) : Ev SX RX5 cX5_looks 7 none (3 + (nd + 1)) (EQv SX post) 121 [some (.ref 53), some (.ref 21), some (.int a2), some (.int a3), some (.int v4), some (.int v5), some (.int v6)] [] σ := by
  rw [f_X5_looks_J121_65] at hf
  refine ev_aload_n (pc := 121) dX5_looks_121 rfl (i := 1) rfl ?_
  refine ev_aload_n (pc := 122) dX5_looks_122 rfl (i := 0) rfl ?_
  refine ev_get (pc := 123) fl_X5_17_5_2 rfl (by decide) rfl rfl dX5_looks_123 ?_
  refine ev_iload_n (pc := 126) dX5_looks_126 rfl (i := 2) rfl ?_
  obtain ⟨h15, hf⟩ := hf
  refine ev_aald (pc := 127) (t := 4) rfl rfl rfl rfl h15 rfl dX5_looks_127 ?_
  refine ev_aload_n (pc := 128) dX5_looks_128 rfl (i := 0) rfl ?_
  refine ev_get (pc := 129) fl_X5_17_5_2 rfl (by decide) rfl rfl dX5_looks_129 ?_
  refine ev_iload_n (pc := 132) dX5_looks_132 rfl (i := 2) rfl ?_
  refine ev_iconst (pc := 133) (v := 1) dX5_looks_133 kc_1 ?_
  refine ev_iadd (pc := 134) dX5_looks_134 ?_
  obtain ⟨h16, hf⟩ := hf
  refine ev_aald (pc := 135) (t := 4) rfl rfl rfl rfl h16 rfl dX5_looks_135 ?_
  refine ev_iload (pc := 136) dX5_looks_136 rfl ?_
  refine ev_callv (pc := 138) (stk := []) (ce_V (c_X0_lives (56 + a2.toNatClampNeg) 6 (56 + (a2 + 1).toNatClampNeg) 6 v5 (kr_X_55 h15) (kr_X_55 h16) σ _ hf) wv_X5_65_X0_lives rfl (by decide) rfl (by omega) rfl (Nat.le_of_ble_eq_true rfl) rfl dX5_looks_138) (fun σ17 hf => ?_)
  refine ev_aload_n (pc := 141) dX5_looks_141 rfl (i := 0) rfl ?_
  refine ev_aload_n (pc := 142) dX5_looks_142 rfl (i := 1) rfl ?_
  refine ev_aload_n (pc := 143) dX5_looks_143 rfl (i := 0) rfl ?_
  refine ev_get (pc := 144) fl_X5_17_5_2 rfl (by decide) rfl rfl dX5_looks_144 ?_
  refine ev_iload_n (pc := 147) dX5_looks_147 rfl (i := 2) rfl ?_
  refine ev_iconst (pc := 148) (v := 1) dX5_looks_148 kc_1 ?_
  refine ev_iadd (pc := 149) dX5_looks_149 ?_
  obtain ⟨h19, hf⟩ := hf
  refine ev_aald (pc := 150) (t := 4) rfl rfl rfl rfl h19 rfl dX5_looks_150 ?_
  refine ev_calli (pc := 151) (stk := []) (ce_V (c_X5_holds (56 + (a2 + 1).toNatClampNeg) 6 (kr_X_55 h19) σ17 _ hf) wv_X5_69_X5_holds rfl (by decide) rfl (by omega) rfl (Nat.le_of_ble_eq_true rfl) rfl dX5_looks_151) (fun x21 σ20 hf => ?_)
  refine ev_if_eq (pc := 154) (tgt := 175) dX5_looks_154 (by decide) (fun c22 => ?_) (fun c22 => ?_)
  · have hf := hf.1 c22
    refine ev_iinc (pc := 175) (v := v5 + 1) (L' := [some (.ref 53), some (.ref 21), some (.int a2), some (.int a3), some (.int v4), some (.int (v5 + 1)), some (.int v6)]) dX5_looks_175 rfl (by rw [kc_1]) (by decide) rfl rfl ?_
    refine ev_goto (pc := 178) (tgt := 65) dX5_looks_178 (by decide) ?_
    refine ev_mask [true, true, true, true, true, true, false] (L' := [some (.ref 53), some (.ref 21), some (.int a2), some (.int a3), some (.int v4), some (.int (v5 + 1)), none]) rfl ?_
    exact hagain65 _ _ _ hf
  · have hf := hf.2 c22
    refine ev_aload_n (pc := 157) dX5_looks_157 rfl (i := 0) rfl ?_
    refine ev_get (pc := 158) fl_X5_20_5_3 rfl (by decide) rfl rfl dX5_looks_158 ?_
    refine ev_iload_n (pc := 161) dX5_looks_161 rfl (i := 2) rfl ?_
    refine ev_iload (pc := 162) dX5_looks_162 rfl ?_
    obtain ⟨h23, hf⟩ := hf
    refine ev_iast (pc := 164) rfl rfl h23 rfl dX5_looks_164 ?_
    refine ev_aload_n (pc := 165) dX5_looks_165 rfl (i := 0) rfl ?_
    refine ev_aload_n (pc := 166) dX5_looks_166 rfl (i := 1) rfl ?_
    refine ev_iload_n (pc := 167) dX5_looks_167 rfl (i := 2) rfl ?_
    refine ev_iconst (pc := 168) (v := 1) dX5_looks_168 kc_1 ?_
    refine ev_iadd (pc := 169) dX5_looks_169 ?_
    refine ev_iload (pc := 170) dX5_looks_170 rfl ?_
    refine ev_callv (pc := 172) (stk := []) (ce_V (hrec (a2 + 1) v6 (st_up σ20 60 a2.toNatClampNeg v5) _ hf) wv_X5_45_X5_looks rfl (by decide) rfl (by omega) rfl (Nat.le_of_ble_eq_true rfl) rfl dX5_looks_172) (fun σ24 hf => ?_)
    refine ev_iinc (pc := 175) (v := v5 + 1) (L' := [some (.ref 53), some (.ref 21), some (.int a2), some (.int a3), some (.int v4), some (.int (v5 + 1)), some (.int v6)]) dX5_looks_175 rfl (by rw [kc_1]) (by decide) rfl rfl ?_
    refine ev_goto (pc := 178) (tgt := 65) dX5_looks_178 (by decide) ?_
    refine ev_mask [true, true, true, true, true, true, false] (L' := [some (.ref 53), some (.ref 21), some (.int a2), some (.int a3), some (.int v4), some (.int (v5 + 1)), none]) rfl ?_
    exact hagain65 _ _ _ hf
def f_X5_looks_L65 (rec : Int32 → Int32 → St → (St → Prop) → Prop) (a2 : Int32) (a3 : Int32) (post : St → Prop) : Nat → Int32 → Int32 → St → Prop
  | 0, _, _, _ => False
  | n + 1, v4, v5, σ => ((1 <<< ((σ.1 21 0) &&& 31)) ≤ v5 → (post σ)) ∧ (¬ (1 <<< ((σ.1 21 0) &&& 31)) ≤ v5 → (f_X0_isShift v5 σ (fun x9 σ8 => (¬ x9 = 0 → (vp_in a2 4 ∧ (f_X0_brings (56 + a2.toNatClampNeg) 6 v5 σ8 (fun x13 σ12 => (v4 = 0 → (f_X5_looks_J121_65 rec a2 a3 (f_X5_looks_L65 rec a2 a3 post n) post v4 v5 (a3 + x13) σ12)) ∧ (¬ v4 = 0 → (((σ12.1 53 0) < (a3 + x13) → (f_X5_looks_J121_65 rec a2 a3 (f_X5_looks_L65 rec a2 a3 post n) post v4 v5 (a3 + x13) σ12)) ∧ (¬ (σ12.1 53 0) < (a3 + x13) → ((f_X5_looks_L65 rec a2 a3 post n) v4 (v5 + 1) σ12)))))))) ∧ (x9 = 0 → ((f_X5_looks_L65 rec a2 a3 post n) v4 (v5 + 1) σ8)))))
set_option maxRecDepth 100000 in
set_option maxHeartbeats 4000000 in
theorem p_X5_looks_L65 {nd : Nat} (rec : Int32 → Int32 → St → (St → Prop) → Prop) (hrec : ∀ (a2q : Int32) (a3q : Int32) (τ : St) (post2 : St → Prop), rec a2q a3q τ post2 → Ct SX yX5_looks cX5_looks 7 none (3 + nd) (EQv SX post2) [.ref 53, .ref 21, .int a2q, .int a3q] τ) (a2 : Int32) (a3 : Int32) (post : St → Prop) : ∀ (n : Nat) (v4 : Int32) (v5 : Int32) (σ : St), f_X5_looks_L65 rec a2 a3 post n v4 v5 σ → Ev SX RX5 cX5_looks 7 none (3 + (nd + 1)) (EQv SX post) 65 [some (.ref 53), some (.ref 21), some (.int a2), some (.int a3), some (.int v4), some (.int v5), none] [] σ := by
  intro n
  induction n with
  | zero =>
    intro v4 v5 σ hf
    exact hf.elim
  | succ n hagain65 =>
    intro v4 v5 σ hf
    rw [f_X5_looks_L65] at hf
    refine ev_iload (pc := 65) dX5_looks_65 rfl ?_
    refine ev_iconst (pc := 67) (v := 1) dX5_looks_67 kc_1 ?_
    refine ev_aload_n (pc := 68) dX5_looks_68 rfl (i := 1) rfl ?_
    refine ev_get (pc := 69) fl_X5_40_0_0 rfl (by decide) rfl rfl dX5_looks_69 ?_
    refine ev_ishl (pc := 72) dX5_looks_72 ?_
    refine ev_icmp_ge (pc := 73) (tgt := 181) dX5_looks_73 (by decide) (fun c7 => ?_) (fun c7 => ?_)
    · have hf := hf.1 c7
      exact ev_vret (pc := 181) rfl dX5_looks_181 hf
    · have hf := hf.2 c7
      refine ev_aload_n (pc := 76) dX5_looks_76 rfl (i := 1) rfl ?_
      refine ev_iload (pc := 77) dX5_looks_77 rfl ?_
      refine ev_calli (pc := 79) (stk := []) (ce_V (c_X0_isShift v5 σ _ hf) wv_X5_57_X0_isShift rfl (by decide) rfl (by omega) rfl (Nat.le_of_ble_eq_true rfl) rfl dX5_looks_79) (fun x9 σ8 hf => ?_)
      refine ev_if_ne (pc := 82) (tgt := 88) dX5_looks_82 (by decide) (fun c10 => ?_) (fun c10 => ?_)
      · have hf := hf.1 c10
        refine ev_iload_n (pc := 88) dX5_looks_88 rfl (i := 3) rfl ?_
        refine ev_aload_n (pc := 89) dX5_looks_89 rfl (i := 1) rfl ?_
        refine ev_aload_n (pc := 90) dX5_looks_90 rfl (i := 0) rfl ?_
        refine ev_get (pc := 91) fl_X5_17_5_2 rfl (by decide) rfl rfl dX5_looks_91 ?_
        refine ev_iload_n (pc := 94) dX5_looks_94 rfl (i := 2) rfl ?_
        obtain ⟨h11, hf⟩ := hf
        refine ev_aald (pc := 95) (t := 4) rfl rfl rfl rfl h11 rfl dX5_looks_95 ?_
        refine ev_iload (pc := 96) dX5_looks_96 rfl ?_
        refine ev_calli (pc := 98) (stk := [.int a3]) (ce_V (c_X0_brings (56 + a2.toNatClampNeg) 6 v5 (kr_X_55 h11) σ8 _ hf) wv_X5_61_X0_brings rfl (by decide) rfl (by omega) rfl (Nat.le_of_ble_eq_true rfl) rfl dX5_looks_98) (fun x13 σ12 hf => ?_)
        refine ev_iadd (pc := 101) dX5_looks_101 ?_
        refine ev_istore (pc := 102) (L' := [some (.ref 53), some (.ref 21), some (.int a2), some (.int a3), some (.int v4), some (.int v5), some (.int (a3 + x13))]) dX5_looks_102 (by decide) rfl rfl ?_
        refine ev_iload (pc := 104) dX5_looks_104 rfl ?_
        refine ev_if_eq (pc := 106) (tgt := 121) dX5_looks_106 (by decide) (fun c14 => ?_) (fun c14 => ?_)
        · have hf := hf.1 c14
          exact p_X5_looks_J121_65 rec hrec a2 a3 (f_X5_looks_L65 rec a2 a3 post n) post hagain65 _ _ _ _ hf
        · have hf := hf.2 c14
          refine ev_iload (pc := 109) dX5_looks_109 rfl ?_
          refine ev_aload_n (pc := 111) dX5_looks_111 rfl (i := 0) rfl ?_
          refine ev_get (pc := 112) fl_X5_34_5_0 rfl (by decide) rfl rfl dX5_looks_112 ?_
          refine ev_icmp_gt (pc := 115) (tgt := 121) dX5_looks_115 (by decide) (fun c26 => ?_) (fun c26 => ?_)
          · have hf := hf.1 c26
            exact p_X5_looks_J121_65 rec hrec a2 a3 (f_X5_looks_L65 rec a2 a3 post n) post hagain65 _ _ _ _ hf
          · have hf := hf.2 c26
            refine ev_goto (pc := 118) (tgt := 175) dX5_looks_118 (by decide) ?_
            refine ev_iinc (pc := 175) (v := v5 + 1) (L' := [some (.ref 53), some (.ref 21), some (.int a2), some (.int a3), some (.int v4), some (.int (v5 + 1)), some (.int (a3 + x13))]) dX5_looks_175 rfl (by rw [kc_1]) (by decide) rfl rfl ?_
            refine ev_goto (pc := 178) (tgt := 65) dX5_looks_178 (by decide) ?_
            refine ev_mask [true, true, true, true, true, true, false] (L' := [some (.ref 53), some (.ref 21), some (.int a2), some (.int a3), some (.int v4), some (.int (v5 + 1)), none]) rfl ?_
            exact hagain65 _ _ _ hf
      · have hf := hf.2 c10
        refine ev_goto (pc := 85) (tgt := 175) dX5_looks_85 (by decide) ?_
        refine ev_iinc (pc := 175) (v := v5 + 1) (L' := [some (.ref 53), some (.ref 21), some (.int a2), some (.int a3), some (.int v4), some (.int (v5 + 1)), none]) dX5_looks_175 rfl (by rw [kc_1]) (by decide) rfl rfl ?_
        refine ev_goto (pc := 178) (tgt := 65) dX5_looks_178 (by decide) ?_
        exact hagain65 _ _ _ hf
def f_X5_looks_J34 (rec : Int32 → Int32 → St → (St → Prop) → Prop) (a2 : Int32) (a3 : Int32) (post : St → Prop) (s0 : Int32) (σ : St) : Prop := (s0 = 0 → (∃ n27 : Nat, f_X5_looks_L65 rec a2 a3 post n27 s0 0 σ)) ∧ (¬ s0 = 0 → (vp_in a2 4 ∧ (f_X5_ceiling (56 + a2.toNatClampNeg) 6 σ (fun x30 σ29 => ((σ29.1 53 0) < (a3 + x30) → (∃ n32 : Nat, f_X5_looks_L65 rec a2 a3 post n32 s0 0 σ29)) ∧ (¬ (σ29.1 53 0) < (a3 + x30) → (post σ29))))))
set_option maxRecDepth 100000 in
set_option maxHeartbeats 4000000 in
theorem p_X5_looks_J34 {nd : Nat} (rec : Int32 → Int32 → St → (St → Prop) → Prop) (hrec : ∀ (a2q : Int32) (a3q : Int32) (τ : St) (post2 : St → Prop), rec a2q a3q τ post2 → Ct SX yX5_looks cX5_looks 7 none (3 + nd) (EQv SX post2) [.ref 53, .ref 21, .int a2q, .int a3q] τ) (a2 : Int32) (a3 : Int32) (post : St → Prop) (s0 : Int32) (σ : St) (hf : f_X5_looks_J34 rec a2 a3 post s0 σ) : Ev SX RX5 cX5_looks 7 none (3 + (nd + 1)) (EQv SX post) 34 [some (.ref 53), some (.ref 21), some (.int a2), some (.int a3), none, none, none] [.int s0] σ := by
  rw [f_X5_looks_J34] at hf
  refine ev_istore (pc := 34) (L' := [some (.ref 53), some (.ref 21), some (.int a2), some (.int a3), some (.int s0), none, none]) dX5_looks_34 (by decide) rfl rfl ?_
  refine ev_iload (pc := 36) dX5_looks_36 rfl ?_
  refine ev_if_eq (pc := 38) (tgt := 62) dX5_looks_38 (by decide) (fun c6 => ?_) (fun c6 => ?_)
  · have hf := hf.1 c6
    refine ev_iconst (pc := 62) (v := 0) dX5_looks_62 kc_0 ?_
    refine ev_istore (pc := 63) (L' := [some (.ref 53), some (.ref 21), some (.int a2), some (.int a3), some (.int s0), some (.int 0), none]) dX5_looks_63 (by decide) rfl rfl ?_
    obtain ⟨n27, hf⟩ := hf
    exact p_X5_looks_L65 rec hrec a2 a3 post n27 _ _ _ hf
  · have hf := hf.2 c6
    refine ev_iload_n (pc := 41) dX5_looks_41 rfl (i := 3) rfl ?_
    refine ev_aload_n (pc := 42) dX5_looks_42 rfl (i := 0) rfl ?_
    refine ev_aload_n (pc := 43) dX5_looks_43 rfl (i := 1) rfl ?_
    refine ev_aload_n (pc := 44) dX5_looks_44 rfl (i := 0) rfl ?_
    refine ev_get (pc := 45) fl_X5_17_5_2 rfl (by decide) rfl rfl dX5_looks_45 ?_
    refine ev_iload_n (pc := 48) dX5_looks_48 rfl (i := 2) rfl ?_
    obtain ⟨h28, hf⟩ := hf
    refine ev_aald (pc := 49) (t := 4) rfl rfl rfl rfl h28 rfl dX5_looks_49 ?_
    refine ev_calli (pc := 50) (stk := [.int a3]) (ce_V (c_X5_ceiling (56 + a2.toNatClampNeg) 6 (kr_X_55 h28) σ _ hf) wv_X5_53_X5_ceiling rfl (by decide) rfl (by omega) rfl (Nat.le_of_ble_eq_true rfl) rfl dX5_looks_50) (fun x30 σ29 hf => ?_)
    refine ev_iadd (pc := 53) dX5_looks_53 ?_
    refine ev_aload_n (pc := 54) dX5_looks_54 rfl (i := 0) rfl ?_
    refine ev_get (pc := 55) fl_X5_34_5_0 rfl (by decide) rfl rfl dX5_looks_55 ?_
    refine ev_icmp_gt (pc := 58) (tgt := 62) dX5_looks_58 (by decide) (fun c31 => ?_) (fun c31 => ?_)
    · have hf := hf.1 c31
      refine ev_iconst (pc := 62) (v := 0) dX5_looks_62 kc_0 ?_
      refine ev_istore (pc := 63) (L' := [some (.ref 53), some (.ref 21), some (.int a2), some (.int a3), some (.int s0), some (.int 0), none]) dX5_looks_63 (by decide) rfl rfl ?_
      obtain ⟨n32, hf⟩ := hf
      exact p_X5_looks_L65 rec hrec a2 a3 post n32 _ _ _ hf
    · have hf := hf.2 c31
      exact ev_vret (pc := 61) rfl dX5_looks_61 hf
def f_X5_looks : Nat → Int32 → Int32 → St → (St → Prop) → Prop
  | 0, _, _, _, _ => False
  | nd + 1, a2, a3, σ, post => ((σ.1 53 4) ≤ a2 → (f_X5_takes a3 σ (fun σ2 => post σ2))) ∧ (¬ (σ.1 53 4) ≤ a2 → ((a2 < 3 → ((¬ a2 = ((σ.1 53 4) - 1) → (f_X5_looks_J34 (f_X5_looks nd) a2 a3 post 0 σ)) ∧ (a2 = ((σ.1 53 4) - 1) → (f_X5_looks_J34 (f_X5_looks nd) a2 a3 post 1 σ)))) ∧ (¬ a2 < 3 → (f_X5_takes a3 σ (fun σ33 => post σ33)))))
set_option maxRecDepth 100000 in
set_option maxHeartbeats 4000000 in
theorem c_X5_looks : ∀ (nd : Nat) (a2 : Int32) (a3 : Int32) (σ : St) (post : St → Prop), f_X5_looks nd a2 a3 σ post → Ct SX yX5_looks cX5_looks 7 none (3 + nd) (EQv SX post) [.ref 53, .ref 21, .int a2, .int a3] σ := by
  intro nd
  induction nd with
  | zero =>
    intro a2 a3 σ post hf
    exact hf.elim
  | succ nd hrec =>
    intro a2 a3 σ post hf
    rw [f_X5_looks] at hf
    refine ct_of (by decide) rfl (Nat.le_of_ble_eq_true rfl) ?_
    show Ev SX RX5 cX5_looks 7 none (3 + (nd + 1)) (EQv SX post) 0 [some (.ref 53), some (.ref 21), some (.int a2), some (.int a3), none, none, none] [] σ
    refine ev_iload_n (pc := 0) dX5_looks_0 rfl (i := 2) rfl ?_
    refine ev_aload_n (pc := 1) dX5_looks_1 rfl (i := 0) rfl ?_
    refine ev_get (pc := 2) fl_X5_23_5_4 rfl (by decide) rfl rfl dX5_looks_2 ?_
    refine ev_icmp_ge (pc := 5) (tgt := 13) dX5_looks_5 (by decide) (fun c1 => ?_) (fun c1 => ?_)
    · have hf := hf.1 c1
      refine ev_aload_n (pc := 13) dX5_looks_13 rfl (i := 0) rfl ?_
      refine ev_iload_n (pc := 14) dX5_looks_14 rfl (i := 3) rfl ?_
      refine ev_callv (pc := 15) (stk := []) (ce_V (c_X5_takes a3 σ _ hf) wv_X5_49_X5_takes rfl (by decide) rfl (by omega) rfl (Nat.le_of_ble_eq_true rfl) rfl dX5_looks_15) (fun σ2 hf => ?_)
      exact ev_vret (pc := 18) rfl dX5_looks_18 hf
    · have hf := hf.2 c1
      refine ev_iload_n (pc := 8) dX5_looks_8 rfl (i := 2) rfl ?_
      refine ev_iconst (pc := 9) (v := 3) dX5_looks_9 kc_3 ?_
      refine ev_icmp_lt (pc := 10) (tgt := 19) dX5_looks_10 (by decide) (fun c4 => ?_) (fun c4 => ?_)
      · have hf := hf.1 c4
        refine ev_iload_n (pc := 19) dX5_looks_19 rfl (i := 2) rfl ?_
        refine ev_aload_n (pc := 20) dX5_looks_20 rfl (i := 0) rfl ?_
        refine ev_get (pc := 21) fl_X5_23_5_4 rfl (by decide) rfl rfl dX5_looks_21 ?_
        refine ev_iconst (pc := 24) (v := 1) dX5_looks_24 kc_1 ?_
        refine ev_isub (pc := 25) dX5_looks_25 ?_
        refine ev_icmp_ne (pc := 26) (tgt := 33) dX5_looks_26 (by decide) (fun c5 => ?_) (fun c5 => ?_)
        · have hf := hf.1 c5
          refine ev_iconst (pc := 33) (v := 0) dX5_looks_33 kc_0 ?_
          exact p_X5_looks_J34 (f_X5_looks nd) hrec a2 a3 post _ _ hf
        · have hf := hf.2 c5
          refine ev_iconst (pc := 29) (v := 1) dX5_looks_29 kc_1 ?_
          refine ev_goto (pc := 30) (tgt := 34) dX5_looks_30 (by decide) ?_
          exact p_X5_looks_J34 (f_X5_looks nd) hrec a2 a3 post _ _ hf
      · have hf := hf.2 c4
        refine ev_aload_n (pc := 13) dX5_looks_13 rfl (i := 0) rfl ?_
        refine ev_iload_n (pc := 14) dX5_looks_14 rfl (i := 3) rfl ?_
        refine ev_callv (pc := 15) (stk := []) (ce_V (c_X5_takes a3 σ _ hf) wv_X5_49_X5_takes rfl (by decide) rfl (by omega) rfl (Nat.le_of_ble_eq_true rfl) rfl dX5_looks_15) (fun σ33 hf => ?_)
        exact ev_vret (pc := 18) rfl dX5_looks_18 hf
