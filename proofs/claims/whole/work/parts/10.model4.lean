def f_X12_sold_L49 (a1 : Int32) (a2 : Int32) (k96 : Int32 → Int32 → Int32 → Int32 → St → Prop) (post : Int32 → St → Prop) : Nat → Int32 → Int32 → Int32 → Int32 → Int32 → St → Prop
  | 0, _, _, _, _, _, _ => False
  | n + 1, v3, v4, v5, v6, v7, σ => ((σ.1 2 0) ≤ v7 → (k96 v3 v4 v5 v6 σ)) ∧ (¬ (σ.1 2 0) ≤ v7 → ((¬ ((v5 >>> (v7 &&& 31)) &&& 1) = 1 → ((f_X12_sold_L49 a1 a2 k96 post n) v3 v4 v5 (v6 + 0) (v7 + 1) σ)) ∧ (((v5 >>> (v7 &&& 31)) &&& 1) = 1 → (vp_in (6 + v7) 465 ∧ ((f_X12_sold_L49 a1 a2 k96 post n) v3 v4 v5 (v6 + (σ.1 8 ((6 + v7).toNatClampNeg))) (v7 + 1) σ)))))
set_option maxRecDepth 100000 in
set_option maxHeartbeats 4000000 in
theorem p_X12_sold_L49 (a1 : Int32) (a2 : Int32) (k96 : Int32 → Int32 → Int32 → Int32 → St → Prop) (post : Int32 → St → Prop) (hk96 : ∀ (v3 : Int32) (v4 : Int32) (v5 : Int32) (v6 : Int32) (τ : St), k96 v3 v4 v5 v6 τ → Ev SM RX12 cX12_sold 8 (some .int) 1 (EQi SM post) 96 [some (.ref 0), some (.int a1), some (.int a2), some (.int v3), some (.int v4), some (.int v5), some (.int v6), none] [] τ) : ∀ (n : Nat) (v3 : Int32) (v4 : Int32) (v5 : Int32) (v6 : Int32) (v7 : Int32) (σ : St), f_X12_sold_L49 a1 a2 k96 post n v3 v4 v5 v6 v7 σ → Ev SM RX12 cX12_sold 8 (some .int) 1 (EQi SM post) 49 [some (.ref 0), some (.int a1), some (.int a2), some (.int v3), some (.int v4), some (.int v5), some (.int v6), some (.int v7)] [] σ := by
  intro n
  induction n with
  | zero =>
    intro v3 v4 v5 v6 v7 σ hf
    exact hf.elim
  | succ n hagain49 =>
    intro v3 v4 v5 v6 v7 σ hf
    rw [f_X12_sold_L49] at hf
    refine ev_iload (pc := 49) dX12_sold_49 rfl ?_
    refine ev_aload_n (pc := 51) dX12_sold_51 rfl (i := 0) rfl ?_
    refine ev_get (pc := 52) fl_X12_13_12_3 rfl (by decide) rfl rfl dX12_sold_52 ?_
    refine ev_iconst (pc := 55) (v := 0) dX12_sold_55 kc_0 ?_
    refine ev_iald (pc := 56) rfl rfl ki_0_2 kn_0 dX12_sold_56 ?_
    refine ev_icmp_ge (pc := 57) (tgt := 96) dX12_sold_57 (by decide) (fun c8 => ?_) (fun c8 => ?_)
    · have hf := hf.1 c8
      refine ev_mask [true, true, true, true, true, true, true, false] (L' := [some (.ref 0), some (.int a1), some (.int a2), some (.int v3), some (.int v4), some (.int v5), some (.int v6), none]) rfl ?_
      exact hk96 _ _ _ _ _ hf
    · have hf := hf.2 c8
      refine ev_iload (pc := 60) dX12_sold_60 rfl ?_
      refine ev_iload (pc := 62) dX12_sold_62 rfl ?_
      refine ev_iload (pc := 64) dX12_sold_64 rfl ?_
      refine ev_ishr (pc := 66) dX12_sold_66 ?_
      refine ev_iconst (pc := 67) (v := 1) dX12_sold_67 kc_1 ?_
      refine ev_iand (pc := 68) dX12_sold_68 ?_
      refine ev_iconst (pc := 69) (v := 1) dX12_sold_69 kc_1 ?_
      refine ev_icmp_ne (pc := 70) (tgt := 86) dX12_sold_70 (by decide) (fun c9 => ?_) (fun c9 => ?_)
      · have hf := hf.1 c9
        refine ev_iconst (pc := 86) (v := 0) dX12_sold_86 kc_0 ?_
        refine ev_iadd (pc := 87) dX12_sold_87 ?_
        refine ev_istore (pc := 88) (L' := [some (.ref 0), some (.int a1), some (.int a2), some (.int v3), some (.int v4), some (.int v5), some (.int (v6 + 0)), some (.int v7)]) dX12_sold_88 (by decide) rfl rfl ?_
        refine ev_iinc (pc := 90) (v := v7 + 1) (L' := [some (.ref 0), some (.int a1), some (.int a2), some (.int v3), some (.int v4), some (.int v5), some (.int (v6 + 0)), some (.int (v7 + 1))]) dX12_sold_90 rfl (by rw [kc_1]) (by decide) rfl rfl ?_
        refine ev_goto (pc := 93) (tgt := 49) dX12_sold_93 (by decide) ?_
        exact hagain49 _ _ _ _ _ _ hf
      · have hf := hf.2 c9
        refine ev_aload_n (pc := 73) dX12_sold_73 rfl (i := 0) rfl ?_
        refine ev_get (pc := 74) fl_X12_32_12_16 rfl (by decide) rfl rfl dX12_sold_74 ?_
        refine ev_bipush (pc := 77) (v := 6) dX12_sold_77 kb_6 ?_
        refine ev_iload (pc := 79) dX12_sold_79 rfl ?_
        refine ev_iadd (pc := 81) dX12_sold_81 ?_
        obtain ⟨h10, hf⟩ := hf
        refine ev_iald (pc := 82) rfl rfl h10 rfl dX12_sold_82 ?_
        refine ev_goto (pc := 83) (tgt := 87) dX12_sold_83 (by decide) ?_
        refine ev_iadd (pc := 87) dX12_sold_87 ?_
        refine ev_istore (pc := 88) (L' := [some (.ref 0), some (.int a1), some (.int a2), some (.int v3), some (.int v4), some (.int v5), some (.int (v6 + (σ.1 8 ((6 + v7).toNatClampNeg)))), some (.int v7)]) dX12_sold_88 (by decide) rfl rfl ?_
        refine ev_iinc (pc := 90) (v := v7 + 1) (L' := [some (.ref 0), some (.int a1), some (.int a2), some (.int v3), some (.int v4), some (.int v5), some (.int (v6 + (σ.1 8 ((6 + v7).toNatClampNeg)))), some (.int (v7 + 1))]) dX12_sold_90 rfl (by rw [kc_1]) (by decide) rfl rfl ?_
        refine ev_goto (pc := 93) (tgt := 49) dX12_sold_93 (by decide) ?_
        exact hagain49 _ _ _ _ _ _ hf
def f_X12_sold_L30 (a1 : Int32) (a2 : Int32) (k122 : Int32 → Int32 → St → Prop) (post : Int32 → St → Prop) : Nat → Int32 → Int32 → Int32 → St → Prop
  | 0, _, _, _, _ => False
  | n + 1, v3, v4, v5, σ => ((1 <<< ((σ.1 2 0) &&& 31)) ≤ v5 → (k122 v3 v4 σ)) ∧ (¬ (1 <<< ((σ.1 2 0) &&& 31)) ≤ v5 → (∃ n18 : Nat, f_X12_sold_L49 a1 a2 (fun x12 x13 x14 x15 σ11 => (a1 < x15 → ((f_X12_sold_L30 a1 a2 k122 post n) x12 x13 (x14 + 1) σ11)) ∧ (¬ a1 < x15 → ((x15 ≤ x13 → ((f_X12_sold_L30 a1 a2 k122 post n) x12 x13 (x14 + 1) σ11)) ∧ (¬ x15 ≤ x13 → ((f_X12_sold_L30 a1 a2 k122 post n) x14 x15 (x14 + 1) σ11))))) post n18 v3 v4 v5 0 0 σ))
set_option maxRecDepth 100000 in
set_option maxHeartbeats 4000000 in
theorem p_X12_sold_L30 (a1 : Int32) (a2 : Int32) (k122 : Int32 → Int32 → St → Prop) (post : Int32 → St → Prop) (hk122 : ∀ (v3 : Int32) (v4 : Int32) (τ : St), k122 v3 v4 τ → Ev SM RX12 cX12_sold 8 (some .int) 1 (EQi SM post) 122 [some (.ref 0), some (.int a1), some (.int a2), some (.int v3), some (.int v4), none, none, none] [] τ) : ∀ (n : Nat) (v3 : Int32) (v4 : Int32) (v5 : Int32) (σ : St), f_X12_sold_L30 a1 a2 k122 post n v3 v4 v5 σ → Ev SM RX12 cX12_sold 8 (some .int) 1 (EQi SM post) 30 [some (.ref 0), some (.int a1), some (.int a2), some (.int v3), some (.int v4), some (.int v5), none, none] [] σ := by
  intro n
  induction n with
  | zero =>
    intro v3 v4 v5 σ hf
    exact hf.elim
  | succ n hagain30 =>
    intro v3 v4 v5 σ hf
    rw [f_X12_sold_L30] at hf
    refine ev_iload (pc := 30) dX12_sold_30 rfl ?_
    refine ev_iconst (pc := 32) (v := 1) dX12_sold_32 kc_1 ?_
    refine ev_aload_n (pc := 33) dX12_sold_33 rfl (i := 0) rfl ?_
    refine ev_get (pc := 34) fl_X12_13_12_3 rfl (by decide) rfl rfl dX12_sold_34 ?_
    refine ev_iconst (pc := 37) (v := 0) dX12_sold_37 kc_0 ?_
    refine ev_iald (pc := 38) rfl rfl ki_0_2 kn_0 dX12_sold_38 ?_
    refine ev_ishl (pc := 39) dX12_sold_39 ?_
    refine ev_icmp_ge (pc := 40) (tgt := 122) dX12_sold_40 (by decide) (fun c7 => ?_) (fun c7 => ?_)
    · have hf := hf.1 c7
      refine ev_mask [true, true, true, true, true, false, false, false] (L' := [some (.ref 0), some (.int a1), some (.int a2), some (.int v3), some (.int v4), none, none, none]) rfl ?_
      exact hk122 _ _ _ hf
    · have hf := hf.2 c7
      refine ev_iconst (pc := 43) (v := 0) dX12_sold_43 kc_0 ?_
      refine ev_istore (pc := 44) (L' := [some (.ref 0), some (.int a1), some (.int a2), some (.int v3), some (.int v4), some (.int v5), some (.int 0), none]) dX12_sold_44 (by decide) rfl rfl ?_
      refine ev_iconst (pc := 46) (v := 0) dX12_sold_46 kc_0 ?_
      refine ev_istore (pc := 47) (L' := [some (.ref 0), some (.int a1), some (.int a2), some (.int v3), some (.int v4), some (.int v5), some (.int 0), some (.int 0)]) dX12_sold_47 (by decide) rfl rfl ?_
      obtain ⟨n18, hf⟩ := hf
      exact p_X12_sold_L49 a1 a2 _ post (fun x12 x13 x14 x15 σ11 hf => by
        refine ev_iload (pc := 96) dX12_sold_96 rfl ?_
        refine ev_iload_n (pc := 98) dX12_sold_98 rfl (i := 1) rfl ?_
        refine ev_icmp_gt (pc := 99) (tgt := 116) dX12_sold_99 (by decide) (fun c16 => ?_) (fun c16 => ?_)
        · have hf := hf.1 c16
          refine ev_iinc (pc := 116) (v := x14 + 1) (L' := [some (.ref 0), some (.int a1), some (.int a2), some (.int x12), some (.int x13), some (.int (x14 + 1)), some (.int x15), none]) dX12_sold_116 rfl (by rw [kc_1]) (by decide) rfl rfl ?_
          refine ev_goto (pc := 119) (tgt := 30) dX12_sold_119 (by decide) ?_
          refine ev_mask [true, true, true, true, true, true, false, false] (L' := [some (.ref 0), some (.int a1), some (.int a2), some (.int x12), some (.int x13), some (.int (x14 + 1)), none, none]) rfl ?_
          exact hagain30 _ _ _ _ hf
        · have hf := hf.2 c16
          refine ev_iload (pc := 102) dX12_sold_102 rfl ?_
          refine ev_iload (pc := 104) dX12_sold_104 rfl ?_
          refine ev_icmp_le (pc := 106) (tgt := 116) dX12_sold_106 (by decide) (fun c17 => ?_) (fun c17 => ?_)
          · have hf := hf.1 c17
            refine ev_iinc (pc := 116) (v := x14 + 1) (L' := [some (.ref 0), some (.int a1), some (.int a2), some (.int x12), some (.int x13), some (.int (x14 + 1)), some (.int x15), none]) dX12_sold_116 rfl (by rw [kc_1]) (by decide) rfl rfl ?_
            refine ev_goto (pc := 119) (tgt := 30) dX12_sold_119 (by decide) ?_
            refine ev_mask [true, true, true, true, true, true, false, false] (L' := [some (.ref 0), some (.int a1), some (.int a2), some (.int x12), some (.int x13), some (.int (x14 + 1)), none, none]) rfl ?_
            exact hagain30 _ _ _ _ hf
          · have hf := hf.2 c17
            refine ev_iload (pc := 109) dX12_sold_109 rfl ?_
            refine ev_istore_n (pc := 111) (L' := [some (.ref 0), some (.int a1), some (.int a2), some (.int x14), some (.int x13), some (.int x14), some (.int x15), none]) dX12_sold_111 rfl (by decide) rfl rfl ?_
            refine ev_iload (pc := 112) dX12_sold_112 rfl ?_
            refine ev_istore (pc := 114) (L' := [some (.ref 0), some (.int a1), some (.int a2), some (.int x14), some (.int x15), some (.int x14), some (.int x15), none]) dX12_sold_114 (by decide) rfl rfl ?_
            refine ev_iinc (pc := 116) (v := x14 + 1) (L' := [some (.ref 0), some (.int a1), some (.int a2), some (.int x14), some (.int x15), some (.int (x14 + 1)), some (.int x15), none]) dX12_sold_116 rfl (by rw [kc_1]) (by decide) rfl rfl ?_
            refine ev_goto (pc := 119) (tgt := 30) dX12_sold_119 (by decide) ?_
            refine ev_mask [true, true, true, true, true, true, false, false] (L' := [some (.ref 0), some (.int a1), some (.int a2), some (.int x14), some (.int x15), some (.int (x14 + 1)), none, none]) rfl ?_
            exact hagain30 _ _ _ _ hf) n18 _ _ _ _ _ _ hf
def f_X12_sold (a1 : Int32) (a2 : Int32) (σ : St) (post : Int32 → St → Prop) : Prop := f_X12_in a1 0 999 σ (fun x2 σ1 => (x2 = 0 → (post (-1) σ1)) ∧ (¬ x2 = 0 → (f_X12_in a2 0 1 σ1 (fun x5 σ4 => (¬ x5 = 0 → (∃ n23 : Nat, f_X12_sold_L30 a1 a2 (fun x20 x21 σ19 => (¬ a2 = 0 → (post x20 σ19)) ∧ (a2 = 0 → (post x21 σ19))) post n23 0 0 0 σ4)) ∧ (x5 = 0 → (post (-1) σ4))))))
set_option maxRecDepth 100000 in
set_option maxHeartbeats 4000000 in
theorem c_X12_sold (a1 : Int32) (a2 : Int32) (σ : St) (post : Int32 → St → Prop) (hf : f_X12_sold a1 a2 σ post) : Ct SM yX12_sold cX12_sold 8 (some .int) 1 (EQi SM post) [.ref 0, .int a1, .int a2] σ := by
  rw [f_X12_sold] at hf
  refine ct_of (by decide) rfl (Nat.le_of_ble_eq_true rfl) ?_
  show Ev SM RX12 cX12_sold 8 (some .int) 1 (EQi SM post) 0 [some (.ref 0), some (.int a1), some (.int a2), none, none, none, none, none] [] σ
  refine ev_iload_n (pc := 0) dX12_sold_0 rfl (i := 1) rfl ?_
  refine ev_iconst (pc := 1) (v := 0) dX12_sold_1 kc_0 ?_
  refine ev_sipush (pc := 2) (v := 999) dX12_sold_2 ks_999 ?_
  refine ev_calli (pc := 5) (stk := []) (ce_S (c_X12_in a1 0 999 σ _ hf) wt_X12_69_X12_in  (by decide) rfl (Nat.le_of_ble_eq_true rfl) rfl dX12_sold_5) (fun x2 σ1 hf => ?_)
  refine ev_if_eq (pc := 8) (tgt := 20) dX12_sold_8 (by decide) (fun c3 => ?_) (fun c3 => ?_)
  · have hf := hf.1 c3
    refine ev_iconst (pc := 20) (v := (-1)) dX12_sold_20 kc_m1 ?_
    exact ev_iret (pc := 21) rfl dX12_sold_21 hf
  · have hf := hf.2 c3
    refine ev_iload_n (pc := 11) dX12_sold_11 rfl (i := 2) rfl ?_
    refine ev_iconst (pc := 12) (v := 0) dX12_sold_12 kc_0 ?_
    refine ev_iconst (pc := 13) (v := 1) dX12_sold_13 kc_1 ?_
    refine ev_calli (pc := 14) (stk := []) (ce_S (c_X12_in a2 0 1 σ1 _ hf) wt_X12_69_X12_in  (by decide) rfl (Nat.le_of_ble_eq_true rfl) rfl dX12_sold_14) (fun x5 σ4 hf => ?_)
    refine ev_if_ne (pc := 17) (tgt := 22) dX12_sold_17 (by decide) (fun c6 => ?_) (fun c6 => ?_)
    · have hf := hf.1 c6
      refine ev_iconst (pc := 22) (v := 0) dX12_sold_22 kc_0 ?_
      refine ev_istore_n (pc := 23) (L' := [some (.ref 0), some (.int a1), some (.int a2), some (.int 0), none, none, none, none]) dX12_sold_23 rfl (by decide) rfl rfl ?_
      refine ev_iconst (pc := 24) (v := 0) dX12_sold_24 kc_0 ?_
      refine ev_istore (pc := 25) (L' := [some (.ref 0), some (.int a1), some (.int a2), some (.int 0), some (.int 0), none, none, none]) dX12_sold_25 (by decide) rfl rfl ?_
      refine ev_iconst (pc := 27) (v := 0) dX12_sold_27 kc_0 ?_
      refine ev_istore (pc := 28) (L' := [some (.ref 0), some (.int a1), some (.int a2), some (.int 0), some (.int 0), some (.int 0), none, none]) dX12_sold_28 (by decide) rfl rfl ?_
      obtain ⟨n23, hf⟩ := hf
      exact p_X12_sold_L30 a1 a2 _ post (fun x20 x21 σ19 hf => by
        refine ev_iload_n (pc := 122) dX12_sold_122 rfl (i := 2) rfl ?_
        refine ev_if_ne (pc := 123) (tgt := 131) dX12_sold_123 (by decide) (fun c22 => ?_) (fun c22 => ?_)
        · have hf := hf.1 c22
          refine ev_iload_n (pc := 131) dX12_sold_131 rfl (i := 3) rfl ?_
          exact ev_iret (pc := 132) rfl dX12_sold_132 hf
        · have hf := hf.2 c22
          refine ev_iload (pc := 126) dX12_sold_126 rfl ?_
          refine ev_goto (pc := 128) (tgt := 132) dX12_sold_128 (by decide) ?_
          exact ev_iret (pc := 132) rfl dX12_sold_132 hf) n23 _ _ _ _ hf
    · have hf := hf.2 c6
      refine ev_iconst (pc := 20) (v := (-1)) dX12_sold_20 kc_m1 ?_
      exact ev_iret (pc := 21) rfl dX12_sold_21 hf
def f_X12_tells (a1 : Int32) (a2 : Int32) (σ : St) (post : Int32 → St → Prop) : Prop := f_X12_in a1 0 99 σ (fun x2 σ1 => (x2 = 0 → (post (-1) σ1)) ∧ (¬ x2 = 0 → (f_X12_in a2 0 299 σ1 (fun x5 σ4 => (¬ x5 = 0 → ((¬ (σ4.1 0 27) = 6 → (vp_in (σ4.1 0 27) 6 ∧ (∀ σ9 : St, σ9 = (st_up σ4 16 ((σ4.1 0 27).toNatClampNeg) a1) → (vp_in ((st_up σ4 16 ((σ4.1 0 27).toNatClampNeg) a1).1 0 27) 6 ∧ (∀ σ11 : St, σ11 = (st_up σ9 17 (((st_up σ4 16 ((σ4.1 0 27).toNatClampNeg) a1).1 0 27).toNatClampNeg) a2) → (post ((st_up σ11 0 27 (((st_up σ9 17 (((st_up σ4 16 ((σ4.1 0 27).toNatClampNeg) a1).1 0 27).toNatClampNeg) a2).1 0 27) + 1)).1 0 27) (st_up σ11 0 27 (((st_up σ9 17 (((st_up σ4 16 ((σ4.1 0 27).toNatClampNeg) a1).1 0 27).toNatClampNeg) a2).1 0 27) + 1)))))))) ∧ ((σ4.1 0 27) = 6 → (post (-3) σ4)))) ∧ (x5 = 0 → (post (-1) σ4))))))
set_option maxRecDepth 100000 in
set_option maxHeartbeats 4000000 in
theorem c_X12_tells (a1 : Int32) (a2 : Int32) (σ : St) (post : Int32 → St → Prop) (hf : f_X12_tells a1 a2 σ post) : Ct SM yX12_tells cX12_tells 3 (some .int) 1 (EQi SM post) [.ref 0, .int a1, .int a2] σ := by
  rw [f_X12_tells] at hf
  refine ct_of (by decide) rfl (Nat.le_of_ble_eq_true rfl) ?_
  show Ev SM RX12 cX12_tells 3 (some .int) 1 (EQi SM post) 0 [some (.ref 0), some (.int a1), some (.int a2)] [] σ
  refine ev_iload_n (pc := 0) dX12_tells_0 rfl (i := 1) rfl ?_
  refine ev_iconst (pc := 1) (v := 0) dX12_tells_1 kc_0 ?_
  refine ev_bipush (pc := 2) (v := 99) dX12_tells_2 kb_99 ?_
  refine ev_calli (pc := 4) (stk := []) (ce_S (c_X12_in a1 0 99 σ _ hf) wt_X12_69_X12_in  (by decide) rfl (Nat.le_of_ble_eq_true rfl) rfl dX12_tells_4) (fun x2 σ1 hf => ?_)
  refine ev_if_eq (pc := 7) (tgt := 21) dX12_tells_7 (by decide) (fun c3 => ?_) (fun c3 => ?_)
  · have hf := hf.1 c3
    refine ev_iconst (pc := 21) (v := (-1)) dX12_tells_21 kc_m1 ?_
    exact ev_iret (pc := 22) rfl dX12_tells_22 hf
  · have hf := hf.2 c3
    refine ev_iload_n (pc := 10) dX12_tells_10 rfl (i := 2) rfl ?_
    refine ev_iconst (pc := 11) (v := 0) dX12_tells_11 kc_0 ?_
    refine ev_sipush (pc := 12) (v := 299) dX12_tells_12 ks_299 ?_
    refine ev_calli (pc := 15) (stk := []) (ce_S (c_X12_in a2 0 299 σ1 _ hf) wt_X12_69_X12_in  (by decide) rfl (Nat.le_of_ble_eq_true rfl) rfl dX12_tells_15) (fun x5 σ4 hf => ?_)
    refine ev_if_ne (pc := 18) (tgt := 23) dX12_tells_18 (by decide) (fun c6 => ?_) (fun c6 => ?_)
    · have hf := hf.1 c6
      refine ev_aload_n (pc := 23) dX12_tells_23 rfl (i := 0) rfl ?_
      refine ev_get (pc := 24) fl_X12_121_12_27 rfl (by decide) rfl rfl dX12_tells_24 ?_
      refine ev_bipush (pc := 27) (v := 6) dX12_tells_27 kb_6 ?_
      refine ev_icmp_ne (pc := 29) (tgt := 35) dX12_tells_29 (by decide) (fun c7 => ?_) (fun c7 => ?_)
      · have hf := hf.1 c7
        refine ev_aload_n (pc := 35) dX12_tells_35 rfl (i := 0) rfl ?_
        refine ev_get (pc := 36) fl_X12_57_12_25 rfl (by decide) rfl rfl dX12_tells_36 ?_
        refine ev_aload_n (pc := 39) dX12_tells_39 rfl (i := 0) rfl ?_
        refine ev_get (pc := 40) fl_X12_121_12_27 rfl (by decide) rfl rfl dX12_tells_40 ?_
        refine ev_iload_n (pc := 43) dX12_tells_43 rfl (i := 1) rfl ?_
        obtain ⟨h8, hf⟩ := hf
        refine ev_iast (pc := 44) rfl rfl h8 rfl dX12_tells_44 ?_
        refine ev_aload_n (pc := 45) dX12_tells_45 rfl (i := 0) rfl ?_
        refine ev_get (pc := 46) fl_X12_60_12_26 rfl (by decide) rfl rfl dX12_tells_46 ?_
        refine ev_aload_n (pc := 49) dX12_tells_49 rfl (i := 0) rfl ?_
        refine ev_get (pc := 50) fl_X12_121_12_27 rfl (by decide) rfl rfl dX12_tells_50 ?_
        refine ev_iload_n (pc := 53) dX12_tells_53 rfl (i := 2) rfl ?_
        refine ev_nm (fun σ9 q9 => ?_)
        have hf := hf σ9 q9
        obtain ⟨h10, hf⟩ := hf
        refine ev_iast (pc := 54) rfl rfl h10 rfl dX12_tells_54 ?_
        refine ev_aload_n (pc := 55) dX12_tells_55 rfl (i := 0) rfl ?_
        refine ev_dup (pc := 56) dX12_tells_56 rfl ?_
        refine ev_get (pc := 57) fl_X12_121_12_27 rfl (by decide) rfl rfl dX12_tells_57 ?_
        refine ev_iconst (pc := 60) (v := 1) dX12_tells_60 kc_1 ?_
        refine ev_iadd (pc := 61) dX12_tells_61 ?_
        refine ev_nm (fun σ11 q11 => ?_)
        have hf := hf σ11 q11
        refine ev_puti (pc := 62) fp_X12_121_12_27 rfl (by decide) rfl rfl rfl dX12_tells_62 ?_
        refine ev_aload_n (pc := 65) dX12_tells_65 rfl (i := 0) rfl ?_
        refine ev_get (pc := 66) fl_X12_121_12_27 rfl (by decide) rfl rfl dX12_tells_66 ?_
        exact ev_iret (pc := 69) rfl dX12_tells_69 hf
      · have hf := hf.2 c7
        refine ev_bipush (pc := 32) (v := (-3)) dX12_tells_32 kb_m3 ?_
        exact ev_iret (pc := 34) rfl dX12_tells_34 hf
    · have hf := hf.2 c6
      refine ev_iconst (pc := 21) (v := (-1)) dX12_tells_21 kc_m1 ?_
      exact ev_iret (pc := 22) rfl dX12_tells_22 hf
def f_X12_grown (a0 : Int32) (a1 : Int32) (σ : St) (post : Int32 → St → Prop) : Prop := post ((a1 + (((a0 / 10) * a1) / 10)) + (a0 - a0 / 10 * 10)) σ
set_option maxRecDepth 100000 in
set_option maxHeartbeats 4000000 in
theorem c_X12_grown (a0 : Int32) (a1 : Int32) (σ : St) (post : Int32 → St → Prop) (hf : f_X12_grown a0 a1 σ post) : Ct SM yX12_grown cX12_grown 2 (some .int) 0 (EQi SM post) [.int a0, .int a1] σ := by
  rw [f_X12_grown] at hf
  refine ct_of (by decide) rfl (Nat.le_of_ble_eq_true rfl) ?_
  show Ev SM RX12 cX12_grown 2 (some .int) 0 (EQi SM post) 0 [some (.int a0), some (.int a1)] [] σ
  refine ev_iload_n (pc := 0) dX12_grown_0 rfl (i := 1) rfl ?_
  refine ev_iload_n (pc := 1) dX12_grown_1 rfl (i := 0) rfl ?_
  refine ev_bipush (pc := 2) (v := 10) dX12_grown_2 kb_10 ?_
  refine ev_idiv (pc := 4) dX12_grown_4 (by decide) ?_
  refine ev_iload_n (pc := 5) dX12_grown_5 rfl (i := 1) rfl ?_
  refine ev_imul (pc := 6) dX12_grown_6 ?_
  refine ev_bipush (pc := 7) (v := 10) dX12_grown_7 kb_10 ?_
  refine ev_idiv (pc := 9) dX12_grown_9 (by decide) ?_
  refine ev_iadd (pc := 10) dX12_grown_10 ?_
  refine ev_iload_n (pc := 11) dX12_grown_11 rfl (i := 0) rfl ?_
  refine ev_bipush (pc := 12) (v := 10) dX12_grown_12 kb_10 ?_
  refine ev_irem (pc := 14) dX12_grown_14 (by decide) ?_
  refine ev_iadd (pc := 15) dX12_grown_15 ?_
  exact ev_iret (pc := 16) rfl dX12_grown_16 hf
def f_X12_isFit_L4 (a1 : Int32) (post : Int32 → St → Prop) : Nat → Int32 → Int32 → St → Prop
  | 0, _, _, _ => False
  | n + 1, v2, v3, σ => ((σ.1 0 27) ≤ v3 → ((v2 = 0 ∨ v2 = 1) ∧ (post v2 σ))) ∧ (¬ (σ.1 0 27) ≤ v3 → ((v2 = 0 → ((f_X12_isFit_L4 a1 post n) 0 (v3 + 1) σ)) ∧ (¬ v2 = 0 → (vp_in v3 6 ∧ (f_X12_grown a1 (σ.1 16 v3.toNatClampNeg) σ (fun x6 σ5 => vp_in v3 6 ∧ ((¬ x6 = (σ5.1 17 v3.toNatClampNeg) → ((f_X12_isFit_L4 a1 post n) 0 (v3 + 1) σ5)) ∧ (x6 = (σ5.1 17 v3.toNatClampNeg) → ((f_X12_isFit_L4 a1 post n) 1 (v3 + 1) σ5)))))))))
set_option maxRecDepth 100000 in
set_option maxHeartbeats 4000000 in
theorem p_X12_isFit_L4 (a1 : Int32) (post : Int32 → St → Prop) : ∀ (n : Nat) (v2 : Int32) (v3 : Int32) (σ : St), f_X12_isFit_L4 a1 post n v2 v3 σ → Ev SM RX12 cX12_isFit 4 (some .boolean) 1 (EQi SM post) 4 [some (.ref 0), some (.int a1), some (.int v2), some (.int v3)] [] σ := by
  intro n
  induction n with
  | zero =>
    intro v2 v3 σ hf
    exact hf.elim
  | succ n hagain4 =>
    intro v2 v3 σ hf
    rw [f_X12_isFit_L4] at hf
    refine ev_iload_n (pc := 4) dX12_isFit_4 rfl (i := 3) rfl ?_
    refine ev_aload_n (pc := 5) dX12_isFit_5 rfl (i := 0) rfl ?_
    refine ev_get (pc := 6) fl_X12_121_12_27 rfl (by decide) rfl rfl dX12_isFit_6 ?_
    refine ev_icmp_ge (pc := 9) (tgt := 47) dX12_isFit_9 (by decide) (fun c1 => ?_) (fun c1 => ?_)
    · have hf := hf.1 c1
      refine ev_iload_n (pc := 47) dX12_isFit_47 rfl (i := 2) rfl ?_
      obtain ⟨h2, hf⟩ := hf
      exact ev_zret (pc := 48) rfl dX12_isFit_48 (nb_n h2) hf
    · have hf := hf.2 c1
      refine ev_iload_n (pc := 12) dX12_isFit_12 rfl (i := 2) rfl ?_
      refine ev_if_eq (pc := 13) (tgt := 39) dX12_isFit_13 (by decide) (fun c3 => ?_) (fun c3 => ?_)
      · have hf := hf.1 c3
        refine ev_iconst (pc := 39) (v := 0) dX12_isFit_39 kc_0 ?_
        refine ev_istore_n (pc := 40) (L' := [some (.ref 0), some (.int a1), some (.int 0), some (.int v3)]) dX12_isFit_40 rfl (by decide) rfl rfl ?_
        refine ev_iinc (pc := 41) (v := v3 + 1) (L' := [some (.ref 0), some (.int a1), some (.int 0), some (.int (v3 + 1))]) dX12_isFit_41 rfl (by rw [kc_1]) (by decide) rfl rfl ?_
        refine ev_goto (pc := 44) (tgt := 4) dX12_isFit_44 (by decide) ?_
        exact hagain4 _ _ _ hf
      · have hf := hf.2 c3
        refine ev_iload_n (pc := 16) dX12_isFit_16 rfl (i := 1) rfl ?_
        refine ev_aload_n (pc := 17) dX12_isFit_17 rfl (i := 0) rfl ?_
        refine ev_get (pc := 18) fl_X12_57_12_25 rfl (by decide) rfl rfl dX12_isFit_18 ?_
        refine ev_iload_n (pc := 21) dX12_isFit_21 rfl (i := 3) rfl ?_
        obtain ⟨h4, hf⟩ := hf
        refine ev_iald (pc := 22) rfl rfl h4 rfl dX12_isFit_22 ?_
        refine ev_calli (pc := 23) (stk := []) (ce_S (c_X12_grown a1 (σ.1 16 v3.toNatClampNeg) σ _ hf) wt_X12_173_X12_grown  (by decide) rfl (Nat.le_of_ble_eq_true rfl) rfl dX12_isFit_23) (fun x6 σ5 hf => ?_)
        refine ev_aload_n (pc := 26) dX12_isFit_26 rfl (i := 0) rfl ?_
        refine ev_get (pc := 27) fl_X12_60_12_26 rfl (by decide) rfl rfl dX12_isFit_27 ?_
        refine ev_iload_n (pc := 30) dX12_isFit_30 rfl (i := 3) rfl ?_
        obtain ⟨h7, hf⟩ := hf
        refine ev_iald (pc := 31) rfl rfl h7 rfl dX12_isFit_31 ?_
        refine ev_icmp_ne (pc := 32) (tgt := 39) dX12_isFit_32 (by decide) (fun c8 => ?_) (fun c8 => ?_)
        · have hf := hf.1 c8
          refine ev_iconst (pc := 39) (v := 0) dX12_isFit_39 kc_0 ?_
          refine ev_istore_n (pc := 40) (L' := [some (.ref 0), some (.int a1), some (.int 0), some (.int v3)]) dX12_isFit_40 rfl (by decide) rfl rfl ?_
          refine ev_iinc (pc := 41) (v := v3 + 1) (L' := [some (.ref 0), some (.int a1), some (.int 0), some (.int (v3 + 1))]) dX12_isFit_41 rfl (by rw [kc_1]) (by decide) rfl rfl ?_
          refine ev_goto (pc := 44) (tgt := 4) dX12_isFit_44 (by decide) ?_
          exact hagain4 _ _ _ hf
        · have hf := hf.2 c8
          refine ev_iconst (pc := 35) (v := 1) dX12_isFit_35 kc_1 ?_
          refine ev_goto (pc := 36) (tgt := 40) dX12_isFit_36 (by decide) ?_
          refine ev_istore_n (pc := 40) (L' := [some (.ref 0), some (.int a1), some (.int 1), some (.int v3)]) dX12_isFit_40 rfl (by decide) rfl rfl ?_
          refine ev_iinc (pc := 41) (v := v3 + 1) (L' := [some (.ref 0), some (.int a1), some (.int 1), some (.int (v3 + 1))]) dX12_isFit_41 rfl (by rw [kc_1]) (by decide) rfl rfl ?_
          refine ev_goto (pc := 44) (tgt := 4) dX12_isFit_44 (by decide) ?_
          exact hagain4 _ _ _ hf
def f_X12_isFit (a1 : Int32) (σ : St) (post : Int32 → St → Prop) : Prop := ∃ n9 : Nat, f_X12_isFit_L4 a1 post n9 1 0 σ
set_option maxRecDepth 100000 in
set_option maxHeartbeats 4000000 in
theorem c_X12_isFit (a1 : Int32) (σ : St) (post : Int32 → St → Prop) (hf : f_X12_isFit a1 σ post) : Ct SM yX12_isFit cX12_isFit 4 (some .boolean) 1 (EQi SM post) [.ref 0, .int a1] σ := by
  rw [f_X12_isFit] at hf
  refine ct_of (by decide) rfl (Nat.le_of_ble_eq_true rfl) ?_
  show Ev SM RX12 cX12_isFit 4 (some .boolean) 1 (EQi SM post) 0 [some (.ref 0), some (.int a1), none, none] [] σ
  refine ev_iconst (pc := 0) (v := 1) dX12_isFit_0 kc_1 ?_
  refine ev_istore_n (pc := 1) (L' := [some (.ref 0), some (.int a1), some (.int 1), none]) dX12_isFit_1 rfl (by decide) rfl rfl ?_
  refine ev_iconst (pc := 2) (v := 0) dX12_isFit_2 kc_0 ?_
  refine ev_istore_n (pc := 3) (L' := [some (.ref 0), some (.int a1), some (.int 1), some (.int 0)]) dX12_isFit_3 rfl (by decide) rfl rfl ?_
  obtain ⟨n9, hf⟩ := hf
  exact p_X12_isFit_L4 a1 post n9 _ _ _ hf
def f_X12_unlike_L20 (a1 : Int32) (k67 : Int32 → Int32 → Int32 → St → Prop) (post : Int32 → St → Prop) : Nat → Int32 → Int32 → Int32 → Int32 → St → Prop
  | 0, _, _, _, _, _ => False
  | n + 1, v2, v3, v4, v5, σ => (v3 ≤ v5 → (k67 v2 v3 v4 σ)) ∧ (¬ v3 ≤ v5 → ((v4 = 0 → (k67 v2 v3 v4 σ)) ∧ (¬ v4 = 0 → (f_X12_isFit v5 σ (fun x7 σ6 => (x7 = 0 → ((f_X12_unlike_L20 a1 k67 post n) v2 v3 1 (v5 + 1) σ6)) ∧ (¬ x7 = 0 → (f_X12_grown v5 a1 σ6 (fun x10 σ9 => f_X12_grown v3 a1 σ9 (fun x12 σ11 => (x10 = x12 → ((f_X12_unlike_L20 a1 k67 post n) v2 v3 0 (v5 + 1) σ11)) ∧ (¬ x10 = x12 → ((f_X12_unlike_L20 a1 k67 post n) v2 v3 1 (v5 + 1) σ11)))))))))))
set_option maxRecDepth 100000 in
set_option maxHeartbeats 4000000 in
theorem p_X12_unlike_L20 (a1 : Int32) (k67 : Int32 → Int32 → Int32 → St → Prop) (post : Int32 → St → Prop) (hk67 : ∀ (v2 : Int32) (v3 : Int32) (v4 : Int32) (τ : St), k67 v2 v3 v4 τ → Ev SM RX12 cX12_unlike 6 (some .int) 2 (EQi SM post) 67 [some (.ref 0), some (.int a1), some (.int v2), some (.int v3), some (.int v4), none] [] τ) : ∀ (n : Nat) (v2 : Int32) (v3 : Int32) (v4 : Int32) (v5 : Int32) (σ : St), f_X12_unlike_L20 a1 k67 post n v2 v3 v4 v5 σ → Ev SM RX12 cX12_unlike 6 (some .int) 2 (EQi SM post) 20 [some (.ref 0), some (.int a1), some (.int v2), some (.int v3), some (.int v4), some (.int v5)] [] σ := by
  intro n
  induction n with
  | zero =>
    intro v2 v3 v4 v5 σ hf
    exact hf.elim
  | succ n hagain20 =>
    intro v2 v3 v4 v5 σ hf
    rw [f_X12_unlike_L20] at hf
    refine ev_iload (pc := 20) dX12_unlike_20 rfl ?_
    refine ev_iload_n (pc := 22) dX12_unlike_22 rfl (i := 3) rfl ?_
    refine ev_icmp_ge (pc := 23) (tgt := 67) dX12_unlike_23 (by decide) (fun c4 => ?_) (fun c4 => ?_)
    · have hf := hf.1 c4
      refine ev_mask [true, true, true, true, true, false] (L' := [some (.ref 0), some (.int a1), some (.int v2), some (.int v3), some (.int v4), none]) rfl ?_
      exact hk67 _ _ _ _ hf
    · have hf := hf.2 c4
      refine ev_iload (pc := 26) dX12_unlike_26 rfl ?_
      refine ev_if_eq (pc := 28) (tgt := 67) dX12_unlike_28 (by decide) (fun c5 => ?_) (fun c5 => ?_)
      · have hf := hf.1 c5
        refine ev_mask [true, true, true, true, true, false] (L' := [some (.ref 0), some (.int a1), some (.int v2), some (.int v3), some (.int v4), none]) rfl ?_
        exact hk67 _ _ _ _ hf
      · have hf := hf.2 c5
        refine ev_aload_n (pc := 31) dX12_unlike_31 rfl (i := 0) rfl ?_
        refine ev_iload (pc := 32) dX12_unlike_32 rfl ?_
        refine ev_calli (pc := 34) (stk := []) (ce_V (c_X12_isFit v5 σ _ hf) wv_X12_176_X12_isFit rfl (by decide) rfl (by decide) rfl (Nat.le_of_ble_eq_true rfl) rfl dX12_unlike_34) (fun x7 σ6 hf => ?_)
        refine ev_if_eq (pc := 37) (tgt := 54) dX12_unlike_37 (by decide) (fun c8 => ?_) (fun c8 => ?_)
        · have hf := hf.1 c8
          refine ev_iconst (pc := 54) (v := 1) dX12_unlike_54 kc_1 ?_
          refine ev_goto (pc := 55) (tgt := 59) dX12_unlike_55 (by decide) ?_
          refine ev_istore (pc := 59) (L' := [some (.ref 0), some (.int a1), some (.int v2), some (.int v3), some (.int 1), some (.int v5)]) dX12_unlike_59 (by decide) rfl rfl ?_
          refine ev_iinc (pc := 61) (v := v5 + 1) (L' := [some (.ref 0), some (.int a1), some (.int v2), some (.int v3), some (.int 1), some (.int (v5 + 1))]) dX12_unlike_61 rfl (by rw [kc_1]) (by decide) rfl rfl ?_
          refine ev_goto (pc := 64) (tgt := 20) dX12_unlike_64 (by decide) ?_
          exact hagain20 _ _ _ _ _ hf
        · have hf := hf.2 c8
          refine ev_iload (pc := 40) dX12_unlike_40 rfl ?_
          refine ev_iload_n (pc := 42) dX12_unlike_42 rfl (i := 1) rfl ?_
          refine ev_calli (pc := 43) (stk := []) (ce_S (c_X12_grown v5 a1 σ6 _ hf) wt_X12_173_X12_grown  (by decide) rfl (Nat.le_of_ble_eq_true rfl) rfl dX12_unlike_43) (fun x10 σ9 hf => ?_)
          refine ev_iload_n (pc := 46) dX12_unlike_46 rfl (i := 3) rfl ?_
          refine ev_iload_n (pc := 47) dX12_unlike_47 rfl (i := 1) rfl ?_
          refine ev_calli (pc := 48) (stk := [.int x10]) (ce_S (c_X12_grown v3 a1 σ9 _ hf) wt_X12_173_X12_grown  (by decide) rfl (Nat.le_of_ble_eq_true rfl) rfl dX12_unlike_48) (fun x12 σ11 hf => ?_)
          refine ev_icmp_eq (pc := 51) (tgt := 58) dX12_unlike_51 (by decide) (fun c13 => ?_) (fun c13 => ?_)
          · have hf := hf.1 c13
            refine ev_iconst (pc := 58) (v := 0) dX12_unlike_58 kc_0 ?_
            refine ev_istore (pc := 59) (L' := [some (.ref 0), some (.int a1), some (.int v2), some (.int v3), some (.int 0), some (.int v5)]) dX12_unlike_59 (by decide) rfl rfl ?_
            refine ev_iinc (pc := 61) (v := v5 + 1) (L' := [some (.ref 0), some (.int a1), some (.int v2), some (.int v3), some (.int 0), some (.int (v5 + 1))]) dX12_unlike_61 rfl (by rw [kc_1]) (by decide) rfl rfl ?_
            refine ev_goto (pc := 64) (tgt := 20) dX12_unlike_64 (by decide) ?_
            exact hagain20 _ _ _ _ _ hf
          · have hf := hf.2 c13
            refine ev_iconst (pc := 54) (v := 1) dX12_unlike_54 kc_1 ?_
            refine ev_goto (pc := 55) (tgt := 59) dX12_unlike_55 (by decide) ?_
            refine ev_istore (pc := 59) (L' := [some (.ref 0), some (.int a1), some (.int v2), some (.int v3), some (.int 1), some (.int v5)]) dX12_unlike_59 (by decide) rfl rfl ?_
            refine ev_iinc (pc := 61) (v := v5 + 1) (L' := [some (.ref 0), some (.int a1), some (.int v2), some (.int v3), some (.int 1), some (.int (v5 + 1))]) dX12_unlike_61 rfl (by rw [kc_1]) (by decide) rfl rfl ?_
            refine ev_goto (pc := 64) (tgt := 20) dX12_unlike_64 (by decide) ?_
            exact hagain20 _ _ _ _ _ hf
def f_X12_unlike_J67_4 (a1 : Int32) (again4 : Int32 → Int32 → St → Prop) (post : Int32 → St → Prop) (v2 : Int32) (v3 : Int32) (v4 : Int32) (σ : St) : Prop := (v4 = 0 → (again4 (v2 + 0) (v3 + 1) σ)) ∧ (¬ v4 = 0 → (again4 (v2 + 1) (v3 + 1) σ))
set_option maxRecDepth 100000 in
set_option maxHeartbeats 4000000 in
theorem p_X12_unlike_J67_4 (a1 : Int32) (again4 : Int32 → Int32 → St → Prop) (post : Int32 → St → Prop) (hagain4 : ∀ (v2 : Int32) (v3 : Int32) (τ : St), again4 v2 v3 τ → Ev SM RX12 cX12_unlike 6 (some .int) 2 (EQi SM post) 4 [some (.ref 0), some (.int a1), some (.int v2), some (.int v3), none, none] [] τ) (v2 : Int32) (v3 : Int32) (v4 : Int32) (σ : St) (hf : f_X12_unlike_J67_4 a1 again4 post v2 v3 v4 σ) : Ev SM RX12 cX12_unlike 6 (some .int) 2 (EQi SM post) 67 [some (.ref 0), some (.int a1), some (.int v2), some (.int v3), some (.int v4), none] [] σ := by
  rw [f_X12_unlike_J67_4] at hf
  refine ev_iload_n (pc := 67) dX12_unlike_67 rfl (i := 2) rfl ?_
  refine ev_iload (pc := 68) dX12_unlike_68 rfl ?_
  refine ev_if_eq (pc := 70) (tgt := 77) dX12_unlike_70 (by decide) (fun c18 => ?_) (fun c18 => ?_)
  · have hf := hf.1 c18
    refine ev_iconst (pc := 77) (v := 0) dX12_unlike_77 kc_0 ?_
    refine ev_iadd (pc := 78) dX12_unlike_78 ?_
    refine ev_istore_n (pc := 79) (L' := [some (.ref 0), some (.int a1), some (.int (v2 + 0)), some (.int v3), some (.int v4), none]) dX12_unlike_79 rfl (by decide) rfl rfl ?_
    refine ev_iinc (pc := 80) (v := v3 + 1) (L' := [some (.ref 0), some (.int a1), some (.int (v2 + 0)), some (.int (v3 + 1)), some (.int v4), none]) dX12_unlike_80 rfl (by rw [kc_1]) (by decide) rfl rfl ?_
    refine ev_goto (pc := 83) (tgt := 4) dX12_unlike_83 (by decide) ?_
    refine ev_mask [true, true, true, true, false, false] (L' := [some (.ref 0), some (.int a1), some (.int (v2 + 0)), some (.int (v3 + 1)), none, none]) rfl ?_
    exact hagain4 _ _ _ hf
  · have hf := hf.2 c18
    refine ev_iconst (pc := 73) (v := 1) dX12_unlike_73 kc_1 ?_
    refine ev_goto (pc := 74) (tgt := 78) dX12_unlike_74 (by decide) ?_
    refine ev_iadd (pc := 78) dX12_unlike_78 ?_
    refine ev_istore_n (pc := 79) (L' := [some (.ref 0), some (.int a1), some (.int (v2 + 1)), some (.int v3), some (.int v4), none]) dX12_unlike_79 rfl (by decide) rfl rfl ?_
    refine ev_iinc (pc := 80) (v := v3 + 1) (L' := [some (.ref 0), some (.int a1), some (.int (v2 + 1)), some (.int (v3 + 1)), some (.int v4), none]) dX12_unlike_80 rfl (by rw [kc_1]) (by decide) rfl rfl ?_
    refine ev_goto (pc := 83) (tgt := 4) dX12_unlike_83 (by decide) ?_
    refine ev_mask [true, true, true, true, false, false] (L' := [some (.ref 0), some (.int a1), some (.int (v2 + 1)), some (.int (v3 + 1)), none, none]) rfl ?_
    exact hagain4 _ _ _ hf
def f_X12_unlike_L4 (a1 : Int32) (post : Int32 → St → Prop) : Nat → Int32 → Int32 → St → Prop
  | 0, _, _, _ => False
  | n + 1, v2, v3, σ => (100 ≤ v3 → (post v2 σ)) ∧ (¬ 100 ≤ v3 → (f_X12_isFit v3 σ (fun x3 σ2 => ∃ n19 : Nat, f_X12_unlike_L20 a1 (fun x15 x16 x17 σ14 => f_X12_unlike_J67_4 a1 (f_X12_unlike_L4 a1 post n) post x15 x16 x17 σ14) post n19 v2 v3 x3 0 σ2)))
set_option maxRecDepth 100000 in
set_option maxHeartbeats 4000000 in
theorem p_X12_unlike_L4 (a1 : Int32) (post : Int32 → St → Prop) : ∀ (n : Nat) (v2 : Int32) (v3 : Int32) (σ : St), f_X12_unlike_L4 a1 post n v2 v3 σ → Ev SM RX12 cX12_unlike 6 (some .int) 2 (EQi SM post) 4 [some (.ref 0), some (.int a1), some (.int v2), some (.int v3), none, none] [] σ := by
  intro n
  induction n with
  | zero =>
    intro v2 v3 σ hf
    exact hf.elim
  | succ n hagain4 =>
    intro v2 v3 σ hf
    rw [f_X12_unlike_L4] at hf
    refine ev_iload_n (pc := 4) dX12_unlike_4 rfl (i := 3) rfl ?_
    refine ev_bipush (pc := 5) (v := 100) dX12_unlike_5 kb_100 ?_
    refine ev_icmp_ge (pc := 7) (tgt := 86) dX12_unlike_7 (by decide) (fun c1 => ?_) (fun c1 => ?_)
    · have hf := hf.1 c1
      refine ev_iload_n (pc := 86) dX12_unlike_86 rfl (i := 2) rfl ?_
      exact ev_iret (pc := 87) rfl dX12_unlike_87 hf
    · have hf := hf.2 c1
      refine ev_aload_n (pc := 10) dX12_unlike_10 rfl (i := 0) rfl ?_
      refine ev_iload_n (pc := 11) dX12_unlike_11 rfl (i := 3) rfl ?_
      refine ev_calli (pc := 12) (stk := []) (ce_V (c_X12_isFit v3 σ _ hf) wv_X12_176_X12_isFit rfl (by decide) rfl (by decide) rfl (Nat.le_of_ble_eq_true rfl) rfl dX12_unlike_12) (fun x3 σ2 hf => ?_)
      refine ev_istore (pc := 15) (L' := [some (.ref 0), some (.int a1), some (.int v2), some (.int v3), some (.int x3), none]) dX12_unlike_15 (by decide) rfl rfl ?_
      refine ev_iconst (pc := 17) (v := 0) dX12_unlike_17 kc_0 ?_
      refine ev_istore (pc := 18) (L' := [some (.ref 0), some (.int a1), some (.int v2), some (.int v3), some (.int x3), some (.int 0)]) dX12_unlike_18 (by decide) rfl rfl ?_
      obtain ⟨n19, hf⟩ := hf
      exact p_X12_unlike_L20 a1 _ post (fun x15 x16 x17 σ14 hf => by
        exact p_X12_unlike_J67_4 a1 (f_X12_unlike_L4 a1 post n) post hagain4 _ _ _ _ hf) n19 _ _ _ _ _ hf
def f_X12_unlike (a1 : Int32) (σ : St) (post : Int32 → St → Prop) : Prop := ∃ n20 : Nat, f_X12_unlike_L4 a1 post n20 0 0 σ
set_option maxRecDepth 100000 in
set_option maxHeartbeats 4000000 in
theorem c_X12_unlike (a1 : Int32) (σ : St) (post : Int32 → St → Prop) (hf : f_X12_unlike a1 σ post) : Ct SM yX12_unlike cX12_unlike 6 (some .int) 2 (EQi SM post) [.ref 0, .int a1] σ := by
  rw [f_X12_unlike] at hf
  refine ct_of (by decide) rfl (Nat.le_of_ble_eq_true rfl) ?_
  show Ev SM RX12 cX12_unlike 6 (some .int) 2 (EQi SM post) 0 [some (.ref 0), some (.int a1), none, none, none, none] [] σ
  refine ev_iconst (pc := 0) (v := 0) dX12_unlike_0 kc_0 ?_
  refine ev_istore_n (pc := 1) (L' := [some (.ref 0), some (.int a1), some (.int 0), none, none, none]) dX12_unlike_1 rfl (by decide) rfl rfl ?_
  refine ev_iconst (pc := 2) (v := 0) dX12_unlike_2 kc_0 ?_
  refine ev_istore_n (pc := 3) (L' := [some (.ref 0), some (.int a1), some (.int 0), some (.int 0), none, none]) dX12_unlike_3 rfl (by decide) rfl rfl ?_
  obtain ⟨n20, hf⟩ := hf
  exact p_X12_unlike_L4 a1 post n20 _ _ _ hf
def f_X12_fit_L20 (a1 : Int32) (k46 : Int32 → Int32 → St → Prop) (post : Int32 → St → Prop) : Nat → Int32 → Int32 → Int32 → St → Prop
  | 0, _, _, _, _ => False
  | n + 1, v2, v3, v4, σ => (v4 < 0 → (k46 v2 v3 σ)) ∧ (¬ v4 < 0 → (f_X12_isFit v4 σ (fun x6 σ5 => (x6 = 0 → ((f_X12_fit_L20 a1 k46 post n) v2 v3 (v4 + (-1)) σ5)) ∧ (¬ x6 = 0 → ((f_X12_fit_L20 a1 k46 post n) (v2 + 1) v4 (v4 + (-1)) σ5)))))
set_option maxRecDepth 100000 in
set_option maxHeartbeats 4000000 in
theorem p_X12_fit_L20 (a1 : Int32) (k46 : Int32 → Int32 → St → Prop) (post : Int32 → St → Prop) (hk46 : ∀ (v2 : Int32) (v3 : Int32) (τ : St), k46 v2 v3 τ → Ev SM RX12 cX12_fit 8 (some .int) 3 (EQi SM post) 46 [some (.ref 0), some (.int a1), some (.int v2), some (.int v3), none, none, none, none] [] τ) : ∀ (n : Nat) (v2 : Int32) (v3 : Int32) (v4 : Int32) (σ : St), f_X12_fit_L20 a1 k46 post n v2 v3 v4 σ → Ev SM RX12 cX12_fit 8 (some .int) 3 (EQi SM post) 20 [some (.ref 0), some (.int a1), some (.int v2), some (.int v3), some (.int v4), none, none, none] [] σ := by
  intro n
  induction n with
  | zero =>
    intro v2 v3 v4 σ hf
    exact hf.elim
  | succ n hagain20 =>
    intro v2 v3 v4 σ hf
    rw [f_X12_fit_L20] at hf
    refine ev_iload (pc := 20) dX12_fit_20 rfl ?_
    refine ev_if_lt (pc := 22) (tgt := 46) dX12_fit_22 (by decide) (fun c4 => ?_) (fun c4 => ?_)
    · have hf := hf.1 c4
      refine ev_mask [true, true, true, true, false, false, false, false] (L' := [some (.ref 0), some (.int a1), some (.int v2), some (.int v3), none, none, none, none]) rfl ?_
      exact hk46 _ _ _ hf
    · have hf := hf.2 c4
      refine ev_aload_n (pc := 25) dX12_fit_25 rfl (i := 0) rfl ?_
      refine ev_iload (pc := 26) dX12_fit_26 rfl ?_
      refine ev_calli (pc := 28) (stk := []) (ce_V (c_X12_isFit v4 σ _ hf) wv_X12_176_X12_isFit rfl (by decide) rfl (by decide) rfl (Nat.le_of_ble_eq_true rfl) rfl dX12_fit_28) (fun x6 σ5 hf => ?_)
      refine ev_if_eq (pc := 31) (tgt := 40) dX12_fit_31 (by decide) (fun c7 => ?_) (fun c7 => ?_)
      · have hf := hf.1 c7
        refine ev_iinc (pc := 40) (v := v4 + (-1)) (L' := [some (.ref 0), some (.int a1), some (.int v2), some (.int v3), some (.int (v4 + (-1))), none, none, none]) dX12_fit_40 rfl (by rw [kc_m1]) (by decide) rfl rfl ?_
        refine ev_goto (pc := 43) (tgt := 20) dX12_fit_43 (by decide) ?_
        exact hagain20 _ _ _ _ hf
      · have hf := hf.2 c7
        refine ev_iload (pc := 34) dX12_fit_34 rfl ?_
        refine ev_istore_n (pc := 36) (L' := [some (.ref 0), some (.int a1), some (.int v2), some (.int v4), some (.int v4), none, none, none]) dX12_fit_36 rfl (by decide) rfl rfl ?_
        refine ev_iinc (pc := 37) (v := v2 + 1) (L' := [some (.ref 0), some (.int a1), some (.int (v2 + 1)), some (.int v4), some (.int v4), none, none, none]) dX12_fit_37 rfl (by rw [kc_1]) (by decide) rfl rfl ?_
        refine ev_iinc (pc := 40) (v := v4 + (-1)) (L' := [some (.ref 0), some (.int a1), some (.int (v2 + 1)), some (.int v4), some (.int (v4 + (-1))), none, none, none]) dX12_fit_40 rfl (by rw [kc_m1]) (by decide) rfl rfl ?_
        refine ev_goto (pc := 43) (tgt := 20) dX12_fit_43 (by decide) ?_
        exact hagain20 _ _ _ _ hf
def f_X12_fit_J55 (a1 : Int32) (post : Int32 → St → Prop) (v2 : Int32) (v3 : Int32) (σ : St) : Prop := (¬ a1 = 0 → ((¬ a1 = 1 → (post (-9) σ)) ∧ (a1 = 1 → (post v3 σ)))) ∧ (a1 = 0 → (post v2 σ))
set_option maxRecDepth 100000 in
set_option maxHeartbeats 4000000 in
theorem p_X12_fit_J55 (a1 : Int32) (post : Int32 → St → Prop) (v2 : Int32) (v3 : Int32) (σ : St) (hf : f_X12_fit_J55 a1 post v2 v3 σ) : Ev SM RX12 cX12_fit 8 (some .int) 3 (EQi SM post) 55 [some (.ref 0), some (.int a1), some (.int v2), some (.int v3), none, none, none, none] [] σ := by
  rw [f_X12_fit_J55] at hf
  refine ev_iload_n (pc := 55) dX12_fit_55 rfl (i := 1) rfl ?_
  refine ev_if_ne (pc := 56) (tgt := 63) dX12_fit_56 (by decide) (fun c12 => ?_) (fun c12 => ?_)
  · have hf := hf.1 c12
    refine ev_iload_n (pc := 63) dX12_fit_63 rfl (i := 1) rfl ?_
    refine ev_iconst (pc := 64) (v := 1) dX12_fit_64 kc_1 ?_
    refine ev_icmp_ne (pc := 65) (tgt := 72) dX12_fit_65 (by decide) (fun c13 => ?_) (fun c13 => ?_)
    · have hf := hf.1 c13
      refine ev_bipush (pc := 72) (v := (-9)) dX12_fit_72 kb_m9 ?_
      exact ev_iret (pc := 74) rfl dX12_fit_74 hf
    · have hf := hf.2 c13
      refine ev_iload_n (pc := 68) dX12_fit_68 rfl (i := 3) rfl ?_
      refine ev_goto (pc := 69) (tgt := 74) dX12_fit_69 (by decide) ?_
      exact ev_iret (pc := 74) rfl dX12_fit_74 hf
  · have hf := hf.2 c12
    refine ev_iload_n (pc := 59) dX12_fit_59 rfl (i := 2) rfl ?_
    refine ev_goto (pc := 60) (tgt := 74) dX12_fit_60 (by decide) ?_
    exact ev_iret (pc := 74) rfl dX12_fit_74 hf
def f_X12_fit_L84 (a1 : Int32) (post : Int32 → St → Prop) : Nat → Int32 → Int32 → Int32 → St → Prop
  | 0, _, _, _, _ => False
  | n + 1, v4, v5, v6, σ => (100 ≤ v6 → (post v4 σ)) ∧ (¬ 100 ≤ v6 → (f_X12_unlike v6 σ (fun x17 σ16 => (x17 ≤ v5 → ((f_X12_fit_L84 a1 post n) v4 v5 (v6 + 1) σ16)) ∧ (¬ x17 ≤ v5 → ((f_X12_fit_L84 a1 post n) v6 x17 (v6 + 1) σ16)))))
set_option maxRecDepth 100000 in
set_option maxHeartbeats 4000000 in
theorem p_X12_fit_L84 (a1 : Int32) (post : Int32 → St → Prop) : ∀ (n : Nat) (v4 : Int32) (v5 : Int32) (v6 : Int32) (σ : St), f_X12_fit_L84 a1 post n v4 v5 v6 σ → Ev SM RX12 cX12_fit 8 (some .int) 3 (EQi SM post) 84 [some (.ref 0), some (.int a1), none, none, some (.int v4), some (.int v5), some (.int v6), none] [] σ := by
  intro n
  induction n with
  | zero =>
    intro v4 v5 v6 σ hf
    exact hf.elim
  | succ n hagain84 =>
    intro v4 v5 v6 σ hf
    rw [f_X12_fit_L84] at hf
    refine ev_iload (pc := 84) dX12_fit_84 rfl ?_
    refine ev_bipush (pc := 86) (v := 100) dX12_fit_86 kb_100 ?_
    refine ev_icmp_ge (pc := 88) (tgt := 120) dX12_fit_88 (by decide) (fun c15 => ?_) (fun c15 => ?_)
    · have hf := hf.1 c15
      refine ev_iload (pc := 120) dX12_fit_120 rfl ?_
      exact ev_iret (pc := 122) rfl dX12_fit_122 hf
    · have hf := hf.2 c15
      refine ev_aload_n (pc := 91) dX12_fit_91 rfl (i := 0) rfl ?_
      refine ev_iload (pc := 92) dX12_fit_92 rfl ?_
      refine ev_calli (pc := 94) (stk := []) (ce_V (c_X12_unlike v6 σ _ hf) wv_X12_179_X12_unlike rfl (by decide) rfl (by decide) rfl (Nat.le_of_ble_eq_true rfl) rfl dX12_fit_94) (fun x17 σ16 hf => ?_)
      refine ev_istore (pc := 97) (L' := [some (.ref 0), some (.int a1), none, none, some (.int v4), some (.int v5), some (.int v6), some (.int x17)]) dX12_fit_97 (by decide) rfl rfl ?_
      refine ev_iload (pc := 99) dX12_fit_99 rfl ?_
      refine ev_iload (pc := 101) dX12_fit_101 rfl ?_
      refine ev_icmp_le (pc := 103) (tgt := 114) dX12_fit_103 (by decide) (fun c18 => ?_) (fun c18 => ?_)
      · have hf := hf.1 c18
        refine ev_iinc (pc := 114) (v := v6 + 1) (L' := [some (.ref 0), some (.int a1), none, none, some (.int v4), some (.int v5), some (.int (v6 + 1)), some (.int x17)]) dX12_fit_114 rfl (by rw [kc_1]) (by decide) rfl rfl ?_
        refine ev_goto (pc := 117) (tgt := 84) dX12_fit_117 (by decide) ?_
        refine ev_mask [true, true, false, false, true, true, true, false] (L' := [some (.ref 0), some (.int a1), none, none, some (.int v4), some (.int v5), some (.int (v6 + 1)), none]) rfl ?_
        exact hagain84 _ _ _ _ hf
      · have hf := hf.2 c18
        refine ev_iload (pc := 106) dX12_fit_106 rfl ?_
        refine ev_istore (pc := 108) (L' := [some (.ref 0), some (.int a1), none, none, some (.int v6), some (.int v5), some (.int v6), some (.int x17)]) dX12_fit_108 (by decide) rfl rfl ?_
        refine ev_iload (pc := 110) dX12_fit_110 rfl ?_
        refine ev_istore (pc := 112) (L' := [some (.ref 0), some (.int a1), none, none, some (.int v6), some (.int x17), some (.int v6), some (.int x17)]) dX12_fit_112 (by decide) rfl rfl ?_
        refine ev_iinc (pc := 114) (v := v6 + 1) (L' := [some (.ref 0), some (.int a1), none, none, some (.int v6), some (.int x17), some (.int (v6 + 1)), some (.int x17)]) dX12_fit_114 rfl (by rw [kc_1]) (by decide) rfl rfl ?_
        refine ev_goto (pc := 117) (tgt := 84) dX12_fit_117 (by decide) ?_
        refine ev_mask [true, true, false, false, true, true, true, false] (L' := [some (.ref 0), some (.int a1), none, none, some (.int v6), some (.int x17), some (.int (v6 + 1)), none]) rfl ?_
        exact hagain84 _ _ _ _ hf
def f_X12_fit (a1 : Int32) (σ : St) (post : Int32 → St → Prop) : Prop := f_X12_in a1 0 2 σ (fun x2 σ1 => (¬ x2 = 0 → (∃ n20 : Nat, f_X12_fit_L20 a1 (fun x9 x10 σ8 => (a1 < 2 → (f_X12_fit_J55 a1 post x9 x10 σ8)) ∧ (¬ a1 < 2 → ((¬ x9 = 0 → (∃ n19 : Nat, f_X12_fit_L84 a1 post n19 0 0 0 σ8)) ∧ (x9 = 0 → (f_X12_fit_J55 a1 post x9 x10 σ8))))) post n20 0 (-9) 99 σ1)) ∧ (x2 = 0 → (post (-1) σ1)))
set_option maxRecDepth 100000 in
set_option maxHeartbeats 4000000 in
theorem c_X12_fit (a1 : Int32) (σ : St) (post : Int32 → St → Prop) (hf : f_X12_fit a1 σ post) : Ct SM yX12_fit cX12_fit 8 (some .int) 3 (EQi SM post) [.ref 0, .int a1] σ := by
  rw [f_X12_fit] at hf
  refine ct_of (by decide) rfl (Nat.le_of_ble_eq_true rfl) ?_
  show Ev SM RX12 cX12_fit 8 (some .int) 3 (EQi SM post) 0 [some (.ref 0), some (.int a1), none, none, none, none, none, none] [] σ
  refine ev_iload_n (pc := 0) dX12_fit_0 rfl (i := 1) rfl ?_
  refine ev_iconst (pc := 1) (v := 0) dX12_fit_1 kc_0 ?_
  refine ev_iconst (pc := 2) (v := 2) dX12_fit_2 kc_2 ?_
  refine ev_calli (pc := 3) (stk := []) (ce_S (c_X12_in a1 0 2 σ _ hf) wt_X12_69_X12_in  (by decide) rfl (Nat.le_of_ble_eq_true rfl) rfl dX12_fit_3) (fun x2 σ1 hf => ?_)
  refine ev_if_ne (pc := 6) (tgt := 11) dX12_fit_6 (by decide) (fun c3 => ?_) (fun c3 => ?_)
  · have hf := hf.1 c3
    refine ev_iconst (pc := 11) (v := 0) dX12_fit_11 kc_0 ?_
    refine ev_istore_n (pc := 12) (L' := [some (.ref 0), some (.int a1), some (.int 0), none, none, none, none, none]) dX12_fit_12 rfl (by decide) rfl rfl ?_
    refine ev_bipush (pc := 13) (v := (-9)) dX12_fit_13 kb_m9 ?_
    refine ev_istore_n (pc := 15) (L' := [some (.ref 0), some (.int a1), some (.int 0), some (.int (-9)), none, none, none, none]) dX12_fit_15 rfl (by decide) rfl rfl ?_
    refine ev_bipush (pc := 16) (v := 99) dX12_fit_16 kb_99 ?_
    refine ev_istore (pc := 18) (L' := [some (.ref 0), some (.int a1), some (.int 0), some (.int (-9)), some (.int 99), none, none, none]) dX12_fit_18 (by decide) rfl rfl ?_
    obtain ⟨n20, hf⟩ := hf
    exact p_X12_fit_L20 a1 _ post (fun x9 x10 σ8 hf => by
      refine ev_iload_n (pc := 46) dX12_fit_46 rfl (i := 1) rfl ?_
      refine ev_iconst (pc := 47) (v := 2) dX12_fit_47 kc_2 ?_
      refine ev_icmp_lt (pc := 48) (tgt := 55) dX12_fit_48 (by decide) (fun c11 => ?_) (fun c11 => ?_)
      · have hf := hf.1 c11
        exact p_X12_fit_J55 a1 post _ _ _ hf
      · have hf := hf.2 c11
        refine ev_iload_n (pc := 51) dX12_fit_51 rfl (i := 2) rfl ?_
        refine ev_if_ne (pc := 52) (tgt := 75) dX12_fit_52 (by decide) (fun c14 => ?_) (fun c14 => ?_)
        · have hf := hf.1 c14
          refine ev_iconst (pc := 75) (v := 0) dX12_fit_75 kc_0 ?_
          refine ev_istore (pc := 76) (L' := [some (.ref 0), some (.int a1), some (.int x9), some (.int x10), some (.int 0), none, none, none]) dX12_fit_76 (by decide) rfl rfl ?_
          refine ev_iconst (pc := 78) (v := 0) dX12_fit_78 kc_0 ?_
          refine ev_istore (pc := 79) (L' := [some (.ref 0), some (.int a1), some (.int x9), some (.int x10), some (.int 0), some (.int 0), none, none]) dX12_fit_79 (by decide) rfl rfl ?_
          refine ev_iconst (pc := 81) (v := 0) dX12_fit_81 kc_0 ?_
          refine ev_istore (pc := 82) (L' := [some (.ref 0), some (.int a1), some (.int x9), some (.int x10), some (.int 0), some (.int 0), some (.int 0), none]) dX12_fit_82 (by decide) rfl rfl ?_
          refine ev_mask [true, true, false, false, true, true, true, false] (L' := [some (.ref 0), some (.int a1), none, none, some (.int 0), some (.int 0), some (.int 0), none]) rfl ?_
          obtain ⟨n19, hf⟩ := hf
          exact p_X12_fit_L84 a1 post n19 _ _ _ _ hf
        · have hf := hf.2 c14
          exact p_X12_fit_J55 a1 post _ _ _ hf) n20 _ _ _ _ hf
  · have hf := hf.2 c3
    refine ev_iconst (pc := 9) (v := (-1)) dX12_fit_9 kc_m1 ?_
    exact ev_iret (pc := 10) rfl dX12_fit_10 hf
def f_X12_below_L39 (a1 : Int32) (a2 : Int32) (a3 : Int32) (k70 : Int32 → Int32 → St → Prop) (post : Int32 → St → Prop) : Nat → Int32 → Int32 → Int32 → St → Prop
  | 0, _, _, _, _ => False
  | n + 1, v4, v5, v6, σ => ((σ.1 2 0) ≤ v6 → (k70 v4 v5 σ)) ∧ (¬ (σ.1 2 0) ≤ v6 → (vp_in (0 + v6) 465 ∧ ((f_X12_below_L39 a1 a2 a3 k70 post n) (v4 + (σ.1 8 ((0 + v6).toNatClampNeg))) v5 (v6 + 1) σ)))
set_option maxRecDepth 100000 in
set_option maxHeartbeats 4000000 in
theorem p_X12_below_L39 (a1 : Int32) (a2 : Int32) (a3 : Int32) (k70 : Int32 → Int32 → St → Prop) (post : Int32 → St → Prop) (hk70 : ∀ (v4 : Int32) (v5 : Int32) (τ : St), k70 v4 v5 τ → Ev SM RX12 cX12_below 9 (some .int) 1 (EQi SM post) 70 [some (.ref 0), some (.int a1), some (.int a2), some (.int a3), some (.int v4), some (.int v5), none, none, none] [] τ) : ∀ (n : Nat) (v4 : Int32) (v5 : Int32) (v6 : Int32) (σ : St), f_X12_below_L39 a1 a2 a3 k70 post n v4 v5 v6 σ → Ev SM RX12 cX12_below 9 (some .int) 1 (EQi SM post) 39 [some (.ref 0), some (.int a1), some (.int a2), some (.int a3), some (.int v4), some (.int v5), some (.int v6), none, none] [] σ := by
  intro n
  induction n with
  | zero =>
    intro v4 v5 v6 σ hf
    exact hf.elim
  | succ n hagain39 =>
    intro v4 v5 v6 σ hf
    rw [f_X12_below_L39] at hf
    refine ev_iload (pc := 39) dX12_below_39 rfl ?_
    refine ev_aload_n (pc := 41) dX12_below_41 rfl (i := 0) rfl ?_
    refine ev_get (pc := 42) fl_X12_13_12_3 rfl (by decide) rfl rfl dX12_below_42 ?_
    refine ev_iconst (pc := 45) (v := 0) dX12_below_45 kc_0 ?_
    refine ev_iald (pc := 46) rfl rfl ki_0_2 kn_0 dX12_below_46 ?_
    refine ev_icmp_ge (pc := 47) (tgt := 70) dX12_below_47 (by decide) (fun c10 => ?_) (fun c10 => ?_)
    · have hf := hf.1 c10
      refine ev_mask [true, true, true, true, true, true, false, false, false] (L' := [some (.ref 0), some (.int a1), some (.int a2), some (.int a3), some (.int v4), some (.int v5), none, none, none]) rfl ?_
      exact hk70 _ _ _ hf
    · have hf := hf.2 c10
      refine ev_iload (pc := 50) dX12_below_50 rfl ?_
      refine ev_aload_n (pc := 52) dX12_below_52 rfl (i := 0) rfl ?_
      refine ev_get (pc := 53) fl_X12_32_12_16 rfl (by decide) rfl rfl dX12_below_53 ?_
      refine ev_iconst (pc := 56) (v := 0) dX12_below_56 kc_0 ?_
      refine ev_iload (pc := 57) dX12_below_57 rfl ?_
      refine ev_iadd (pc := 59) dX12_below_59 ?_
      obtain ⟨h11, hf⟩ := hf
      refine ev_iald (pc := 60) rfl rfl h11 rfl dX12_below_60 ?_
      refine ev_iadd (pc := 61) dX12_below_61 ?_
      refine ev_istore (pc := 62) (L' := [some (.ref 0), some (.int a1), some (.int a2), some (.int a3), some (.int (v4 + (σ.1 8 ((0 + v6).toNatClampNeg)))), some (.int v5), some (.int v6), none, none]) dX12_below_62 (by decide) rfl rfl ?_
      refine ev_iinc (pc := 64) (v := v6 + 1) (L' := [some (.ref 0), some (.int a1), some (.int a2), some (.int a3), some (.int (v4 + (σ.1 8 ((0 + v6).toNatClampNeg)))), some (.int v5), some (.int (v6 + 1)), none, none]) dX12_below_64 rfl (by rw [kc_1]) (by decide) rfl rfl ?_
      refine ev_goto (pc := 67) (tgt := 39) dX12_below_67 (by decide) ?_
      exact hagain39 _ _ _ _ hf
def f_X12_below_L73 (a1 : Int32) (a2 : Int32) (a3 : Int32) (k101 : Int32 → Int32 → St → Prop) (post : Int32 → St → Prop) : Nat → Int32 → Int32 → Int32 → St → Prop
  | 0, _, _, _, _ => False
  | n + 1, v4, v5, v6, σ => (a2 ≤ v6 → (k101 v4 v5 σ)) ∧ (¬ a2 ≤ v6 → ((f_X12_below_L73 a1 a2 a3 k101 post n) (v4 * (10 - a1)) (v5 * 10) (v6 + 1) σ))
set_option maxRecDepth 100000 in
set_option maxHeartbeats 4000000 in
theorem p_X12_below_L73 (a1 : Int32) (a2 : Int32) (a3 : Int32) (k101 : Int32 → Int32 → St → Prop) (post : Int32 → St → Prop) (hk101 : ∀ (v4 : Int32) (v5 : Int32) (τ : St), k101 v4 v5 τ → Ev SM RX12 cX12_below 9 (some .int) 1 (EQi SM post) 101 [some (.ref 0), some (.int a1), some (.int a2), some (.int a3), some (.int v4), some (.int v5), none, none, none] [] τ) : ∀ (n : Nat) (v4 : Int32) (v5 : Int32) (v6 : Int32) (σ : St), f_X12_below_L73 a1 a2 a3 k101 post n v4 v5 v6 σ → Ev SM RX12 cX12_below 9 (some .int) 1 (EQi SM post) 73 [some (.ref 0), some (.int a1), some (.int a2), some (.int a3), some (.int v4), some (.int v5), some (.int v6), none, none] [] σ := by
  intro n
  induction n with
  | zero =>
    intro v4 v5 v6 σ hf
    exact hf.elim
  | succ n hagain73 =>
    intro v4 v5 v6 σ hf
    rw [f_X12_below_L73] at hf
    refine ev_iload (pc := 73) dX12_below_73 rfl ?_
    refine ev_iload_n (pc := 75) dX12_below_75 rfl (i := 2) rfl ?_
    refine ev_icmp_ge (pc := 76) (tgt := 101) dX12_below_76 (by decide) (fun c15 => ?_) (fun c15 => ?_)
    · have hf := hf.1 c15
      refine ev_mask [true, true, true, true, true, true, false, false, false] (L' := [some (.ref 0), some (.int a1), some (.int a2), some (.int a3), some (.int v4), some (.int v5), none, none, none]) rfl ?_
      exact hk101 _ _ _ hf
    · have hf := hf.2 c15
      refine ev_iload (pc := 79) dX12_below_79 rfl ?_
      refine ev_bipush (pc := 81) (v := 10) dX12_below_81 kb_10 ?_
      refine ev_iload_n (pc := 83) dX12_below_83 rfl (i := 1) rfl ?_
      refine ev_isub (pc := 84) dX12_below_84 ?_
      refine ev_imul (pc := 85) dX12_below_85 ?_
      refine ev_istore (pc := 86) (L' := [some (.ref 0), some (.int a1), some (.int a2), some (.int a3), some (.int (v4 * (10 - a1))), some (.int v5), some (.int v6), none, none]) dX12_below_86 (by decide) rfl rfl ?_
      refine ev_iload (pc := 88) dX12_below_88 rfl ?_
      refine ev_bipush (pc := 90) (v := 10) dX12_below_90 kb_10 ?_
      refine ev_imul (pc := 92) dX12_below_92 ?_
      refine ev_istore (pc := 93) (L' := [some (.ref 0), some (.int a1), some (.int a2), some (.int a3), some (.int (v4 * (10 - a1))), some (.int (v5 * 10)), some (.int v6), none, none]) dX12_below_93 (by decide) rfl rfl ?_
      refine ev_iinc (pc := 95) (v := v6 + 1) (L' := [some (.ref 0), some (.int a1), some (.int a2), some (.int a3), some (.int (v4 * (10 - a1))), some (.int (v5 * 10)), some (.int (v6 + 1)), none, none]) dX12_below_95 rfl (by rw [kc_1]) (by decide) rfl rfl ?_
      refine ev_goto (pc := 98) (tgt := 73) dX12_below_98 (by decide) ?_
      exact hagain73 _ _ _ _ hf
def f_X12_below_L109 (a1 : Int32) (a2 : Int32) (a3 : Int32) (k132 : Int32 → Int32 → Int32 → St → Prop) (post : Int32 → St → Prop) : Nat → Int32 → Int32 → Int32 → Int32 → St → Prop
  | 0, _, _, _, _, _ => False
  | n + 1, v4, v5, v6, v7, σ => (v7 = 0 → (k132 v4 v5 v6 σ)) ∧ (¬ v7 = 0 → (¬ v7 = 0 ∧ ((f_X12_below_L109 a1 a2 a3 k132 post n) v4 v5 v7 (v6 - v6 / v7 * v7) σ)))
set_option maxRecDepth 100000 in
set_option maxHeartbeats 4000000 in
theorem p_X12_below_L109 (a1 : Int32) (a2 : Int32) (a3 : Int32) (k132 : Int32 → Int32 → Int32 → St → Prop) (post : Int32 → St → Prop) (hk132 : ∀ (v4 : Int32) (v5 : Int32) (v6 : Int32) (τ : St), k132 v4 v5 v6 τ → Ev SM RX12 cX12_below 9 (some .int) 1 (EQi SM post) 132 [some (.ref 0), some (.int a1), some (.int a2), some (.int a3), some (.int v4), some (.int v5), some (.int v6), none, none] [] τ) : ∀ (n : Nat) (v4 : Int32) (v5 : Int32) (v6 : Int32) (v7 : Int32) (σ : St), f_X12_below_L109 a1 a2 a3 k132 post n v4 v5 v6 v7 σ → Ev SM RX12 cX12_below 9 (some .int) 1 (EQi SM post) 109 [some (.ref 0), some (.int a1), some (.int a2), some (.int a3), some (.int v4), some (.int v5), some (.int v6), some (.int v7), none] [] σ := by
  intro n
  induction n with
  | zero =>
    intro v4 v5 v6 v7 σ hf
    exact hf.elim
  | succ n hagain109 =>
    intro v4 v5 v6 v7 σ hf
    rw [f_X12_below_L109] at hf
    refine ev_iload (pc := 109) dX12_below_109 rfl ?_
    refine ev_if_eq (pc := 111) (tgt := 132) dX12_below_111 (by decide) (fun c19 => ?_) (fun c19 => ?_)
    · have hf := hf.1 c19
      refine ev_mask [true, true, true, true, true, true, true, false, false] (L' := [some (.ref 0), some (.int a1), some (.int a2), some (.int a3), some (.int v4), some (.int v5), some (.int v6), none, none]) rfl ?_
      exact hk132 _ _ _ _ hf
    · have hf := hf.2 c19
      refine ev_iload (pc := 114) dX12_below_114 rfl ?_
      refine ev_iload (pc := 116) dX12_below_116 rfl ?_
      obtain ⟨h20, hf⟩ := hf
      refine ev_irem (pc := 118) dX12_below_118 h20 ?_
      refine ev_istore (pc := 119) (L' := [some (.ref 0), some (.int a1), some (.int a2), some (.int a3), some (.int v4), some (.int v5), some (.int v6), some (.int v7), some (.int (v6 - v6 / v7 * v7))]) dX12_below_119 (by decide) rfl rfl ?_
      refine ev_iload (pc := 121) dX12_below_121 rfl ?_
      refine ev_istore (pc := 123) (L' := [some (.ref 0), some (.int a1), some (.int a2), some (.int a3), some (.int v4), some (.int v5), some (.int v7), some (.int v7), some (.int (v6 - v6 / v7 * v7))]) dX12_below_123 (by decide) rfl rfl ?_
      refine ev_iload (pc := 125) dX12_below_125 rfl ?_
      refine ev_istore (pc := 127) (L' := [some (.ref 0), some (.int a1), some (.int a2), some (.int a3), some (.int v4), some (.int v5), some (.int v7), some (.int (v6 - v6 / v7 * v7)), some (.int (v6 - v6 / v7 * v7))]) dX12_below_127 (by decide) rfl rfl ?_
      refine ev_goto (pc := 129) (tgt := 109) dX12_below_129 (by decide) ?_
      refine ev_mask [true, true, true, true, true, true, true, true, false] (L' := [some (.ref 0), some (.int a1), some (.int a2), some (.int a3), some (.int v4), some (.int v5), some (.int v7), some (.int (v6 - v6 / v7 * v7)), none]) rfl ?_
      exact hagain109 _ _ _ _ _ hf
def f_X12_below (a1 : Int32) (a2 : Int32) (a3 : Int32) (σ : St) (post : Int32 → St → Prop) : Prop := f_X12_in a1 0 10 σ (fun x2 σ1 => (x2 = 0 → (post (-1) σ1)) ∧ (¬ x2 = 0 → (f_X12_in a2 0 4 σ1 (fun x5 σ4 => (x5 = 0 → (post (-1) σ4)) ∧ (¬ x5 = 0 → (f_X12_in a3 0 1 σ4 (fun x8 σ7 => (¬ x8 = 0 → (∃ n30 : Nat, f_X12_below_L39 a1 a2 a3 (fun x13 x14 σ12 => ∃ n29 : Nat, f_X12_below_L73 a1 a2 a3 (fun x17 x18 σ16 => ∃ n28 : Nat, f_X12_below_L109 a1 a2 a3 (fun x22 x23 x24 σ21 => (¬ a3 = 0 → (¬ x24 = 0 ∧ (post (x23 / x24) σ21))) ∧ (a3 = 0 → (¬ x24 = 0 ∧ (post (x22 / x24) σ21)))) post n28 x17 x18 x17 x18 σ16) post n29 x13 x14 0 σ12) post n30 0 1 0 σ7)) ∧ (x8 = 0 → (post (-1) σ7)))))))))
set_option maxRecDepth 100000 in
set_option maxHeartbeats 4000000 in
theorem c_X12_below (a1 : Int32) (a2 : Int32) (a3 : Int32) (σ : St) (post : Int32 → St → Prop) (hf : f_X12_below a1 a2 a3 σ post) : Ct SM yX12_below cX12_below 9 (some .int) 1 (EQi SM post) [.ref 0, .int a1, .int a2, .int a3] σ := by
  rw [f_X12_below] at hf
  refine ct_of (by decide) rfl (Nat.le_of_ble_eq_true rfl) ?_
  show Ev SM RX12 cX12_below 9 (some .int) 1 (EQi SM post) 0 [some (.ref 0), some (.int a1), some (.int a2), some (.int a3), none, none, none, none, none] [] σ
  refine ev_iload_n (pc := 0) dX12_below_0 rfl (i := 1) rfl ?_
  refine ev_iconst (pc := 1) (v := 0) dX12_below_1 kc_0 ?_
  refine ev_bipush (pc := 2) (v := 10) dX12_below_2 kb_10 ?_
  refine ev_calli (pc := 4) (stk := []) (ce_S (c_X12_in a1 0 10 σ _ hf) wt_X12_69_X12_in  (by decide) rfl (Nat.le_of_ble_eq_true rfl) rfl dX12_below_4) (fun x2 σ1 hf => ?_)
  refine ev_if_eq (pc := 7) (tgt := 28) dX12_below_7 (by decide) (fun c3 => ?_) (fun c3 => ?_)
  · have hf := hf.1 c3
    refine ev_iconst (pc := 28) (v := (-1)) dX12_below_28 kc_m1 ?_
    exact ev_iret (pc := 29) rfl dX12_below_29 hf
  · have hf := hf.2 c3
    refine ev_iload_n (pc := 10) dX12_below_10 rfl (i := 2) rfl ?_
    refine ev_iconst (pc := 11) (v := 0) dX12_below_11 kc_0 ?_
    refine ev_iconst (pc := 12) (v := 4) dX12_below_12 kc_4 ?_
    refine ev_calli (pc := 13) (stk := []) (ce_S (c_X12_in a2 0 4 σ1 _ hf) wt_X12_69_X12_in  (by decide) rfl (Nat.le_of_ble_eq_true rfl) rfl dX12_below_13) (fun x5 σ4 hf => ?_)
    refine ev_if_eq (pc := 16) (tgt := 28) dX12_below_16 (by decide) (fun c6 => ?_) (fun c6 => ?_)
    · have hf := hf.1 c6
      refine ev_iconst (pc := 28) (v := (-1)) dX12_below_28 kc_m1 ?_
      exact ev_iret (pc := 29) rfl dX12_below_29 hf
    · have hf := hf.2 c6
      refine ev_iload_n (pc := 19) dX12_below_19 rfl (i := 3) rfl ?_
      refine ev_iconst (pc := 20) (v := 0) dX12_below_20 kc_0 ?_
      refine ev_iconst (pc := 21) (v := 1) dX12_below_21 kc_1 ?_
      refine ev_calli (pc := 22) (stk := []) (ce_S (c_X12_in a3 0 1 σ4 _ hf) wt_X12_69_X12_in  (by decide) rfl (Nat.le_of_ble_eq_true rfl) rfl dX12_below_22) (fun x8 σ7 hf => ?_)
      refine ev_if_ne (pc := 25) (tgt := 30) dX12_below_25 (by decide) (fun c9 => ?_) (fun c9 => ?_)
      · have hf := hf.1 c9
        refine ev_iconst (pc := 30) (v := 0) dX12_below_30 kc_0 ?_
        refine ev_istore (pc := 31) (L' := [some (.ref 0), some (.int a1), some (.int a2), some (.int a3), some (.int 0), none, none, none, none]) dX12_below_31 (by decide) rfl rfl ?_
        refine ev_iconst (pc := 33) (v := 1) dX12_below_33 kc_1 ?_
        refine ev_istore (pc := 34) (L' := [some (.ref 0), some (.int a1), some (.int a2), some (.int a3), some (.int 0), some (.int 1), none, none, none]) dX12_below_34 (by decide) rfl rfl ?_
        refine ev_iconst (pc := 36) (v := 0) dX12_below_36 kc_0 ?_
        refine ev_istore (pc := 37) (L' := [some (.ref 0), some (.int a1), some (.int a2), some (.int a3), some (.int 0), some (.int 1), some (.int 0), none, none]) dX12_below_37 (by decide) rfl rfl ?_
        obtain ⟨n30, hf⟩ := hf
        exact p_X12_below_L39 a1 a2 a3 _ post (fun x13 x14 σ12 hf => by
          refine ev_iconst (pc := 70) (v := 0) dX12_below_70 kc_0 ?_
          refine ev_istore (pc := 71) (L' := [some (.ref 0), some (.int a1), some (.int a2), some (.int a3), some (.int x13), some (.int x14), some (.int 0), none, none]) dX12_below_71 (by decide) rfl rfl ?_
          obtain ⟨n29, hf⟩ := hf
          exact p_X12_below_L73 a1 a2 a3 _ post (fun x17 x18 σ16 hf => by
            refine ev_iload (pc := 101) dX12_below_101 rfl ?_
            refine ev_istore (pc := 103) (L' := [some (.ref 0), some (.int a1), some (.int a2), some (.int a3), some (.int x17), some (.int x18), some (.int x17), none, none]) dX12_below_103 (by decide) rfl rfl ?_
            refine ev_iload (pc := 105) dX12_below_105 rfl ?_
            refine ev_istore (pc := 107) (L' := [some (.ref 0), some (.int a1), some (.int a2), some (.int a3), some (.int x17), some (.int x18), some (.int x17), some (.int x18), none]) dX12_below_107 (by decide) rfl rfl ?_
            obtain ⟨n28, hf⟩ := hf
            exact p_X12_below_L109 a1 a2 a3 _ post (fun x22 x23 x24 σ21 hf => by
              refine ev_iload_n (pc := 132) dX12_below_132 rfl (i := 3) rfl ?_
              refine ev_if_ne (pc := 133) (tgt := 144) dX12_below_133 (by decide) (fun c25 => ?_) (fun c25 => ?_)
              · have hf := hf.1 c25
                refine ev_iload (pc := 144) dX12_below_144 rfl ?_
                refine ev_iload (pc := 146) dX12_below_146 rfl ?_
                obtain ⟨h26, hf⟩ := hf
                refine ev_idiv (pc := 148) dX12_below_148 h26 ?_
                exact ev_iret (pc := 149) rfl dX12_below_149 hf
              · have hf := hf.2 c25
                refine ev_iload (pc := 136) dX12_below_136 rfl ?_
                refine ev_iload (pc := 138) dX12_below_138 rfl ?_
                obtain ⟨h27, hf⟩ := hf
                refine ev_idiv (pc := 140) dX12_below_140 h27 ?_
                refine ev_goto (pc := 141) (tgt := 149) dX12_below_141 (by decide) ?_
                exact ev_iret (pc := 149) rfl dX12_below_149 hf) n28 _ _ _ _ _ hf) n29 _ _ _ _ hf) n30 _ _ _ _ hf
      · have hf := hf.2 c9
        refine ev_iconst (pc := 28) (v := (-1)) dX12_below_28 kc_m1 ?_
        exact ev_iret (pc := 29) rfl dX12_below_29 hf
def f_X12_mark_L50 (a1 : Int32) (a2 : Int32) (k94 : Int32 → Int32 → Int32 → St → Prop) (post : Int32 → St → Prop) : Nat → Int32 → Int32 → Int32 → Int32 → St → Prop
  | 0, _, _, _, _, _ => False
  | n + 1, v3, v4, v5, v6, σ => ((σ.1 2 0) ≤ v6 → (k94 v3 v4 v5 σ)) ∧ (¬ (σ.1 2 0) ≤ v6 → ((¬ v6 = a2 → (vp_in ((6 * a2) + v6) 72 ∧ ((f_X12_mark_L50 a1 a2 k94 post n) v3 v4 (v5 + (σ.1 5 (((6 * a2) + v6).toNatClampNeg))) (v6 + 1) σ))) ∧ (v6 = a2 → ((f_X12_mark_L50 a1 a2 k94 post n) v3 v4 (v5 + 0) (v6 + 1) σ))))
set_option maxRecDepth 100000 in
set_option maxHeartbeats 4000000 in
theorem p_X12_mark_L50 (a1 : Int32) (a2 : Int32) (k94 : Int32 → Int32 → Int32 → St → Prop) (post : Int32 → St → Prop) (hk94 : ∀ (v3 : Int32) (v4 : Int32) (v5 : Int32) (τ : St), k94 v3 v4 v5 τ → Ev SM RX12 cX12_mark 7 (some .int) 2 (EQi SM post) 94 [some (.ref 0), some (.int a1), some (.int a2), some (.int v3), some (.int v4), some (.int v5), none] [] τ) : ∀ (n : Nat) (v3 : Int32) (v4 : Int32) (v5 : Int32) (v6 : Int32) (σ : St), f_X12_mark_L50 a1 a2 k94 post n v3 v4 v5 v6 σ → Ev SM RX12 cX12_mark 7 (some .int) 2 (EQi SM post) 50 [some (.ref 0), some (.int a1), some (.int a2), some (.int v3), some (.int v4), some (.int v5), some (.int v6)] [] σ := by
  intro n
  induction n with
  | zero =>
    intro v3 v4 v5 v6 σ hf
    exact hf.elim
  | succ n hagain50 =>
    intro v3 v4 v5 v6 σ hf
    rw [f_X12_mark_L50] at hf
    refine ev_iload (pc := 50) dX12_mark_50 rfl ?_
    refine ev_aload_n (pc := 52) dX12_mark_52 rfl (i := 0) rfl ?_
    refine ev_get (pc := 53) fl_X12_13_12_3 rfl (by decide) rfl rfl dX12_mark_53 ?_
    refine ev_iconst (pc := 56) (v := 0) dX12_mark_56 kc_0 ?_
    refine ev_iald (pc := 57) rfl rfl ki_0_2 kn_0 dX12_mark_57 ?_
    refine ev_icmp_ge (pc := 58) (tgt := 94) dX12_mark_58 (by decide) (fun c11 => ?_) (fun c11 => ?_)
    · have hf := hf.1 c11
      refine ev_mask [true, true, true, true, true, true, false] (L' := [some (.ref 0), some (.int a1), some (.int a2), some (.int v3), some (.int v4), some (.int v5), none]) rfl ?_
      exact hk94 _ _ _ _ hf
    · have hf := hf.2 c11
      refine ev_iload (pc := 61) dX12_mark_61 rfl ?_
      refine ev_iload (pc := 63) dX12_mark_63 rfl ?_
      refine ev_iload_n (pc := 65) dX12_mark_65 rfl (i := 2) rfl ?_
      refine ev_icmp_ne (pc := 66) (tgt := 73) dX12_mark_66 (by decide) (fun c12 => ?_) (fun c12 => ?_)
      · have hf := hf.1 c12
        refine ev_aload_n (pc := 73) dX12_mark_73 rfl (i := 0) rfl ?_
        refine ev_get (pc := 74) fl_X12_23_12_6 rfl (by decide) rfl rfl dX12_mark_74 ?_
        refine ev_bipush (pc := 77) (v := 6) dX12_mark_77 kb_6 ?_
        refine ev_iload_n (pc := 79) dX12_mark_79 rfl (i := 2) rfl ?_
        refine ev_imul (pc := 80) dX12_mark_80 ?_
        refine ev_iload (pc := 81) dX12_mark_81 rfl ?_
        refine ev_iadd (pc := 83) dX12_mark_83 ?_
        obtain ⟨h13, hf⟩ := hf
        refine ev_iald (pc := 84) rfl rfl h13 rfl dX12_mark_84 ?_
        refine ev_iadd (pc := 85) dX12_mark_85 ?_
        refine ev_istore (pc := 86) (L' := [some (.ref 0), some (.int a1), some (.int a2), some (.int v3), some (.int v4), some (.int (v5 + (σ.1 5 (((6 * a2) + v6).toNatClampNeg)))), some (.int v6)]) dX12_mark_86 (by decide) rfl rfl ?_
        refine ev_iinc (pc := 88) (v := v6 + 1) (L' := [some (.ref 0), some (.int a1), some (.int a2), some (.int v3), some (.int v4), some (.int (v5 + (σ.1 5 (((6 * a2) + v6).toNatClampNeg)))), some (.int (v6 + 1))]) dX12_mark_88 rfl (by rw [kc_1]) (by decide) rfl rfl ?_
        refine ev_goto (pc := 91) (tgt := 50) dX12_mark_91 (by decide) ?_
        exact hagain50 _ _ _ _ _ hf
      · have hf := hf.2 c12
        refine ev_iconst (pc := 69) (v := 0) dX12_mark_69 kc_0 ?_
        refine ev_goto (pc := 70) (tgt := 85) dX12_mark_70 (by decide) ?_
        refine ev_iadd (pc := 85) dX12_mark_85 ?_
        refine ev_istore (pc := 86) (L' := [some (.ref 0), some (.int a1), some (.int a2), some (.int v3), some (.int v4), some (.int (v5 + 0)), some (.int v6)]) dX12_mark_86 (by decide) rfl rfl ?_
        refine ev_iinc (pc := 88) (v := v6 + 1) (L' := [some (.ref 0), some (.int a1), some (.int a2), some (.int v3), some (.int v4), some (.int (v5 + 0)), some (.int (v6 + 1))]) dX12_mark_88 rfl (by rw [kc_1]) (by decide) rfl rfl ?_
        refine ev_goto (pc := 91) (tgt := 50) dX12_mark_91 (by decide) ?_
        exact hagain50 _ _ _ _ _ hf
def f_X12_mark (a1 : Int32) (a2 : Int32) (σ : St) (post : Int32 → St → Prop) : Prop := f_X12_in a1 0 5 σ (fun x2 σ1 => (x2 = 0 → (post (-1000000) σ1)) ∧ (¬ x2 = 0 → (f_X12_isMan a2 σ1 (fun x5 σ4 => (¬ x5 = 0 → (vp_in (0 + a2) 465 ∧ (vp_in (6 + a2) 465 ∧ (∀ y9 : Int32, y9 = (((σ4.1 8 ((0 + a2).toNatClampNeg)) / 2) - (σ4.1 8 ((6 + a2).toNatClampNeg))) → (∃ n25 : Nat, f_X12_mark_L50 a1 a2 (fun x15 x16 x17 σ14 => (a1 = 0 → (post x15 (st_lo σ14 0 ((σ14.2 0) + 1)))) ∧ (a1 = 1 → (vp_in a2 12 ∧ (post (x15 + ((st_lo σ14 0 ((σ14.2 0) + 11)).1 3 a2.toNatClampNeg)) (st_lo σ14 0 ((σ14.2 0) + 11))))) ∧ (a1 = 2 → (post x16 (st_lo σ14 0 ((σ14.2 0) + 101)))) ∧ (a1 = 3 → (vp_in a2 12 ∧ (post (2 * (x15 + ((st_lo σ14 0 ((σ14.2 0) + 1011)).1 3 a2.toNatClampNeg))) (st_lo σ14 0 ((σ14.2 0) + 1011))))) ∧ (a1 = 4 → (post (x16 + x17) (st_lo σ14 0 ((σ14.2 0) + 10101)))) ∧ (¬ a1 = 0 → ¬ a1 = 1 → ¬ a1 = 2 → ¬ a1 = 3 → ¬ a1 = 4 → (post (x15 + ((st_lo σ14 0 ((σ14.2 0) + 100001)).1 8 13)) (st_lo σ14 0 ((σ14.2 0) + 100001))))) post n25 ((σ4.1 8 ((0 + a2).toNatClampNeg)) / 2) y9 0 0 σ4))))) ∧ (x5 = 0 → (post (-1000000) σ4))))))
set_option maxRecDepth 100000 in
set_option maxHeartbeats 4000000 in
theorem c_X12_mark (a1 : Int32) (a2 : Int32) (σ : St) (post : Int32 → St → Prop) (hf : f_X12_mark a1 a2 σ post) : Ct SM yX12_mark cX12_mark 7 (some .int) 2 (EQi SM post) [.ref 0, .int a1, .int a2] σ := by
  rw [f_X12_mark] at hf
  refine ct_of (by decide) rfl (Nat.le_of_ble_eq_true rfl) ?_
  show Ev SM RX12 cX12_mark 7 (some .int) 2 (EQi SM post) 0 [some (.ref 0), some (.int a1), some (.int a2), none, none, none, none] [] σ
  refine ev_iload_n (pc := 0) dX12_mark_0 rfl (i := 1) rfl ?_
  refine ev_iconst (pc := 1) (v := 0) dX12_mark_1 kc_0 ?_
  refine ev_iconst (pc := 2) (v := 5) dX12_mark_2 kc_5 ?_
  refine ev_calli (pc := 3) (stk := []) (ce_S (c_X12_in a1 0 5 σ _ hf) wt_X12_69_X12_in  (by decide) rfl (Nat.le_of_ble_eq_true rfl) rfl dX12_mark_3) (fun x2 σ1 hf => ?_)
  refine ev_if_eq (pc := 6) (tgt := 17) dX12_mark_6 (by decide) (fun c3 => ?_) (fun c3 => ?_)
  · have hf := hf.1 c3
    refine ev_ldc (pc := 17) wk_X12_139 dX12_mark_17 ?_
    exact ev_iret (pc := 19) rfl dX12_mark_19 hf
  · have hf := hf.2 c3
    refine ev_aload_n (pc := 9) dX12_mark_9 rfl (i := 0) rfl ?_
    refine ev_iload_n (pc := 10) dX12_mark_10 rfl (i := 2) rfl ?_
    refine ev_calli (pc := 11) (stk := []) (ce_V (c_X12_isMan a2 σ1 _ hf) wv_X12_136_X12_isMan rfl (by decide) rfl (by decide) rfl (Nat.le_of_ble_eq_true rfl) rfl dX12_mark_11) (fun x5 σ4 hf => ?_)
    refine ev_if_ne (pc := 14) (tgt := 20) dX12_mark_14 (by decide) (fun c6 => ?_) (fun c6 => ?_)
    · have hf := hf.1 c6
      refine ev_aload_n (pc := 20) dX12_mark_20 rfl (i := 0) rfl ?_
      refine ev_get (pc := 21) fl_X12_32_12_16 rfl (by decide) rfl rfl dX12_mark_21 ?_
      refine ev_iconst (pc := 24) (v := 0) dX12_mark_24 kc_0 ?_
      refine ev_iload_n (pc := 25) dX12_mark_25 rfl (i := 2) rfl ?_
      refine ev_iadd (pc := 26) dX12_mark_26 ?_
      obtain ⟨h7, hf⟩ := hf
      refine ev_iald (pc := 27) rfl rfl h7 rfl dX12_mark_27 ?_
      refine ev_iconst (pc := 28) (v := 2) dX12_mark_28 kc_2 ?_
      refine ev_idiv (pc := 29) dX12_mark_29 (by decide) ?_
      refine ev_istore_n (pc := 30) (L' := [some (.ref 0), some (.int a1), some (.int a2), some (.int ((σ4.1 8 ((0 + a2).toNatClampNeg)) / 2)), none, none, none]) dX12_mark_30 rfl (by decide) rfl rfl ?_
      refine ev_iload_n (pc := 31) dX12_mark_31 rfl (i := 3) rfl ?_
      refine ev_aload_n (pc := 32) dX12_mark_32 rfl (i := 0) rfl ?_
      refine ev_get (pc := 33) fl_X12_32_12_16 rfl (by decide) rfl rfl dX12_mark_33 ?_
      refine ev_bipush (pc := 36) (v := 6) dX12_mark_36 kb_6 ?_
      refine ev_iload_n (pc := 38) dX12_mark_38 rfl (i := 2) rfl ?_
      refine ev_iadd (pc := 39) dX12_mark_39 ?_
      obtain ⟨h8, hf⟩ := hf
      refine ev_iald (pc := 40) rfl rfl h8 rfl dX12_mark_40 ?_
      refine ev_isub (pc := 41) dX12_mark_41 ?_
      refine ev_nmi (fun y9 qy10 => ?_)
      have hf := hf y9 qy10
      refine ev_istore (pc := 42) (L' := [some (.ref 0), some (.int a1), some (.int a2), some (.int ((σ4.1 8 ((0 + a2).toNatClampNeg)) / 2)), some (.int y9), none, none]) dX12_mark_42 (by decide) rfl rfl ?_
      refine ev_iconst (pc := 44) (v := 0) dX12_mark_44 kc_0 ?_
      refine ev_istore (pc := 45) (L' := [some (.ref 0), some (.int a1), some (.int a2), some (.int ((σ4.1 8 ((0 + a2).toNatClampNeg)) / 2)), some (.int y9), some (.int 0), none]) dX12_mark_45 (by decide) rfl rfl ?_
      refine ev_iconst (pc := 47) (v := 0) dX12_mark_47 kc_0 ?_
      refine ev_istore (pc := 48) (L' := [some (.ref 0), some (.int a1), some (.int a2), some (.int ((σ4.1 8 ((0 + a2).toNatClampNeg)) / 2)), some (.int y9), some (.int 0), some (.int 0)]) dX12_mark_48 (by decide) rfl rfl ?_
      obtain ⟨n25, hf⟩ := hf
      exact p_X12_mark_L50 a1 a2 _ post (fun x15 x16 x17 σ14 hf => by
        refine ev_iload_n (pc := 94) dX12_mark_94 rfl (i := 1) rfl ?_
        by_cases e18 : a1 = 0
        · have hf := hf.1 e18
          refine ev_tabIn (pc := 95) (off := 33) (tgt := 128) dX12_mark_95 (by rw [e18]; decide) (by rw [e18]; decide) (by rw [e18]; decide) (by decide) ?_
          refine ev_aload_n (pc := 128) dX12_mark_128 rfl (i := 0) rfl ?_
          refine ev_dup (pc := 129) dX12_mark_129 rfl ?_
          refine ev_get (pc := 130) fl_X12_182_12_0 rfl (by decide) rfl rfl dX12_mark_130 ?_
          refine ev_lconst (pc := 133) (v := 1) dX12_mark_133 (by decide) ?_
          refine ev_ladd (pc := 134) dX12_mark_134 ?_
          refine ev_putl (pc := 135) fp_X12_182_12_0 rfl (by decide) rfl ko_28_0_1_3_0_4_5_6_7_8_9_0_0_0_0_0_0_0_10_11_12 dX12_mark_135 ?_
          refine ev_iload_n (pc := 138) dX12_mark_138 rfl (i := 3) rfl ?_
          exact ev_iret (pc := 139) rfl dX12_mark_139 hf
        by_cases e19 : a1 = 1
        · have hf := hf.2.1 e19
          refine ev_tabIn (pc := 95) (off := 45) (tgt := 140) dX12_mark_95 (by rw [e19]; decide) (by rw [e19]; decide) (by rw [e19]; decide) (by decide) ?_
          refine ev_aload_n (pc := 140) dX12_mark_140 rfl (i := 0) rfl ?_
          refine ev_dup (pc := 141) dX12_mark_141 rfl ?_
          refine ev_get (pc := 142) fl_X12_182_12_0 rfl (by decide) rfl rfl dX12_mark_142 ?_
          refine ev_ldc2 (pc := 145) wl_X12_186 dX12_mark_145 ?_
          refine ev_ladd (pc := 148) dX12_mark_148 ?_
          refine ev_putl (pc := 149) fp_X12_182_12_0 rfl (by decide) rfl ko_28_0_1_3_0_4_5_6_7_8_9_0_0_0_0_0_0_0_10_11_12 dX12_mark_149 ?_
          refine ev_iload_n (pc := 152) dX12_mark_152 rfl (i := 3) rfl ?_
          refine ev_aload_n (pc := 153) dX12_mark_153 rfl (i := 0) rfl ?_
          refine ev_get (pc := 154) fl_X12_17_12_4 rfl (by decide) rfl rfl dX12_mark_154 ?_
          refine ev_iload_n (pc := 157) dX12_mark_157 rfl (i := 2) rfl ?_
          obtain ⟨h20, hf⟩ := hf
          refine ev_iald (pc := 158) rfl rfl h20 rfl dX12_mark_158 ?_
          refine ev_iadd (pc := 159) dX12_mark_159 ?_
          exact ev_iret (pc := 160) rfl dX12_mark_160 hf
        by_cases e21 : a1 = 2
        · have hf := hf.2.2.1 e21
          refine ev_tabIn (pc := 95) (off := 66) (tgt := 161) dX12_mark_95 (by rw [e21]; decide) (by rw [e21]; decide) (by rw [e21]; decide) (by decide) ?_
          refine ev_aload_n (pc := 161) dX12_mark_161 rfl (i := 0) rfl ?_
          refine ev_dup (pc := 162) dX12_mark_162 rfl ?_
          refine ev_get (pc := 163) fl_X12_182_12_0 rfl (by decide) rfl rfl dX12_mark_163 ?_
          refine ev_ldc2 (pc := 166) wl_X12_188 dX12_mark_166 ?_
          refine ev_ladd (pc := 169) dX12_mark_169 ?_
          refine ev_putl (pc := 170) fp_X12_182_12_0 rfl (by decide) rfl ko_28_0_1_3_0_4_5_6_7_8_9_0_0_0_0_0_0_0_10_11_12 dX12_mark_170 ?_
          refine ev_iload (pc := 173) dX12_mark_173 rfl ?_
          exact ev_iret (pc := 175) rfl dX12_mark_175 hf
        by_cases e22 : a1 = 3
        · have hf := hf.2.2.2.1 e22
          refine ev_tabIn (pc := 95) (off := 81) (tgt := 176) dX12_mark_95 (by rw [e22]; decide) (by rw [e22]; decide) (by rw [e22]; decide) (by decide) ?_
          refine ev_aload_n (pc := 176) dX12_mark_176 rfl (i := 0) rfl ?_
          refine ev_dup (pc := 177) dX12_mark_177 rfl ?_
          refine ev_get (pc := 178) fl_X12_182_12_0 rfl (by decide) rfl rfl dX12_mark_178 ?_
          refine ev_ldc2 (pc := 181) wl_X12_190 dX12_mark_181 ?_
          refine ev_ladd (pc := 184) dX12_mark_184 ?_
          refine ev_putl (pc := 185) fp_X12_182_12_0 rfl (by decide) rfl ko_28_0_1_3_0_4_5_6_7_8_9_0_0_0_0_0_0_0_10_11_12 dX12_mark_185 ?_
          refine ev_iconst (pc := 188) (v := 2) dX12_mark_188 kc_2 ?_
          refine ev_iload_n (pc := 189) dX12_mark_189 rfl (i := 3) rfl ?_
          refine ev_aload_n (pc := 190) dX12_mark_190 rfl (i := 0) rfl ?_
          refine ev_get (pc := 191) fl_X12_17_12_4 rfl (by decide) rfl rfl dX12_mark_191 ?_
          refine ev_iload_n (pc := 194) dX12_mark_194 rfl (i := 2) rfl ?_
          obtain ⟨h23, hf⟩ := hf
          refine ev_iald (pc := 195) rfl rfl h23 rfl dX12_mark_195 ?_
          refine ev_iadd (pc := 196) dX12_mark_196 ?_
          refine ev_imul (pc := 197) dX12_mark_197 ?_
          exact ev_iret (pc := 198) rfl dX12_mark_198 hf
        by_cases e24 : a1 = 4
        · have hf := hf.2.2.2.2.1 e24
          refine ev_tabIn (pc := 95) (off := 104) (tgt := 199) dX12_mark_95 (by rw [e24]; decide) (by rw [e24]; decide) (by rw [e24]; decide) (by decide) ?_
          refine ev_aload_n (pc := 199) dX12_mark_199 rfl (i := 0) rfl ?_
          refine ev_dup (pc := 200) dX12_mark_200 rfl ?_
          refine ev_get (pc := 201) fl_X12_182_12_0 rfl (by decide) rfl rfl dX12_mark_201 ?_
          refine ev_ldc2 (pc := 204) wl_X12_192 dX12_mark_204 ?_
          refine ev_ladd (pc := 207) dX12_mark_207 ?_
          refine ev_putl (pc := 208) fp_X12_182_12_0 rfl (by decide) rfl ko_28_0_1_3_0_4_5_6_7_8_9_0_0_0_0_0_0_0_10_11_12 dX12_mark_208 ?_
          refine ev_iload (pc := 211) dX12_mark_211 rfl ?_
          refine ev_iload (pc := 213) dX12_mark_213 rfl ?_
          refine ev_iadd (pc := 215) dX12_mark_215 ?_
          exact ev_iret (pc := 216) rfl dX12_mark_216 hf
        have hf := hf.2.2.2.2.2 e18 e19 e21 e22 e24
        refine ev_tabOut (pc := 95) (tgt := 217) dX12_mark_95 (tab_out 4 (by decide) (fun k hk => by
          match k, hk with
          | 0, _ => exact e18
          | 1, _ => exact e19
          | 2, _ => exact e21
          | 3, _ => exact e22
          | 4, _ => exact e24)) (by decide) ?_
        refine ev_aload_n (pc := 217) dX12_mark_217 rfl (i := 0) rfl ?_
        refine ev_dup (pc := 218) dX12_mark_218 rfl ?_
        refine ev_get (pc := 219) fl_X12_182_12_0 rfl (by decide) rfl rfl dX12_mark_219 ?_
        refine ev_ldc2 (pc := 222) wl_X12_194 dX12_mark_222 ?_
        refine ev_ladd (pc := 225) dX12_mark_225 ?_
        refine ev_putl (pc := 226) fp_X12_182_12_0 rfl (by decide) rfl ko_28_0_1_3_0_4_5_6_7_8_9_0_0_0_0_0_0_0_10_11_12 dX12_mark_226 ?_
        refine ev_iload_n (pc := 229) dX12_mark_229 rfl (i := 3) rfl ?_
        refine ev_aload_n (pc := 230) dX12_mark_230 rfl (i := 0) rfl ?_
        refine ev_get (pc := 231) fl_X12_32_12_16 rfl (by decide) rfl rfl dX12_mark_231 ?_
        refine ev_bipush (pc := 234) (v := 13) dX12_mark_234 kb_13 ?_
        refine ev_iald (pc := 236) rfl rfl ki_13_465 kn_13 dX12_mark_236 ?_
        refine ev_iadd (pc := 237) dX12_mark_237 ?_
        exact ev_iret (pc := 238) rfl dX12_mark_238 hf) n25 _ _ _ _ _ hf
    · have hf := hf.2 c6
      refine ev_ldc (pc := 17) wk_X12_139 dX12_mark_17 ?_
      exact ev_iret (pc := 19) rfl dX12_mark_19 hf
def f_X12_keep_L13 (a1 : Int32) (k46 : St → Prop) (post : Int32 → St → Prop) : Nat → Int32 → St → Prop
  | 0, _, _ => False
  | n + 1, v2, σ => (155 ≤ v2 → (k46 σ)) ∧ (¬ 155 ≤ v2 → (vp_in v2 465 ∧ (vp_in ((155 * (1 + a1)) + v2) 465 ∧ ((f_X12_keep_L13 a1 k46 post n) (v2 + 1) (st_up σ 8 (((155 * (1 + a1)) + v2).toNatClampNeg) (σ.1 8 v2.toNatClampNeg))))))
set_option maxRecDepth 100000 in
set_option maxHeartbeats 4000000 in
theorem p_X12_keep_L13 (a1 : Int32) (k46 : St → Prop) (post : Int32 → St → Prop) (hk46 : ∀ (τ : St), k46 τ → Ev SM RX12 cX12_keep 3 (some .int) 1 (EQi SM post) 46 [some (.ref 0), some (.int a1), none] [] τ) : ∀ (n : Nat) (v2 : Int32) (σ : St), f_X12_keep_L13 a1 k46 post n v2 σ → Ev SM RX12 cX12_keep 3 (some .int) 1 (EQi SM post) 13 [some (.ref 0), some (.int a1), some (.int v2)] [] σ := by
  intro n
  induction n with
  | zero =>
    intro v2 σ hf
    exact hf.elim
  | succ n hagain13 =>
    intro v2 σ hf
    rw [f_X12_keep_L13] at hf
    refine ev_iload_n (pc := 13) dX12_keep_13 rfl (i := 2) rfl ?_
    refine ev_sipush (pc := 14) (v := 155) dX12_keep_14 ks_155 ?_
    refine ev_icmp_ge (pc := 17) (tgt := 46) dX12_keep_17 (by decide) (fun c4 => ?_) (fun c4 => ?_)
    · have hf := hf.1 c4
      refine ev_mask [true, true, false] (L' := [some (.ref 0), some (.int a1), none]) rfl ?_
      exact hk46 _ hf
    · have hf := hf.2 c4
      refine ev_aload_n (pc := 20) dX12_keep_20 rfl (i := 0) rfl ?_
      refine ev_get (pc := 21) fl_X12_32_12_16 rfl (by decide) rfl rfl dX12_keep_21 ?_
      refine ev_sipush (pc := 24) (v := 155) dX12_keep_24 ks_155 ?_
      refine ev_iconst (pc := 27) (v := 1) dX12_keep_27 kc_1 ?_
      refine ev_iload_n (pc := 28) dX12_keep_28 rfl (i := 1) rfl ?_
      refine ev_iadd (pc := 29) dX12_keep_29 ?_
      refine ev_imul (pc := 30) dX12_keep_30 ?_
      refine ev_iload_n (pc := 31) dX12_keep_31 rfl (i := 2) rfl ?_
      refine ev_iadd (pc := 32) dX12_keep_32 ?_
      refine ev_aload_n (pc := 33) dX12_keep_33 rfl (i := 0) rfl ?_
      refine ev_get (pc := 34) fl_X12_32_12_16 rfl (by decide) rfl rfl dX12_keep_34 ?_
      refine ev_iload_n (pc := 37) dX12_keep_37 rfl (i := 2) rfl ?_
      obtain ⟨h5, hf⟩ := hf
      refine ev_iald (pc := 38) rfl rfl h5 rfl dX12_keep_38 ?_
      obtain ⟨h6, hf⟩ := hf
      refine ev_iast (pc := 39) rfl rfl h6 rfl dX12_keep_39 ?_
      refine ev_iinc (pc := 40) (v := v2 + 1) (L' := [some (.ref 0), some (.int a1), some (.int (v2 + 1))]) dX12_keep_40 rfl (by rw [kc_1]) (by decide) rfl rfl ?_
      refine ev_goto (pc := 43) (tgt := 13) dX12_keep_43 (by decide) ?_
      exact hagain13 _ _ hf
def f_X12_keep (a1 : Int32) (σ : St) (post : Int32 → St → Prop) : Prop := f_X12_in a1 0 1 σ (fun x2 σ1 => (¬ x2 = 0 → (∃ n9 : Nat, f_X12_keep_L13 a1 (fun σ7 => vp_in a1 2 ∧ (post ((st_up σ7 9 a1.toNatClampNeg 1).1 8 13) (st_up σ7 9 a1.toNatClampNeg 1))) post n9 0 σ1)) ∧ (x2 = 0 → (post (-1) σ1)))
set_option maxRecDepth 100000 in
set_option maxHeartbeats 4000000 in
theorem c_X12_keep (a1 : Int32) (σ : St) (post : Int32 → St → Prop) (hf : f_X12_keep a1 σ post) : Ct SM yX12_keep cX12_keep 3 (some .int) 1 (EQi SM post) [.ref 0, .int a1] σ := by
  rw [f_X12_keep] at hf
  refine ct_of (by decide) rfl (Nat.le_of_ble_eq_true rfl) ?_
  show Ev SM RX12 cX12_keep 3 (some .int) 1 (EQi SM post) 0 [some (.ref 0), some (.int a1), none] [] σ
  refine ev_iload_n (pc := 0) dX12_keep_0 rfl (i := 1) rfl ?_
  refine ev_iconst (pc := 1) (v := 0) dX12_keep_1 kc_0 ?_
  refine ev_iconst (pc := 2) (v := 1) dX12_keep_2 kc_1 ?_
  refine ev_calli (pc := 3) (stk := []) (ce_S (c_X12_in a1 0 1 σ _ hf) wt_X12_69_X12_in  (by decide) rfl (Nat.le_of_ble_eq_true rfl) rfl dX12_keep_3) (fun x2 σ1 hf => ?_)
  refine ev_if_ne (pc := 6) (tgt := 11) dX12_keep_6 (by decide) (fun c3 => ?_) (fun c3 => ?_)
  · have hf := hf.1 c3
    refine ev_iconst (pc := 11) (v := 0) dX12_keep_11 kc_0 ?_
    refine ev_istore_n (pc := 12) (L' := [some (.ref 0), some (.int a1), some (.int 0)]) dX12_keep_12 rfl (by decide) rfl rfl ?_
    obtain ⟨n9, hf⟩ := hf
    exact p_X12_keep_L13 a1 _ post (fun σ7 hf => by
      refine ev_aload_n (pc := 46) dX12_keep_46 rfl (i := 0) rfl ?_
      refine ev_get (pc := 47) fl_X12_35_12_17 rfl (by decide) rfl rfl dX12_keep_47 ?_
      refine ev_iload_n (pc := 50) dX12_keep_50 rfl (i := 1) rfl ?_
      refine ev_iconst (pc := 51) (v := 1) dX12_keep_51 kc_1 ?_
      obtain ⟨h8, hf⟩ := hf
      refine ev_zast (pc := 52) rfl (t := 2) rfl rfl h8 rfl (x' := 1) rfl dX12_keep_52 ?_
      refine ev_aload_n (pc := 53) dX12_keep_53 rfl (i := 0) rfl ?_
      refine ev_get (pc := 54) fl_X12_32_12_16 rfl (by decide) rfl rfl dX12_keep_54 ?_
      refine ev_bipush (pc := 57) (v := 13) dX12_keep_57 kb_13 ?_
      refine ev_iald (pc := 59) rfl rfl ki_13_465 kn_13 dX12_keep_59 ?_
      exact ev_iret (pc := 60) rfl dX12_keep_60 hf) n9 _ _ hf
  · have hf := hf.2 c3
    refine ev_iconst (pc := 9) (v := (-1)) dX12_keep_9 kc_m1 ?_
    exact ev_iret (pc := 10) rfl dX12_keep_10 hf
def f_X12_back_L25 (a1 : Int32) (post : Int32 → St → Prop) : Nat → Int32 → St → Prop
  | 0, _, _ => False
  | n + 1, v2, σ => (155 ≤ v2 → (post (σ.1 8 13) σ)) ∧ (¬ 155 ≤ v2 → (vp_in ((155 * (1 + a1)) + v2) 465 ∧ (vp_in v2 465 ∧ ((f_X12_back_L25 a1 post n) (v2 + 1) (st_up σ 8 v2.toNatClampNeg (σ.1 8 (((155 * (1 + a1)) + v2).toNatClampNeg)))))))
set_option maxRecDepth 100000 in
set_option maxHeartbeats 4000000 in
theorem p_X12_back_L25 (a1 : Int32) (post : Int32 → St → Prop) : ∀ (n : Nat) (v2 : Int32) (σ : St), f_X12_back_L25 a1 post n v2 σ → Ev SM RX12 cX12_back 3 (some .int) 1 (EQi SM post) 25 [some (.ref 0), some (.int a1), some (.int v2)] [] σ := by
  intro n
  induction n with
  | zero =>
    intro v2 σ hf
    exact hf.elim
  | succ n hagain25 =>
    intro v2 σ hf
    rw [f_X12_back_L25] at hf
    refine ev_iload_n (pc := 25) dX12_back_25 rfl (i := 2) rfl ?_
    refine ev_sipush (pc := 26) (v := 155) dX12_back_26 ks_155 ?_
    refine ev_icmp_ge (pc := 29) (tgt := 58) dX12_back_29 (by decide) (fun c6 => ?_) (fun c6 => ?_)
    · have hf := hf.1 c6
      refine ev_aload_n (pc := 58) dX12_back_58 rfl (i := 0) rfl ?_
      refine ev_get (pc := 59) fl_X12_32_12_16 rfl (by decide) rfl rfl dX12_back_59 ?_
      refine ev_bipush (pc := 62) (v := 13) dX12_back_62 kb_13 ?_
      refine ev_iald (pc := 64) rfl rfl ki_13_465 kn_13 dX12_back_64 ?_
      exact ev_iret (pc := 65) rfl dX12_back_65 hf
    · have hf := hf.2 c6
      refine ev_aload_n (pc := 32) dX12_back_32 rfl (i := 0) rfl ?_
      refine ev_get (pc := 33) fl_X12_32_12_16 rfl (by decide) rfl rfl dX12_back_33 ?_
      refine ev_iload_n (pc := 36) dX12_back_36 rfl (i := 2) rfl ?_
      refine ev_aload_n (pc := 37) dX12_back_37 rfl (i := 0) rfl ?_
      refine ev_get (pc := 38) fl_X12_32_12_16 rfl (by decide) rfl rfl dX12_back_38 ?_
      refine ev_sipush (pc := 41) (v := 155) dX12_back_41 ks_155 ?_
      refine ev_iconst (pc := 44) (v := 1) dX12_back_44 kc_1 ?_
      refine ev_iload_n (pc := 45) dX12_back_45 rfl (i := 1) rfl ?_
      refine ev_iadd (pc := 46) dX12_back_46 ?_
      refine ev_imul (pc := 47) dX12_back_47 ?_
      refine ev_iload_n (pc := 48) dX12_back_48 rfl (i := 2) rfl ?_
      refine ev_iadd (pc := 49) dX12_back_49 ?_
      obtain ⟨h7, hf⟩ := hf
      refine ev_iald (pc := 50) rfl rfl h7 rfl dX12_back_50 ?_
      obtain ⟨h8, hf⟩ := hf
      refine ev_iast (pc := 51) rfl rfl h8 rfl dX12_back_51 ?_
      refine ev_iinc (pc := 52) (v := v2 + 1) (L' := [some (.ref 0), some (.int a1), some (.int (v2 + 1))]) dX12_back_52 rfl (by rw [kc_1]) (by decide) rfl rfl ?_
      refine ev_goto (pc := 55) (tgt := 25) dX12_back_55 (by decide) ?_
      exact hagain25 _ _ hf
def f_X12_back (a1 : Int32) (σ : St) (post : Int32 → St → Prop) : Prop := f_X12_in a1 0 1 σ (fun x2 σ1 => (¬ x2 = 0 → (vp_in a1 2 ∧ ((¬ (σ1.1 9 a1.toNatClampNeg) = 0 → (∃ n9 : Nat, f_X12_back_L25 a1 post n9 0 σ1)) ∧ ((σ1.1 9 a1.toNatClampNeg) = 0 → (post (-2) σ1))))) ∧ (x2 = 0 → (post (-1) σ1)))
set_option maxRecDepth 100000 in
set_option maxHeartbeats 4000000 in
theorem c_X12_back (a1 : Int32) (σ : St) (post : Int32 → St → Prop) (hf : f_X12_back a1 σ post) : Ct SM yX12_back cX12_back 3 (some .int) 1 (EQi SM post) [.ref 0, .int a1] σ := by
  rw [f_X12_back] at hf
  refine ct_of (by decide) rfl (Nat.le_of_ble_eq_true rfl) ?_
  show Ev SM RX12 cX12_back 3 (some .int) 1 (EQi SM post) 0 [some (.ref 0), some (.int a1), none] [] σ
  refine ev_iload_n (pc := 0) dX12_back_0 rfl (i := 1) rfl ?_
  refine ev_iconst (pc := 1) (v := 0) dX12_back_1 kc_0 ?_
  refine ev_iconst (pc := 2) (v := 1) dX12_back_2 kc_1 ?_
  refine ev_calli (pc := 3) (stk := []) (ce_S (c_X12_in a1 0 1 σ _ hf) wt_X12_69_X12_in  (by decide) rfl (Nat.le_of_ble_eq_true rfl) rfl dX12_back_3) (fun x2 σ1 hf => ?_)
  refine ev_if_ne (pc := 6) (tgt := 11) dX12_back_6 (by decide) (fun c3 => ?_) (fun c3 => ?_)
  · have hf := hf.1 c3
    refine ev_aload_n (pc := 11) dX12_back_11 rfl (i := 0) rfl ?_
    refine ev_get (pc := 12) fl_X12_35_12_17 rfl (by decide) rfl rfl dX12_back_12 ?_
    refine ev_iload_n (pc := 15) dX12_back_15 rfl (i := 1) rfl ?_
    obtain ⟨h4, hf⟩ := hf
    refine ev_zald (pc := 16) rfl (t := 2) rfl rfl h4 rfl dX12_back_16 ?_
    refine ev_if_ne (pc := 17) (tgt := 23) dX12_back_17 (by decide) (fun c5 => ?_) (fun c5 => ?_)
    · have hf := hf.1 c5
      refine ev_iconst (pc := 23) (v := 0) dX12_back_23 kc_0 ?_
      refine ev_istore_n (pc := 24) (L' := [some (.ref 0), some (.int a1), some (.int 0)]) dX12_back_24 rfl (by decide) rfl rfl ?_
      obtain ⟨n9, hf⟩ := hf
      exact p_X12_back_L25 a1 post n9 _ _ hf
    · have hf := hf.2 c5
      refine ev_bipush (pc := 20) (v := (-2)) dX12_back_20 kb_m2 ?_
      exact ev_iret (pc := 22) rfl dX12_back_22 hf
  · have hf := hf.2 c3
    refine ev_iconst (pc := 9) (v := (-1)) dX12_back_9 kc_m1 ?_
    exact ev_iret (pc := 10) rfl dX12_back_10 hf
def f_X12_count (a1 : Int32) (σ : St) (post : Int32 → St → Prop) : Prop := (a1 = 0 → (post (σ.1 2 0) σ)) ∧ (a1 = 1 → (post (σ.1 6 0) σ)) ∧ (a1 = 2 → (post (σ.1 7 0) σ)) ∧ (a1 = 3 → (post (σ.1 0 24) σ)) ∧ (a1 = 4 → (post (σ.1 0 27) σ)) ∧ (a1 = 5 → (post (σ.1 8 14) σ)) ∧ (a1 = 6 → (post (σ.1 0 2) σ)) ∧ (¬ a1 = 0 → ¬ a1 = 1 → ¬ a1 = 2 → ¬ a1 = 3 → ¬ a1 = 4 → ¬ a1 = 5 → ¬ a1 = 6 → (post (-1) σ))
set_option maxRecDepth 100000 in
set_option maxHeartbeats 4000000 in
theorem c_X12_count (a1 : Int32) (σ : St) (post : Int32 → St → Prop) (hf : f_X12_count a1 σ post) : Ct SM yX12_count cX12_count 2 (some .int) 0 (EQi SM post) [.ref 0, .int a1] σ := by
  rw [f_X12_count] at hf
  refine ct_of (by decide) rfl (Nat.le_of_ble_eq_true rfl) ?_
  show Ev SM RX12 cX12_count 2 (some .int) 0 (EQi SM post) 0 [some (.ref 0), some (.int a1)] [] σ
  refine ev_iload_n (pc := 0) dX12_count_0 rfl (i := 1) rfl ?_
  by_cases e1 : a1 = 0
  · have hf := hf.1 e1
    refine ev_tabIn (pc := 1) (off := 43) (tgt := 44) dX12_count_1 (by rw [e1]; decide) (by rw [e1]; decide) (by rw [e1]; decide) (by decide) ?_
    refine ev_aload_n (pc := 44) dX12_count_44 rfl (i := 0) rfl ?_
    refine ev_get (pc := 45) fl_X12_13_12_3 rfl (by decide) rfl rfl dX12_count_45 ?_
    refine ev_iconst (pc := 48) (v := 0) dX12_count_48 kc_0 ?_
    refine ev_iald (pc := 49) rfl rfl ki_0_2 kn_0 dX12_count_49 ?_
    exact ev_iret (pc := 50) rfl dX12_count_50 hf
  by_cases e2 : a1 = 1
  · have hf := hf.2.1 e2
    refine ev_tabIn (pc := 1) (off := 50) (tgt := 51) dX12_count_1 (by rw [e2]; decide) (by rw [e2]; decide) (by rw [e2]; decide) (by decide) ?_
    refine ev_aload_n (pc := 51) dX12_count_51 rfl (i := 0) rfl ?_
    refine ev_get (pc := 52) fl_X12_26_12_7 rfl (by decide) rfl rfl dX12_count_52 ?_
    refine ev_iconst (pc := 55) (v := 0) dX12_count_55 kc_0 ?_
    refine ev_iald (pc := 56) rfl rfl ki_0_2 kn_0 dX12_count_56 ?_
    exact ev_iret (pc := 57) rfl dX12_count_57 hf
  by_cases e3 : a1 = 2
  · have hf := hf.2.2.1 e3
    refine ev_tabIn (pc := 1) (off := 57) (tgt := 58) dX12_count_1 (by rw [e3]; decide) (by rw [e3]; decide) (by rw [e3]; decide) (by decide) ?_
    refine ev_aload_n (pc := 58) dX12_count_58 rfl (i := 0) rfl ?_
    refine ev_get (pc := 59) fl_X12_29_12_8 rfl (by decide) rfl rfl dX12_count_59 ?_
    refine ev_iconst (pc := 62) (v := 0) dX12_count_62 kc_0 ?_
    refine ev_iald (pc := 63) rfl rfl ki_0_2 kn_0 dX12_count_63 ?_
    exact ev_iret (pc := 64) rfl dX12_count_64 hf
  by_cases e4 : a1 = 3
  · have hf := hf.2.2.2.1 e4
    refine ev_tabIn (pc := 1) (off := 64) (tgt := 65) dX12_count_1 (by rw [e4]; decide) (by rw [e4]; decide) (by rw [e4]; decide) (by decide) ?_
    refine ev_aload_n (pc := 65) dX12_count_65 rfl (i := 0) rfl ?_
    refine ev_get (pc := 66) fl_X12_118_12_24 rfl (by decide) rfl rfl dX12_count_66 ?_
    exact ev_iret (pc := 69) rfl dX12_count_69 hf
  by_cases e5 : a1 = 4
  · have hf := hf.2.2.2.2.1 e5
    refine ev_tabIn (pc := 1) (off := 69) (tgt := 70) dX12_count_1 (by rw [e5]; decide) (by rw [e5]; decide) (by rw [e5]; decide) (by decide) ?_
    refine ev_aload_n (pc := 70) dX12_count_70 rfl (i := 0) rfl ?_
    refine ev_get (pc := 71) fl_X12_121_12_27 rfl (by decide) rfl rfl dX12_count_71 ?_
    exact ev_iret (pc := 74) rfl dX12_count_74 hf
  by_cases e6 : a1 = 5
  · have hf := hf.2.2.2.2.2.1 e6
    refine ev_tabIn (pc := 1) (off := 74) (tgt := 75) dX12_count_1 (by rw [e6]; decide) (by rw [e6]; decide) (by rw [e6]; decide) (by decide) ?_
    refine ev_aload_n (pc := 75) dX12_count_75 rfl (i := 0) rfl ?_
    refine ev_get (pc := 76) fl_X12_32_12_16 rfl (by decide) rfl rfl dX12_count_76 ?_
    refine ev_bipush (pc := 79) (v := 14) dX12_count_79 kb_14 ?_
    refine ev_iald (pc := 81) rfl rfl ki_14_465 kn_14 dX12_count_81 ?_
    exact ev_iret (pc := 82) rfl dX12_count_82 hf
  by_cases e7 : a1 = 6
  · have hf := hf.2.2.2.2.2.2.1 e7
    refine ev_tabIn (pc := 1) (off := 82) (tgt := 83) dX12_count_1 (by rw [e7]; decide) (by rw [e7]; decide) (by rw [e7]; decide) (by decide) ?_
    refine ev_aload_n (pc := 83) dX12_count_83 rfl (i := 0) rfl ?_
    refine ev_get (pc := 84) fl_X12_73_12_2 rfl (by decide) rfl rfl dX12_count_84 ?_
    exact ev_iret (pc := 87) rfl dX12_count_87 hf
  have hf := hf.2.2.2.2.2.2.2 e1 e2 e3 e4 e5 e6 e7
  refine ev_tabOut (pc := 1) (tgt := 88) dX12_count_1 (tab_out 6 (by decide) (fun k hk => by
    match k, hk with
    | 0, _ => exact e1
    | 1, _ => exact e2
    | 2, _ => exact e3
    | 3, _ => exact e4
    | 4, _ => exact e5
    | 5, _ => exact e6
    | 6, _ => exact e7)) (by decide) ?_
  refine ev_iconst (pc := 88) (v := (-1)) dX12_count_88 kc_m1 ?_
  exact ev_iret (pc := 89) rfl dX12_count_89 hf
def f_X12_trace (σ : St) (post : Int64 → St → Prop) : Prop := post (σ.2 0) σ
set_option maxRecDepth 100000 in
set_option maxHeartbeats 4000000 in
theorem c_X12_trace (σ : St) (post : Int64 → St → Prop) (hf : f_X12_trace σ post) : Ct SM yX12_trace cX12_trace 1 (some .long) 0 (EQl SM post) [.ref 0] σ := by
  rw [f_X12_trace] at hf
  refine ct_of (by decide) rfl (Nat.le_of_ble_eq_true rfl) ?_
  show Ev SM RX12 cX12_trace 1 (some .long) 0 (EQl SM post) 0 [some (.ref 0)] [] σ
  refine ev_aload_n (pc := 0) dX12_trace_0 rfl (i := 0) rfl ?_
  refine ev_get (pc := 1) fl_X12_182_12_0 rfl (by decide) rfl rfl dX12_trace_1 ?_
  exact ev_lret (pc := 4) rfl dX12_trace_4 hf
