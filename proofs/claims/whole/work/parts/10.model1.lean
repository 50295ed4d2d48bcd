def f_X12_in (a0 : Int32) (a1 : Int32) (a2 : Int32) (σ : St) (post : Int32 → St → Prop) : Prop := (a0 < a1 → (post 0 σ)) ∧ (¬ a0 < a1 → ((a2 < a0 → (post 0 σ)) ∧ (¬ a2 < a0 → (post 1 σ))))
set_option maxRecDepth 100000 in
set_option maxHeartbeats 4000000 in
theorem c_X12_in (a0 : Int32) (a1 : Int32) (a2 : Int32) (σ : St) (post : Int32 → St → Prop) (hf : f_X12_in a0 a1 a2 σ post) : Ct SM yX12_in cX12_in 3 (some .boolean) 0 (EQi SM post) [.int a0, .int a1, .int a2] σ := by
  rw [f_X12_in] at hf
  refine ct_of (by decide) rfl (Nat.le_of_ble_eq_true rfl) ?_
  show Ev SM RX12 cX12_in 3 (some .boolean) 0 (EQi SM post) 0 [some (.int a0), some (.int a1), some (.int a2)] [] σ
  refine ev_iload_n (pc := 0) dX12_in_0 rfl (i := 0) rfl ?_
  refine ev_iload_n (pc := 1) dX12_in_1 rfl (i := 1) rfl ?_
  refine ev_icmp_lt (pc := 2) (tgt := 14) dX12_in_2 (by decide) (fun c1 => ?_) (fun c1 => ?_)
  · have hf := hf.1 c1
    refine ev_iconst (pc := 14) (v := 0) dX12_in_14 kc_0 ?_
    exact ev_zret (pc := 15) rfl dX12_in_15 rfl hf
  · have hf := hf.2 c1
    refine ev_iload_n (pc := 5) dX12_in_5 rfl (i := 0) rfl ?_
    refine ev_iload_n (pc := 6) dX12_in_6 rfl (i := 2) rfl ?_
    refine ev_icmp_gt (pc := 7) (tgt := 14) dX12_in_7 (by decide) (fun c2 => ?_) (fun c2 => ?_)
    · have hf := hf.1 c2
      refine ev_iconst (pc := 14) (v := 0) dX12_in_14 kc_0 ?_
      exact ev_zret (pc := 15) rfl dX12_in_15 rfl hf
    · have hf := hf.2 c2
      refine ev_iconst (pc := 10) (v := 1) dX12_in_10 kc_1 ?_
      refine ev_goto (pc := 11) (tgt := 15) dX12_in_11 (by decide) ?_
      exact ev_zret (pc := 15) rfl dX12_in_15 rfl hf
def f_X12_type (a1 : Int32) (σ : St) (post : Int32 → St → Prop) : Prop := f_X12_in a1 0 255 σ (fun x2 σ1 => (¬ x2 = 0 → ((¬ (σ1.1 0 2) = 150 → (vp_in (σ1.1 0 2) 150 ∧ (∀ σ6 : St, σ6 = (st_up σ1 1 ((σ1.1 0 2).toNatClampNeg) (a1.toInt8.toInt32)) → (post ((st_up σ6 0 2 (((st_up σ1 1 ((σ1.1 0 2).toNatClampNeg) (a1.toInt8.toInt32)).1 0 2) + 1)).1 0 2) (st_up σ6 0 2 (((st_up σ1 1 ((σ1.1 0 2).toNatClampNeg) (a1.toInt8.toInt32)).1 0 2) + 1)))))) ∧ ((σ1.1 0 2) = 150 → (post (-3) σ1)))) ∧ (x2 = 0 → (post (-1) σ1)))
set_option maxRecDepth 100000 in
set_option maxHeartbeats 4000000 in
theorem c_X12_type (a1 : Int32) (σ : St) (post : Int32 → St → Prop) (hf : f_X12_type a1 σ post) : Ct SM yX12_type cX12_type 2 (some .int) 1 (EQi SM post) [.ref 0, .int a1] σ := by
  rw [f_X12_type] at hf
  refine ct_of (by decide) rfl (Nat.le_of_ble_eq_true rfl) ?_
  show Ev SM RX12 cX12_type 2 (some .int) 1 (EQi SM post) 0 [some (.ref 0), some (.int a1)] [] σ
  refine ev_iload_n (pc := 0) dX12_type_0 rfl (i := 1) rfl ?_
  refine ev_iconst (pc := 1) (v := 0) dX12_type_1 kc_0 ?_
  refine ev_sipush (pc := 2) (v := 255) dX12_type_2 ks_255 ?_
  refine ev_calli (pc := 5) (stk := []) (ce_S (c_X12_in a1 0 255 σ _ hf) wt_X12_69_X12_in  (by decide) rfl (Nat.le_of_ble_eq_true rfl) rfl dX12_type_5) (fun x2 σ1 hf => ?_)
  refine ev_if_ne (pc := 8) (tgt := 13) dX12_type_8 (by decide) (fun c3 => ?_) (fun c3 => ?_)
  · have hf := hf.1 c3
    refine ev_aload_n (pc := 13) dX12_type_13 rfl (i := 0) rfl ?_
    refine ev_get (pc := 14) fl_X12_73_12_2 rfl (by decide) rfl rfl dX12_type_14 ?_
    refine ev_sipush (pc := 17) (v := 150) dX12_type_17 ks_150 ?_
    refine ev_icmp_ne (pc := 20) (tgt := 26) dX12_type_20 (by decide) (fun c4 => ?_) (fun c4 => ?_)
    · have hf := hf.1 c4
      refine ev_aload_n (pc := 26) dX12_type_26 rfl (i := 0) rfl ?_
      refine ev_get (pc := 27) fl_X12_7_12_1 rfl (by decide) rfl rfl dX12_type_27 ?_
      refine ev_aload_n (pc := 30) dX12_type_30 rfl (i := 0) rfl ?_
      refine ev_get (pc := 31) fl_X12_73_12_2 rfl (by decide) rfl rfl dX12_type_31 ?_
      refine ev_iload_n (pc := 34) dX12_type_34 rfl (i := 1) rfl ?_
      refine ev_i2b (pc := 35) dX12_type_35 ?_
      obtain ⟨h5, hf⟩ := hf
      refine ev_bast (pc := 36) rfl (t := 1) rfl rfl h5 rfl (x' := (a1.toInt8.toInt32)) (pk_vb _) dX12_type_36 ?_
      refine ev_aload_n (pc := 37) dX12_type_37 rfl (i := 0) rfl ?_
      refine ev_dup (pc := 38) dX12_type_38 rfl ?_
      refine ev_get (pc := 39) fl_X12_73_12_2 rfl (by decide) rfl rfl dX12_type_39 ?_
      refine ev_iconst (pc := 42) (v := 1) dX12_type_42 kc_1 ?_
      refine ev_iadd (pc := 43) dX12_type_43 ?_
      refine ev_nm (fun σ6 q6 => ?_)
      have hf := hf σ6 q6
      refine ev_puti (pc := 44) fp_X12_73_12_2 rfl (by decide) rfl rfl rfl dX12_type_44 ?_
      refine ev_aload_n (pc := 47) dX12_type_47 rfl (i := 0) rfl ?_
      refine ev_get (pc := 48) fl_X12_73_12_2 rfl (by decide) rfl rfl dX12_type_48 ?_
      exact ev_iret (pc := 51) rfl dX12_type_51 hf
    · have hf := hf.2 c4
      refine ev_bipush (pc := 23) (v := (-3)) dX12_type_23 kb_m3 ?_
      exact ev_iret (pc := 25) rfl dX12_type_25 hf
  · have hf := hf.2 c3
    refine ev_iconst (pc := 11) (v := (-1)) dX12_type_11 kc_m1 ?_
    exact ev_iret (pc := 12) rfl dX12_type_12 hf
def f_X12_clear (σ : St) (post : Int32 → St → Prop) : Prop := post (σ.1 0 2) (st_up σ 0 2 0)
set_option maxRecDepth 100000 in
set_option maxHeartbeats 4000000 in
theorem c_X12_clear (σ : St) (post : Int32 → St → Prop) (hf : f_X12_clear σ post) : Ct SM yX12_clear cX12_clear 2 (some .int) 0 (EQi SM post) [.ref 0] σ := by
  rw [f_X12_clear] at hf
  refine ct_of (by decide) rfl (Nat.le_of_ble_eq_true rfl) ?_
  show Ev SM RX12 cX12_clear 2 (some .int) 0 (EQi SM post) 0 [some (.ref 0), none] [] σ
  refine ev_aload_n (pc := 0) dX12_clear_0 rfl (i := 0) rfl ?_
  refine ev_get (pc := 1) fl_X12_73_12_2 rfl (by decide) rfl rfl dX12_clear_1 ?_
  refine ev_istore_n (pc := 4) (L' := [some (.ref 0), some (.int (σ.1 0 2))]) dX12_clear_4 rfl (by decide) rfl rfl ?_
  refine ev_aload_n (pc := 5) dX12_clear_5 rfl (i := 0) rfl ?_
  refine ev_iconst (pc := 6) (v := 0) dX12_clear_6 kc_0 ?_
  refine ev_puti (pc := 7) fp_X12_73_12_2 rfl (by decide) rfl rfl rfl dX12_clear_7 ?_
  refine ev_iload_n (pc := 10) dX12_clear_10 rfl (i := 1) rfl ?_
  exact ev_iret (pc := 11) rfl dX12_clear_11 hf
def f_X12_here (σ : St) (post : Int32 → St → Prop) : Prop := ((σ.1 0 2) ≤ (σ.1 0 9) → (post (-1) σ)) ∧ (¬ (σ.1 0 2) ≤ (σ.1 0 9) → (vp_in (σ.1 0 9) 150 ∧ (post ((σ.1 1 ((σ.1 0 9).toNatClampNeg)) &&& 255) σ)))
set_option maxRecDepth 100000 in
set_option maxHeartbeats 4000000 in
theorem c_X12_here (σ : St) (post : Int32 → St → Prop) (hf : f_X12_here σ post) : Ct SM yX12_here cX12_here 1 (some .int) 0 (EQi SM post) [.ref 0] σ := by
  rw [f_X12_here] at hf
  refine ct_of (by decide) rfl (Nat.le_of_ble_eq_true rfl) ?_
  show Ev SM RX12 cX12_here 1 (some .int) 0 (EQi SM post) 0 [some (.ref 0)] [] σ
  refine ev_aload_n (pc := 0) dX12_here_0 rfl (i := 0) rfl ?_
  refine ev_get (pc := 1) fl_X12_77_12_9 rfl (by decide) rfl rfl dX12_here_1 ?_
  refine ev_aload_n (pc := 4) dX12_here_4 rfl (i := 0) rfl ?_
  refine ev_get (pc := 5) fl_X12_73_12_2 rfl (by decide) rfl rfl dX12_here_5 ?_
  refine ev_icmp_ge (pc := 8) (tgt := 27) dX12_here_8 (by decide) (fun c1 => ?_) (fun c1 => ?_)
  · have hf := hf.1 c1
    refine ev_iconst (pc := 27) (v := (-1)) dX12_here_27 kc_m1 ?_
    exact ev_iret (pc := 28) rfl dX12_here_28 hf
  · have hf := hf.2 c1
    refine ev_aload_n (pc := 11) dX12_here_11 rfl (i := 0) rfl ?_
    refine ev_get (pc := 12) fl_X12_7_12_1 rfl (by decide) rfl rfl dX12_here_12 ?_
    refine ev_aload_n (pc := 15) dX12_here_15 rfl (i := 0) rfl ?_
    refine ev_get (pc := 16) fl_X12_77_12_9 rfl (by decide) rfl rfl dX12_here_16 ?_
    obtain ⟨h2, hf⟩ := hf
    refine ev_bald (pc := 19) rfl (t := 1) rfl rfl h2 rfl dX12_here_19 ?_
    refine ev_sipush (pc := 20) (v := 255) dX12_here_20 ks_255 ?_
    refine ev_iand (pc := 23) dX12_here_23 ?_
    refine ev_goto (pc := 24) (tgt := 28) dX12_here_24 (by decide) ?_
    exact ev_iret (pc := 28) rfl dX12_here_28 hf
def f_X12_step_L0 (k22 : St → Prop) (post : St → Prop) : Nat → St → Prop
  | 0, _ => False
  | n + 1, σ => f_X12_here σ (fun x2 σ1 => (¬ x2 = 32 → (k22 σ1)) ∧ (x2 = 32 → ((f_X12_step_L0 k22 post n) (st_up σ1 0 9 ((σ1.1 0 9) + 1)))))
set_option maxRecDepth 100000 in
set_option maxHeartbeats 4000000 in
theorem p_X12_step_L0 (k22 : St → Prop) (post : St → Prop) (hk22 : ∀ (τ : St), k22 τ → Ev SM RX12 cX12_step 2 none 1 (EQv SM post) 22 [some (.ref 0), none] [] τ) : ∀ (n : Nat) (σ : St), f_X12_step_L0 k22 post n σ → Ev SM RX12 cX12_step 2 none 1 (EQv SM post) 0 [some (.ref 0), none] [] σ := by
  intro n
  induction n with
  | zero =>
    intro σ hf
    exact hf.elim
  | succ n hagain0 =>
    intro σ hf
    rw [f_X12_step_L0] at hf
    refine ev_aload_n (pc := 0) dX12_step_0 rfl (i := 0) rfl ?_
    refine ev_calli (pc := 1) (stk := []) (ce_V (c_X12_here σ _ hf) wv_X12_80_X12_here rfl (by decide) rfl (by decide) rfl (Nat.le_of_ble_eq_true rfl) rfl dX12_step_1) (fun x2 σ1 hf => ?_)
    refine ev_bipush (pc := 4) (v := 32) dX12_step_4 kb_32 ?_
    refine ev_icmp_ne (pc := 6) (tgt := 22) dX12_step_6 (by decide) (fun c3 => ?_) (fun c3 => ?_)
    · have hf := hf.1 c3
      exact hk22 _ hf
    · have hf := hf.2 c3
      refine ev_aload_n (pc := 9) dX12_step_9 rfl (i := 0) rfl ?_
      refine ev_dup (pc := 10) dX12_step_10 rfl ?_
      refine ev_get (pc := 11) fl_X12_77_12_9 rfl (by decide) rfl rfl dX12_step_11 ?_
      refine ev_iconst (pc := 14) (v := 1) dX12_step_14 kc_1 ?_
      refine ev_iadd (pc := 15) dX12_step_15 ?_
      refine ev_puti (pc := 16) fp_X12_77_12_9 rfl (by decide) rfl rfl rfl dX12_step_16 ?_
      refine ev_goto (pc := 19) (tgt := 0) dX12_step_19 (by decide) ?_
      exact hagain0 _ hf
def f_X12_step_J172_126 (again126 : Int32 → St → Prop) (k188 : Int32 → St → Prop) (post : St → Prop) (v1 : Int32) (s0 : Int32) (σ : St) : Prop := ∀ σ26 : St, σ26 = (st_up σ 0 12 s0) → (again126 v1 (st_up σ26 0 9 (((st_up σ 0 12 s0).1 0 9) + 1)))
set_option maxRecDepth 100000 in
set_option maxHeartbeats 4000000 in
theorem p_X12_step_J172_126 (again126 : Int32 → St → Prop) (k188 : Int32 → St → Prop) (post : St → Prop) (hagain126 : ∀ (v1 : Int32) (τ : St), again126 v1 τ → Ev SM RX12 cX12_step 2 none 1 (EQv SM post) 126 [some (.ref 0), some (.int v1)] [] τ) (hk188 : ∀ (v1 : Int32) (τ : St), k188 v1 τ → Ev SM RX12 cX12_step 2 none 1 (EQv SM post) 188 [some (.ref 0), some (.int v1)] [] τ) (v1 : Int32) (s0 : Int32) (σ : St) (hf : f_X12_step_J172_126 again126 k188 post v1 s0 σ) : Ev SM RX12 cX12_step 2 none 1 (EQv SM post) 172 [some (.ref 0), some (.int v1)] [.int s0, .ref 0] σ := by
  rw [f_X12_step_J172_126] at hf
  refine ev_puti (pc := 172) fp_X12_87_12_12 rfl (by decide) rfl rfl rfl dX12_step_172 ?_
  refine ev_aload_n (pc := 175) dX12_step_175 rfl (i := 0) rfl ?_
  refine ev_dup (pc := 176) dX12_step_176 rfl ?_
  refine ev_get (pc := 177) fl_X12_77_12_9 rfl (by decide) rfl rfl dX12_step_177 ?_
  refine ev_iconst (pc := 180) (v := 1) dX12_step_180 kc_1 ?_
  refine ev_iadd (pc := 181) dX12_step_181 ?_
  refine ev_nm (fun σ26 q26 => ?_)
  have hf := hf σ26 q26
  refine ev_puti (pc := 182) fp_X12_77_12_9 rfl (by decide) rfl rfl rfl dX12_step_182 ?_
  refine ev_goto (pc := 185) (tgt := 126) dX12_step_185 (by decide) ?_
  exact hagain126 _ _ hf
def f_X12_step_L126 (k188 : Int32 → St → Prop) (post : St → Prop) : Nat → Int32 → St → Prop
  | 0, _, _ => False
  | n + 1, v1, σ => f_X12_here σ (fun x19 σ18 => f_X12_in x19 48 57 σ18 (fun x21 σ20 => (x21 = 0 → (k188 v1 σ20)) ∧ (¬ x21 = 0 → (((σ20.1 0 12) ≤ 99 → (f_X12_here σ20 (fun x25 σ24 => f_X12_step_J172_126 (f_X12_step_L126 k188 post n) k188 post v1 (((10 * (σ20.1 0 12)) + x25) - 48) σ24))) ∧ (¬ (σ20.1 0 12) ≤ 99 → (f_X12_step_J172_126 (f_X12_step_L126 k188 post n) k188 post v1 (σ20.1 0 12) σ20))))))
set_option maxRecDepth 100000 in
set_option maxHeartbeats 4000000 in
theorem p_X12_step_L126 (k188 : Int32 → St → Prop) (post : St → Prop) (hk188 : ∀ (v1 : Int32) (τ : St), k188 v1 τ → Ev SM RX12 cX12_step 2 none 1 (EQv SM post) 188 [some (.ref 0), some (.int v1)] [] τ) : ∀ (n : Nat) (v1 : Int32) (σ : St), f_X12_step_L126 k188 post n v1 σ → Ev SM RX12 cX12_step 2 none 1 (EQv SM post) 126 [some (.ref 0), some (.int v1)] [] σ := by
  intro n
  induction n with
  | zero =>
    intro v1 σ hf
    exact hf.elim
  | succ n hagain126 =>
    intro v1 σ hf
    rw [f_X12_step_L126] at hf
    refine ev_aload_n (pc := 126) dX12_step_126 rfl (i := 0) rfl ?_
    refine ev_calli (pc := 127) (stk := []) (ce_V (c_X12_here σ _ hf) wv_X12_80_X12_here rfl (by decide) rfl (by decide) rfl (Nat.le_of_ble_eq_true rfl) rfl dX12_step_127) (fun x19 σ18 hf => ?_)
    refine ev_bipush (pc := 130) (v := 48) dX12_step_130 kb_48 ?_
    refine ev_bipush (pc := 132) (v := 57) dX12_step_132 kb_57 ?_
    refine ev_calli (pc := 134) (stk := []) (ce_S (c_X12_in x19 48 57 σ18 _ hf) wt_X12_69_X12_in  (by decide) rfl (Nat.le_of_ble_eq_true rfl) rfl dX12_step_134) (fun x21 σ20 hf => ?_)
    refine ev_if_eq (pc := 137) (tgt := 188) dX12_step_137 (by decide) (fun c22 => ?_) (fun c22 => ?_)
    · have hf := hf.1 c22
      exact hk188 _ _ hf
    · have hf := hf.2 c22
      refine ev_aload_n (pc := 140) dX12_step_140 rfl (i := 0) rfl ?_
      refine ev_aload_n (pc := 141) dX12_step_141 rfl (i := 0) rfl ?_
      refine ev_get (pc := 142) fl_X12_87_12_12 rfl (by decide) rfl rfl dX12_step_142 ?_
      refine ev_bipush (pc := 145) (v := 99) dX12_step_145 kb_99 ?_
      refine ev_icmp_le (pc := 147) (tgt := 157) dX12_step_147 (by decide) (fun c23 => ?_) (fun c23 => ?_)
      · have hf := hf.1 c23
        refine ev_bipush (pc := 157) (v := 10) dX12_step_157 kb_10 ?_
        refine ev_aload_n (pc := 159) dX12_step_159 rfl (i := 0) rfl ?_
        refine ev_get (pc := 160) fl_X12_87_12_12 rfl (by decide) rfl rfl dX12_step_160 ?_
        refine ev_imul (pc := 163) dX12_step_163 ?_
        refine ev_aload_n (pc := 164) dX12_step_164 rfl (i := 0) rfl ?_
        refine ev_calli (pc := 165) (stk := [.int (10 * (σ20.1 0 12)), .ref 0]) (ce_V (c_X12_here σ20 _ hf) wv_X12_80_X12_here rfl (by decide) rfl (by decide) rfl (Nat.le_of_ble_eq_true rfl) rfl dX12_step_165) (fun x25 σ24 hf => ?_)
        refine ev_iadd (pc := 168) dX12_step_168 ?_
        refine ev_bipush (pc := 169) (v := 48) dX12_step_169 kb_48 ?_
        refine ev_isub (pc := 171) dX12_step_171 ?_
        exact p_X12_step_J172_126 (f_X12_step_L126 k188 post n) k188 post hagain126 hk188 _ _ _ hf
      · have hf := hf.2 c23
        refine ev_aload_n (pc := 150) dX12_step_150 rfl (i := 0) rfl ?_
        refine ev_get (pc := 151) fl_X12_87_12_12 rfl (by decide) rfl rfl dX12_step_151 ?_
        refine ev_goto (pc := 154) (tgt := 172) dX12_step_154 (by decide) ?_
        exact p_X12_step_J172_126 (f_X12_step_L126 k188 post n) k188 post hagain126 hk188 _ _ _ hf
def f_X12_step_L63 (k90 : Int32 → St → Prop) (post : St → Prop) : Nat → Int32 → St → Prop
  | 0, _, _ => False
  | n + 1, v1, σ => f_X12_here σ (fun x34 σ33 => f_X12_in x34 97 122 σ33 (fun x36 σ35 => (x36 = 0 → (k90 v1 σ35)) ∧ (¬ x36 = 0 → ((f_X12_step_L63 k90 post n) v1 (st_up σ35 0 9 ((σ35.1 0 9) + 1))))))
set_option maxRecDepth 100000 in
set_option maxHeartbeats 4000000 in
theorem p_X12_step_L63 (k90 : Int32 → St → Prop) (post : St → Prop) (hk90 : ∀ (v1 : Int32) (τ : St), k90 v1 τ → Ev SM RX12 cX12_step 2 none 1 (EQv SM post) 90 [some (.ref 0), some (.int v1)] [] τ) : ∀ (n : Nat) (v1 : Int32) (σ : St), f_X12_step_L63 k90 post n v1 σ → Ev SM RX12 cX12_step 2 none 1 (EQv SM post) 63 [some (.ref 0), some (.int v1)] [] σ := by
  intro n
  induction n with
  | zero =>
    intro v1 σ hf
    exact hf.elim
  | succ n hagain63 =>
    intro v1 σ hf
    rw [f_X12_step_L63] at hf
    refine ev_aload_n (pc := 63) dX12_step_63 rfl (i := 0) rfl ?_
    refine ev_calli (pc := 64) (stk := []) (ce_V (c_X12_here σ _ hf) wv_X12_80_X12_here rfl (by decide) rfl (by decide) rfl (Nat.le_of_ble_eq_true rfl) rfl dX12_step_64) (fun x34 σ33 hf => ?_)
    refine ev_bipush (pc := 67) (v := 97) dX12_step_67 kb_97 ?_
    refine ev_bipush (pc := 69) (v := 122) dX12_step_69 kb_122 ?_
    refine ev_calli (pc := 71) (stk := []) (ce_S (c_X12_in x34 97 122 σ33 _ hf) wt_X12_69_X12_in  (by decide) rfl (Nat.le_of_ble_eq_true rfl) rfl dX12_step_71) (fun x36 σ35 hf => ?_)
    refine ev_if_eq (pc := 74) (tgt := 90) dX12_step_74 (by decide) (fun c37 => ?_) (fun c37 => ?_)
    · have hf := hf.1 c37
      exact hk90 _ _ hf
    · have hf := hf.2 c37
      refine ev_aload_n (pc := 77) dX12_step_77 rfl (i := 0) rfl ?_
      refine ev_dup (pc := 78) dX12_step_78 rfl ?_
      refine ev_get (pc := 79) fl_X12_77_12_9 rfl (by decide) rfl rfl dX12_step_79 ?_
      refine ev_iconst (pc := 82) (v := 1) dX12_step_82 kc_1 ?_
      refine ev_iadd (pc := 83) dX12_step_83 ?_
      refine ev_puti (pc := 84) fp_X12_77_12_9 rfl (by decide) rfl rfl rfl dX12_step_84 ?_
      refine ev_goto (pc := 87) (tgt := 63) dX12_step_87 (by decide) ?_
      exact hagain63 _ _ hf
def f_X12_step (σ : St) (post : St → Prop) : Prop := ∃ n42 : Nat, f_X12_step_L0 (fun σ4 => ∀ σ5 : St, σ5 = (st_up σ4 0 10 (σ4.1 0 9)) → (f_X12_here (st_up σ5 0 12 0) (fun x7 σ6 => (0 ≤ x7 → (f_X12_in x7 97 122 σ6 (fun x10 σ9 => (x10 = 0 → (f_X12_in x7 48 57 σ9 (fun x13 σ12 => (x13 = 0 → ((¬ x7 = 59 → (∀ σ16 : St, σ16 = (st_up σ12 0 9 ((σ12.1 0 9) + 1)) → (post (st_up σ16 0 11 4)))) ∧ (x7 = 59 → (∀ σ17 : St, σ17 = (st_up σ12 0 9 ((σ12.1 0 9) + 1)) → (post (st_up σ17 0 11 2)))))) ∧ (¬ x13 = 0 → (∃ n32 : Nat, f_X12_step_L126 (fun x28 σ27 => (99 < (σ27.1 0 12) → (post (st_up σ27 0 11 4))) ∧ (¬ 99 < (σ27.1 0 12) → ((¬ x28 = 48 → (post (st_up σ27 0 11 1))) ∧ (x28 = 48 → ((((σ27.1 0 9) - (σ27.1 0 10)) ≤ 1 → (post (st_up σ27 0 11 1))) ∧ (¬ ((σ27.1 0 9) - (σ27.1 0 10)) ≤ 1 → (post (st_up σ27 0 11 4)))))))) post n32 x7 σ12))))) ∧ (¬ x10 = 0 → (∃ n41 : Nat, f_X12_step_L63 (fun x39 σ38 => (¬ ((σ38.1 0 9) - (σ38.1 0 10)) = 1 → (post (st_up σ38 0 11 4))) ∧ (((σ38.1 0 9) - (σ38.1 0 10)) = 1 → (post (st_up σ38 0 11 x39)))) post n41 x7 σ9))))) ∧ (¬ 0 ≤ x7 → (post (st_up σ6 0 11 3)))))) post n42 σ
set_option maxRecDepth 100000 in
set_option maxHeartbeats 4000000 in
theorem c_X12_step (σ : St) (post : St → Prop) (hf : f_X12_step σ post) : Ct SM yX12_step cX12_step 2 none 1 (EQv SM post) [.ref 0] σ := by
  rw [f_X12_step] at hf
  refine ct_of (by decide) rfl (Nat.le_of_ble_eq_true rfl) ?_
  show Ev SM RX12 cX12_step 2 none 1 (EQv SM post) 0 [some (.ref 0), none] [] σ
  obtain ⟨n42, hf⟩ := hf
  exact p_X12_step_L0 _ post (fun σ4 hf => by
    refine ev_aload_n (pc := 22) dX12_step_22 rfl (i := 0) rfl ?_
    refine ev_aload_n (pc := 23) dX12_step_23 rfl (i := 0) rfl ?_
    refine ev_get (pc := 24) fl_X12_77_12_9 rfl (by decide) rfl rfl dX12_step_24 ?_
    refine ev_puti (pc := 27) fp_X12_84_12_10 rfl (by decide) rfl rfl rfl dX12_step_27 ?_
    refine ev_aload_n (pc := 30) dX12_step_30 rfl (i := 0) rfl ?_
    refine ev_iconst (pc := 31) (v := 0) dX12_step_31 kc_0 ?_
    refine ev_nm (fun σ5 q5 => ?_)
    have hf := hf σ5 q5
    refine ev_puti (pc := 32) fp_X12_87_12_12 rfl (by decide) rfl rfl rfl dX12_step_32 ?_
    refine ev_aload_n (pc := 35) dX12_step_35 rfl (i := 0) rfl ?_
    refine ev_calli (pc := 36) (stk := []) (ce_V (c_X12_here (st_up σ5 0 12 0) _ hf) wv_X12_80_X12_here rfl (by decide) rfl (by decide) rfl (Nat.le_of_ble_eq_true rfl) rfl dX12_step_36) (fun x7 σ6 hf => ?_)
    refine ev_istore_n (pc := 39) (L' := [some (.ref 0), some (.int x7)]) dX12_step_39 rfl (by decide) rfl rfl ?_
    refine ev_iload_n (pc := 40) dX12_step_40 rfl (i := 1) rfl ?_
    refine ev_if_ge (pc := 41) (tgt := 52) dX12_step_41 (by decide) (fun c8 => ?_) (fun c8 => ?_)
    · have hf := hf.1 c8
      refine ev_iload_n (pc := 52) dX12_step_52 rfl (i := 1) rfl ?_
      refine ev_bipush (pc := 53) (v := 97) dX12_step_53 kb_97 ?_
      refine ev_bipush (pc := 55) (v := 122) dX12_step_55 kb_122 ?_
      refine ev_calli (pc := 57) (stk := []) (ce_S (c_X12_in x7 97 122 σ6 _ hf) wt_X12_69_X12_in  (by decide) rfl (Nat.le_of_ble_eq_true rfl) rfl dX12_step_57) (fun x10 σ9 hf => ?_)
      refine ev_if_eq (pc := 60) (tgt := 115) dX12_step_60 (by decide) (fun c11 => ?_) (fun c11 => ?_)
      · have hf := hf.1 c11
        refine ev_iload_n (pc := 115) dX12_step_115 rfl (i := 1) rfl ?_
        refine ev_bipush (pc := 116) (v := 48) dX12_step_116 kb_48 ?_
        refine ev_bipush (pc := 118) (v := 57) dX12_step_118 kb_57 ?_
        refine ev_calli (pc := 120) (stk := []) (ce_S (c_X12_in x7 48 57 σ9 _ hf) wt_X12_69_X12_in  (by decide) rfl (Nat.le_of_ble_eq_true rfl) rfl dX12_step_120) (fun x13 σ12 hf => ?_)
        refine ev_if_eq (pc := 123) (tgt := 228) dX12_step_123 (by decide) (fun c14 => ?_) (fun c14 => ?_)
        · have hf := hf.1 c14
          refine ev_aload_n (pc := 228) dX12_step_228 rfl (i := 0) rfl ?_
          refine ev_dup (pc := 229) dX12_step_229 rfl ?_
          refine ev_get (pc := 230) fl_X12_77_12_9 rfl (by decide) rfl rfl dX12_step_230 ?_
          refine ev_iconst (pc := 233) (v := 1) dX12_step_233 kc_1 ?_
          refine ev_iadd (pc := 234) dX12_step_234 ?_
          refine ev_puti (pc := 235) fp_X12_77_12_9 rfl (by decide) rfl rfl rfl dX12_step_235 ?_
          refine ev_aload_n (pc := 238) dX12_step_238 rfl (i := 0) rfl ?_
          refine ev_iload_n (pc := 239) dX12_step_239 rfl (i := 1) rfl ?_
          refine ev_bipush (pc := 240) (v := 59) dX12_step_240 kb_59 ?_
          refine ev_icmp_ne (pc := 242) (tgt := 249) dX12_step_242 (by decide) (fun c15 => ?_) (fun c15 => ?_)
          · have hf := hf.1 c15
            refine ev_iconst (pc := 249) (v := 4) dX12_step_249 kc_4 ?_
            refine ev_nm (fun σ16 q16 => ?_)
            have hf := hf σ16 q16
            refine ev_puti (pc := 250) fp_X12_90_12_11 rfl (by decide) rfl rfl rfl dX12_step_250 ?_
            exact ev_vret (pc := 253) rfl dX12_step_253 hf
          · have hf := hf.2 c15
            refine ev_iconst (pc := 245) (v := 2) dX12_step_245 kc_2 ?_
            refine ev_goto (pc := 246) (tgt := 250) dX12_step_246 (by decide) ?_
            refine ev_nm (fun σ17 q17 => ?_)
            have hf := hf σ17 q17
            refine ev_puti (pc := 250) fp_X12_90_12_11 rfl (by decide) rfl rfl rfl dX12_step_250 ?_
            exact ev_vret (pc := 253) rfl dX12_step_253 hf
        · have hf := hf.2 c14
          obtain ⟨n32, hf⟩ := hf
          exact p_X12_step_L126 _ post (fun x28 σ27 hf => by
            refine ev_aload_n (pc := 188) dX12_step_188 rfl (i := 0) rfl ?_
            refine ev_aload_n (pc := 189) dX12_step_189 rfl (i := 0) rfl ?_
            refine ev_get (pc := 190) fl_X12_87_12_12 rfl (by decide) rfl rfl dX12_step_190 ?_
            refine ev_bipush (pc := 193) (v := 99) dX12_step_193 kb_99 ?_
            refine ev_icmp_gt (pc := 195) (tgt := 217) dX12_step_195 (by decide) (fun c29 => ?_) (fun c29 => ?_)
            · have hf := hf.1 c29
              refine ev_iconst (pc := 217) (v := 4) dX12_step_217 kc_4 ?_
              refine ev_goto (pc := 218) (tgt := 222) dX12_step_218 (by decide) ?_
              refine ev_puti (pc := 222) fp_X12_90_12_11 rfl (by decide) rfl rfl rfl dX12_step_222 ?_
              refine ev_goto (pc := 225) (tgt := 253) dX12_step_225 (by decide) ?_
              exact ev_vret (pc := 253) rfl dX12_step_253 hf
            · have hf := hf.2 c29
              refine ev_iload_n (pc := 198) dX12_step_198 rfl (i := 1) rfl ?_
              refine ev_bipush (pc := 199) (v := 48) dX12_step_199 kb_48 ?_
              refine ev_icmp_ne (pc := 201) (tgt := 221) dX12_step_201 (by decide) (fun c30 => ?_) (fun c30 => ?_)
              · have hf := hf.1 c30
                refine ev_iconst (pc := 221) (v := 1) dX12_step_221 kc_1 ?_
                refine ev_puti (pc := 222) fp_X12_90_12_11 rfl (by decide) rfl rfl rfl dX12_step_222 ?_
                refine ev_goto (pc := 225) (tgt := 253) dX12_step_225 (by decide) ?_
                exact ev_vret (pc := 253) rfl dX12_step_253 hf
              · have hf := hf.2 c30
                refine ev_aload_n (pc := 204) dX12_step_204 rfl (i := 0) rfl ?_
                refine ev_get (pc := 205) fl_X12_77_12_9 rfl (by decide) rfl rfl dX12_step_205 ?_
                refine ev_aload_n (pc := 208) dX12_step_208 rfl (i := 0) rfl ?_
                refine ev_get (pc := 209) fl_X12_84_12_10 rfl (by decide) rfl rfl dX12_step_209 ?_
                refine ev_isub (pc := 212) dX12_step_212 ?_
                refine ev_iconst (pc := 213) (v := 1) dX12_step_213 kc_1 ?_
                refine ev_icmp_le (pc := 214) (tgt := 221) dX12_step_214 (by decide) (fun c31 => ?_) (fun c31 => ?_)
                · have hf := hf.1 c31
                  refine ev_iconst (pc := 221) (v := 1) dX12_step_221 kc_1 ?_
                  refine ev_puti (pc := 222) fp_X12_90_12_11 rfl (by decide) rfl rfl rfl dX12_step_222 ?_
                  refine ev_goto (pc := 225) (tgt := 253) dX12_step_225 (by decide) ?_
                  exact ev_vret (pc := 253) rfl dX12_step_253 hf
                · have hf := hf.2 c31
                  refine ev_iconst (pc := 217) (v := 4) dX12_step_217 kc_4 ?_
                  refine ev_goto (pc := 218) (tgt := 222) dX12_step_218 (by decide) ?_
                  refine ev_puti (pc := 222) fp_X12_90_12_11 rfl (by decide) rfl rfl rfl dX12_step_222 ?_
                  refine ev_goto (pc := 225) (tgt := 253) dX12_step_225 (by decide) ?_
                  exact ev_vret (pc := 253) rfl dX12_step_253 hf) n32 _ _ hf
      · have hf := hf.2 c11
        obtain ⟨n41, hf⟩ := hf
        exact p_X12_step_L63 _ post (fun x39 σ38 hf => by
          refine ev_aload_n (pc := 90) dX12_step_90 rfl (i := 0) rfl ?_
          refine ev_aload_n (pc := 91) dX12_step_91 rfl (i := 0) rfl ?_
          refine ev_get (pc := 92) fl_X12_77_12_9 rfl (by decide) rfl rfl dX12_step_92 ?_
          refine ev_aload_n (pc := 95) dX12_step_95 rfl (i := 0) rfl ?_
          refine ev_get (pc := 96) fl_X12_84_12_10 rfl (by decide) rfl rfl dX12_step_96 ?_
          refine ev_isub (pc := 99) dX12_step_99 ?_
          refine ev_iconst (pc := 100) (v := 1) dX12_step_100 kc_1 ?_
          refine ev_icmp_ne (pc := 101) (tgt := 108) dX12_step_101 (by decide) (fun c40 => ?_) (fun c40 => ?_)
          · have hf := hf.1 c40
            refine ev_iconst (pc := 108) (v := 4) dX12_step_108 kc_4 ?_
            refine ev_puti (pc := 109) fp_X12_90_12_11 rfl (by decide) rfl rfl rfl dX12_step_109 ?_
            refine ev_goto (pc := 112) (tgt := 253) dX12_step_112 (by decide) ?_
            exact ev_vret (pc := 253) rfl dX12_step_253 hf
          · have hf := hf.2 c40
            refine ev_iload_n (pc := 104) dX12_step_104 rfl (i := 1) rfl ?_
            refine ev_goto (pc := 105) (tgt := 109) dX12_step_105 (by decide) ?_
            refine ev_puti (pc := 109) fp_X12_90_12_11 rfl (by decide) rfl rfl rfl dX12_step_109 ?_
            refine ev_goto (pc := 112) (tgt := 253) dX12_step_112 (by decide) ?_
            exact ev_vret (pc := 253) rfl dX12_step_253 hf) n41 _ _ hf
    · have hf := hf.2 c8
      refine ev_aload_n (pc := 44) dX12_step_44 rfl (i := 0) rfl ?_
      refine ev_iconst (pc := 45) (v := 3) dX12_step_45 kc_3 ?_
      refine ev_puti (pc := 46) fp_X12_90_12_11 rfl (by decide) rfl rfl rfl dX12_step_46 ?_
      refine ev_goto (pc := 49) (tgt := 253) dX12_step_49 (by decide) ?_
      exact ev_vret (pc := 253) rfl dX12_step_253 hf) n42 _ hf
def f_X12_due (a1 : Int32) (σ : St) (post : Int32 → St → Prop) : Prop := (¬ (σ.1 0 13) = (-9) → (post (σ.1 0 12) σ)) ∧ ((σ.1 0 13) = (-9) → ((a1 = 0 → (post (σ.1 0 12) (st_up σ 0 13 (σ.1 0 10)))) ∧ (¬ a1 = 0 → (f_X12_step σ (fun σ3 => post (σ.1 0 12) σ3)))))
set_option maxRecDepth 100000 in
set_option maxHeartbeats 4000000 in
theorem c_X12_due (a1 : Int32) (σ : St) (post : Int32 → St → Prop) (hf : f_X12_due a1 σ post) : Ct SM yX12_due cX12_due 3 (some .int) 2 (EQi SM post) [.ref 0, .int a1] σ := by
  rw [f_X12_due] at hf
  refine ct_of (by decide) rfl (Nat.le_of_ble_eq_true rfl) ?_
  show Ev SM RX12 cX12_due 3 (some .int) 2 (EQi SM post) 0 [some (.ref 0), some (.int a1), none] [] σ
  refine ev_aload_n (pc := 0) dX12_due_0 rfl (i := 0) rfl ?_
  refine ev_get (pc := 1) fl_X12_87_12_12 rfl (by decide) rfl rfl dX12_due_1 ?_
  refine ev_istore_n (pc := 4) (L' := [some (.ref 0), some (.int a1), some (.int (σ.1 0 12))]) dX12_due_4 rfl (by decide) rfl rfl ?_
  refine ev_aload_n (pc := 5) dX12_due_5 rfl (i := 0) rfl ?_
  refine ev_get (pc := 6) fl_X12_93_12_13 rfl (by decide) rfl rfl dX12_due_6 ?_
  refine ev_bipush (pc := 9) (v := (-9)) dX12_due_9 kb_m9 ?_
  refine ev_icmp_ne (pc := 11) (tgt := 33) dX12_due_11 (by decide) (fun c1 => ?_) (fun c1 => ?_)
  · have hf := hf.1 c1
    refine ev_iload_n (pc := 33) dX12_due_33 rfl (i := 2) rfl ?_
    exact ev_iret (pc := 34) rfl dX12_due_34 hf
  · have hf := hf.2 c1
    refine ev_iload_n (pc := 14) dX12_due_14 rfl (i := 1) rfl ?_
    refine ev_if_eq (pc := 15) (tgt := 25) dX12_due_15 (by decide) (fun c2 => ?_) (fun c2 => ?_)
    · have hf := hf.1 c2
      refine ev_aload_n (pc := 25) dX12_due_25 rfl (i := 0) rfl ?_
      refine ev_aload_n (pc := 26) dX12_due_26 rfl (i := 0) rfl ?_
      refine ev_get (pc := 27) fl_X12_84_12_10 rfl (by decide) rfl rfl dX12_due_27 ?_
      refine ev_puti (pc := 30) fp_X12_93_12_13 rfl (by decide) rfl rfl rfl dX12_due_30 ?_
      refine ev_iload_n (pc := 33) dX12_due_33 rfl (i := 2) rfl ?_
      exact ev_iret (pc := 34) rfl dX12_due_34 hf
    · have hf := hf.2 c2
      refine ev_aload_n (pc := 18) dX12_due_18 rfl (i := 0) rfl ?_
      refine ev_callv (pc := 19) (stk := []) (ce_V (c_X12_step σ _ hf) wv_X12_96_X12_step rfl (by decide) rfl (by decide) rfl (Nat.le_of_ble_eq_true rfl) rfl dX12_due_19) (fun σ3 hf => ?_)
      refine ev_goto (pc := 22) (tgt := 33) dX12_due_22 (by decide) ?_
      refine ev_iload_n (pc := 33) dX12_due_33 rfl (i := 2) rfl ?_
      exact ev_iret (pc := 34) rfl dX12_due_34 hf
def f_X12_number (a1 : Int32) (a2 : Int32) (σ : St) (post : Int32 → St → Prop) : Prop := (¬ (σ.1 0 11) = 1 → (f_X12_due 0 σ (fun x3 σ2 => post x3 σ2))) ∧ ((σ.1 0 11) = 1 → (f_X12_in (σ.1 0 12) a1 a2 σ (fun x5 σ4 => (x5 = 0 → (f_X12_due 0 σ4 (fun x8 σ7 => post x8 σ7))) ∧ (¬ x5 = 0 → (f_X12_due 1 σ4 (fun x10 σ9 => post x10 σ9))))))
set_option maxRecDepth 100000 in
set_option maxHeartbeats 4000000 in
theorem c_X12_number (a1 : Int32) (a2 : Int32) (σ : St) (post : Int32 → St → Prop) (hf : f_X12_number a1 a2 σ post) : Ct SM yX12_number cX12_number 3 (some .int) 3 (EQi SM post) [.ref 0, .int a1, .int a2] σ := by
  rw [f_X12_number] at hf
  refine ct_of (by decide) rfl (Nat.le_of_ble_eq_true rfl) ?_
  show Ev SM RX12 cX12_number 3 (some .int) 3 (EQi SM post) 0 [some (.ref 0), some (.int a1), some (.int a2)] [] σ
  refine ev_aload_n (pc := 0) dX12_number_0 rfl (i := 0) rfl ?_
  refine ev_aload_n (pc := 1) dX12_number_1 rfl (i := 0) rfl ?_
  refine ev_get (pc := 2) fl_X12_90_12_11 rfl (by decide) rfl rfl dX12_number_2 ?_
  refine ev_iconst (pc := 5) (v := 1) dX12_number_5 kc_1 ?_
  refine ev_icmp_ne (pc := 6) (tgt := 25) dX12_number_6 (by decide) (fun c1 => ?_) (fun c1 => ?_)
  · have hf := hf.1 c1
    refine ev_iconst (pc := 25) (v := 0) dX12_number_25 kc_0 ?_
    refine ev_calli (pc := 26) (stk := []) (ce_V (c_X12_due 0 σ _ hf) wv_X12_99_X12_due rfl (by decide) rfl (by decide) rfl (Nat.le_of_ble_eq_true rfl) rfl dX12_number_26) (fun x3 σ2 hf => ?_)
    exact ev_iret (pc := 29) rfl dX12_number_29 hf
  · have hf := hf.2 c1
    refine ev_aload_n (pc := 9) dX12_number_9 rfl (i := 0) rfl ?_
    refine ev_get (pc := 10) fl_X12_87_12_12 rfl (by decide) rfl rfl dX12_number_10 ?_
    refine ev_iload_n (pc := 13) dX12_number_13 rfl (i := 1) rfl ?_
    refine ev_iload_n (pc := 14) dX12_number_14 rfl (i := 2) rfl ?_
    refine ev_calli (pc := 15) (stk := [.ref 0]) (ce_S (c_X12_in (σ.1 0 12) a1 a2 σ _ hf) wt_X12_69_X12_in  (by decide) rfl (Nat.le_of_ble_eq_true rfl) rfl dX12_number_15) (fun x5 σ4 hf => ?_)
    refine ev_if_eq (pc := 18) (tgt := 25) dX12_number_18 (by decide) (fun c6 => ?_) (fun c6 => ?_)
    · have hf := hf.1 c6
      refine ev_iconst (pc := 25) (v := 0) dX12_number_25 kc_0 ?_
      refine ev_calli (pc := 26) (stk := []) (ce_V (c_X12_due 0 σ4 _ hf) wv_X12_99_X12_due rfl (by decide) rfl (by decide) rfl (Nat.le_of_ble_eq_true rfl) rfl dX12_number_26) (fun x8 σ7 hf => ?_)
      exact ev_iret (pc := 29) rfl dX12_number_29 hf
    · have hf := hf.2 c6
      refine ev_iconst (pc := 21) (v := 1) dX12_number_21 kc_1 ?_
      refine ev_goto (pc := 22) (tgt := 26) dX12_number_22 (by decide) ?_
      refine ev_calli (pc := 26) (stk := []) (ce_V (c_X12_due 1 σ4 _ hf) wv_X12_99_X12_due rfl (by decide) rfl (by decide) rfl (Nat.le_of_ble_eq_true rfl) rfl dX12_number_26) (fun x10 σ9 hf => ?_)
      exact ev_iret (pc := 29) rfl dX12_number_29 hf
def f_X12_readNear_J96 (a1 : Int32) (post : St → Prop) (v2 : Int32) (v3 : Int32) (v4 : Int32) (s0 : Int32) (s1 : Int32) (σ : St) : Prop := vp_in s1 72 ∧ ((a1 = 0 → (∀ σ12 : St, σ12 = (st_up σ 5 s1.toNatClampNeg s0) → (vp_in ((36 + (6 * v3)) + v2) 72 ∧ (post (st_up σ12 5 (((36 + (6 * v3)) + v2).toNatClampNeg) v4))))) ∧ (¬ a1 = 0 → (∀ σ14 : St, σ14 = (st_up σ 5 s1.toNatClampNeg s0) → (vp_in ((36 + (6 * v3)) + v2) 72 ∧ (post (st_up σ14 5 (((36 + (6 * v3)) + v2).toNatClampNeg) (-v4)))))))
set_option maxRecDepth 100000 in
set_option maxHeartbeats 4000000 in
theorem p_X12_readNear_J96 (a1 : Int32) (post : St → Prop) (v2 : Int32) (v3 : Int32) (v4 : Int32) (s0 : Int32) (s1 : Int32) (σ : St) (hf : f_X12_readNear_J96 a1 post v2 v3 v4 s0 s1 σ) : Ev SM RX12 cX12_readNear 5 none 4 (EQv SM post) 96 [some (.ref 0), some (.int a1), some (.int v2), some (.int v3), some (.int v4)] [.int s0, .int s1, .ref 5] σ := by
  rw [f_X12_readNear_J96] at hf
  obtain ⟨h10, hf⟩ := hf
  refine ev_iast (pc := 96) rfl rfl h10 rfl dX12_readNear_96 ?_
  refine ev_aload_n (pc := 97) dX12_readNear_97 rfl (i := 0) rfl ?_
  refine ev_get (pc := 98) fl_X12_23_12_6 rfl (by decide) rfl rfl dX12_readNear_98 ?_
  refine ev_bipush (pc := 101) (v := 36) dX12_readNear_101 kb_36 ?_
  refine ev_bipush (pc := 103) (v := 6) dX12_readNear_103 kb_6 ?_
  refine ev_iload_n (pc := 105) dX12_readNear_105 rfl (i := 3) rfl ?_
  refine ev_imul (pc := 106) dX12_readNear_106 ?_
  refine ev_iadd (pc := 107) dX12_readNear_107 ?_
  refine ev_iload_n (pc := 108) dX12_readNear_108 rfl (i := 2) rfl ?_
  refine ev_iadd (pc := 109) dX12_readNear_109 ?_
  refine ev_iload_n (pc := 110) dX12_readNear_110 rfl (i := 1) rfl ?_
  refine ev_if_eq (pc := 111) (tgt := 120) dX12_readNear_111 (by decide) (fun c11 => ?_) (fun c11 => ?_)
  · have hf := hf.1 c11
    refine ev_iload (pc := 120) dX12_readNear_120 rfl ?_
    refine ev_nm (fun σ12 q12 => ?_)
    have hf := hf σ12 q12
    obtain ⟨h13, hf⟩ := hf
    refine ev_iast (pc := 122) rfl rfl h13 rfl dX12_readNear_122 ?_
    exact ev_vret (pc := 123) rfl dX12_readNear_123 hf
  · have hf := hf.2 c11
    refine ev_iload (pc := 114) dX12_readNear_114 rfl ?_
    refine ev_ineg (pc := 116) dX12_readNear_116 ?_
    refine ev_goto (pc := 117) (tgt := 122) dX12_readNear_117 (by decide) ?_
    refine ev_nm (fun σ14 q14 => ?_)
    have hf := hf σ14 q14
    obtain ⟨h15, hf⟩ := hf
    refine ev_iast (pc := 122) rfl rfl h15 rfl dX12_readNear_122 ?_
    exact ev_vret (pc := 123) rfl dX12_readNear_123 hf
def f_X12_readNear_J49 (a1 : Int32) (post : St → Prop) (v2 : Int32) (s0 : Int32) (σ : St) : Prop := f_X12_due s0 σ (fun x5 σ4 => f_X12_number 0 9 σ4 (fun x7 σ6 => (¬ (σ6.1 0 13) = (-9) → (post σ6)) ∧ ((σ6.1 0 13) = (-9) → ((a1 = 0 → (f_X12_readNear_J96 a1 post v2 x5 x7 x7 ((36 + (6 * v2)) + x5) σ6)) ∧ (¬ a1 = 0 → (f_X12_readNear_J96 a1 post v2 x5 x7 (-x7) ((36 + (6 * v2)) + x5) σ6))))))
set_option maxRecDepth 100000 in
set_option maxHeartbeats 4000000 in
theorem p_X12_readNear_J49 (a1 : Int32) (post : St → Prop) (v2 : Int32) (s0 : Int32) (σ : St) (hf : f_X12_readNear_J49 a1 post v2 s0 σ) : Ev SM RX12 cX12_readNear 5 none 4 (EQv SM post) 49 [some (.ref 0), some (.int a1), some (.int v2), none, none] [.int s0, .ref 0] σ := by
  rw [f_X12_readNear_J49] at hf
  refine ev_calli (pc := 49) (stk := []) (ce_V (c_X12_due s0 σ _ hf) wv_X12_99_X12_due rfl (by decide) rfl (by decide) rfl (Nat.le_of_ble_eq_true rfl) rfl dX12_readNear_49) (fun x5 σ4 hf => ?_)
  refine ev_istore_n (pc := 52) (L' := [some (.ref 0), some (.int a1), some (.int v2), some (.int x5), none]) dX12_readNear_52 rfl (by decide) rfl rfl ?_
  refine ev_aload_n (pc := 53) dX12_readNear_53 rfl (i := 0) rfl ?_
  refine ev_iconst (pc := 54) (v := 0) dX12_readNear_54 kc_0 ?_
  refine ev_bipush (pc := 55) (v := 9) dX12_readNear_55 kb_9 ?_
  refine ev_calli (pc := 57) (stk := []) (ce_V (c_X12_number 0 9 σ4 _ hf) wv_X12_110_X12_number rfl (by decide) rfl (by decide) rfl (Nat.le_of_ble_eq_true rfl) rfl dX12_readNear_57) (fun x7 σ6 hf => ?_)
  refine ev_istore (pc := 60) (L' := [some (.ref 0), some (.int a1), some (.int v2), some (.int x5), some (.int x7)]) dX12_readNear_60 (by decide) rfl rfl ?_
  refine ev_aload_n (pc := 62) dX12_readNear_62 rfl (i := 0) rfl ?_
  refine ev_get (pc := 63) fl_X12_93_12_13 rfl (by decide) rfl rfl dX12_readNear_63 ?_
  refine ev_bipush (pc := 66) (v := (-9)) dX12_readNear_66 kb_m9 ?_
  refine ev_icmp_ne (pc := 68) (tgt := 123) dX12_readNear_68 (by decide) (fun c8 => ?_) (fun c8 => ?_)
  · have hf := hf.1 c8
    exact ev_vret (pc := 123) rfl dX12_readNear_123 hf
  · have hf := hf.2 c8
    refine ev_aload_n (pc := 71) dX12_readNear_71 rfl (i := 0) rfl ?_
    refine ev_get (pc := 72) fl_X12_23_12_6 rfl (by decide) rfl rfl dX12_readNear_72 ?_
    refine ev_bipush (pc := 75) (v := 36) dX12_readNear_75 kb_36 ?_
    refine ev_bipush (pc := 77) (v := 6) dX12_readNear_77 kb_6 ?_
    refine ev_iload_n (pc := 79) dX12_readNear_79 rfl (i := 2) rfl ?_
    refine ev_imul (pc := 80) dX12_readNear_80 ?_
    refine ev_iadd (pc := 81) dX12_readNear_81 ?_
    refine ev_iload_n (pc := 82) dX12_readNear_82 rfl (i := 3) rfl ?_
    refine ev_iadd (pc := 83) dX12_readNear_83 ?_
    refine ev_iload_n (pc := 84) dX12_readNear_84 rfl (i := 1) rfl ?_
    refine ev_if_eq (pc := 85) (tgt := 94) dX12_readNear_85 (by decide) (fun c9 => ?_) (fun c9 => ?_)
    · have hf := hf.1 c9
      refine ev_iload (pc := 94) dX12_readNear_94 rfl ?_
      exact p_X12_readNear_J96 a1 post _ _ _ _ _ _ hf
    · have hf := hf.2 c9
      refine ev_iload (pc := 88) dX12_readNear_88 rfl ?_
      refine ev_ineg (pc := 90) dX12_readNear_90 ?_
      refine ev_goto (pc := 91) (tgt := 96) dX12_readNear_91 (by decide) ?_
      exact p_X12_readNear_J96 a1 post _ _ _ _ _ _ hf
def f_X12_readNear_J48 (a1 : Int32) (post : St → Prop) (v2 : Int32) (σ : St) : Prop := f_X12_readNear_J49 a1 post v2 0 σ
set_option maxRecDepth 100000 in
set_option maxHeartbeats 4000000 in
theorem p_X12_readNear_J48 (a1 : Int32) (post : St → Prop) (v2 : Int32) (σ : St) (hf : f_X12_readNear_J48 a1 post v2 σ) : Ev SM RX12 cX12_readNear 5 none 4 (EQv SM post) 48 [some (.ref 0), some (.int a1), some (.int v2), none, none] [.ref 0] σ := by
  rw [f_X12_readNear_J48] at hf
  refine ev_iconst (pc := 48) (v := 0) dX12_readNear_48 kc_0 ?_
  exact p_X12_readNear_J49 a1 post _ _ _ hf
def f_X12_readNear (a1 : Int32) (σ : St) (post : St → Prop) : Prop := f_X12_number 0 ((σ.1 2 1) - 1) σ (fun x2 σ1 => (¬ (σ1.1 0 11) = 1 → (f_X12_readNear_J48 a1 post x2 σ1)) ∧ ((σ1.1 0 11) = 1 → (((σ1.1 2 1) ≤ (σ1.1 0 12) → (f_X12_readNear_J48 a1 post x2 σ1)) ∧ (¬ (σ1.1 2 1) ≤ (σ1.1 0 12) → (((σ1.1 0 12) = x2 → (f_X12_readNear_J48 a1 post x2 σ1)) ∧ (¬ (σ1.1 0 12) = x2 → (f_X12_readNear_J49 a1 post x2 1 σ1)))))))
set_option maxRecDepth 100000 in
set_option maxHeartbeats 4000000 in
theorem c_X12_readNear (a1 : Int32) (σ : St) (post : St → Prop) (hf : f_X12_readNear a1 σ post) : Ct SM yX12_readNear cX12_readNear 5 none 4 (EQv SM post) [.ref 0, .int a1] σ := by
  rw [f_X12_readNear] at hf
  refine ct_of (by decide) rfl (Nat.le_of_ble_eq_true rfl) ?_
  show Ev SM RX12 cX12_readNear 5 none 4 (EQv SM post) 0 [some (.ref 0), some (.int a1), none, none, none] [] σ
  refine ev_aload_n (pc := 0) dX12_readNear_0 rfl (i := 0) rfl ?_
  refine ev_iconst (pc := 1) (v := 0) dX12_readNear_1 kc_0 ?_
  refine ev_aload_n (pc := 2) dX12_readNear_2 rfl (i := 0) rfl ?_
  refine ev_get (pc := 3) fl_X12_13_12_3 rfl (by decide) rfl rfl dX12_readNear_3 ?_
  refine ev_iconst (pc := 6) (v := 1) dX12_readNear_6 kc_1 ?_
  refine ev_iald (pc := 7) rfl rfl ki_1_2 kn_1 dX12_readNear_7 ?_
  refine ev_iconst (pc := 8) (v := 1) dX12_readNear_8 kc_1 ?_
  refine ev_isub (pc := 9) dX12_readNear_9 ?_
  refine ev_calli (pc := 10) (stk := []) (ce_V (c_X12_number 0 ((σ.1 2 1) - 1) σ _ hf) wv_X12_110_X12_number rfl (by decide) rfl (by decide) rfl (Nat.le_of_ble_eq_true rfl) rfl dX12_readNear_10) (fun x2 σ1 hf => ?_)
  refine ev_istore_n (pc := 13) (L' := [some (.ref 0), some (.int a1), some (.int x2), none, none]) dX12_readNear_13 rfl (by decide) rfl rfl ?_
  refine ev_aload_n (pc := 14) dX12_readNear_14 rfl (i := 0) rfl ?_
  refine ev_aload_n (pc := 15) dX12_readNear_15 rfl (i := 0) rfl ?_
  refine ev_get (pc := 16) fl_X12_90_12_11 rfl (by decide) rfl rfl dX12_readNear_16 ?_
  refine ev_iconst (pc := 19) (v := 1) dX12_readNear_19 kc_1 ?_
  refine ev_icmp_ne (pc := 20) (tgt := 48) dX12_readNear_20 (by decide) (fun c3 => ?_) (fun c3 => ?_)
  · have hf := hf.1 c3
    exact p_X12_readNear_J48 a1 post _ _ hf
  · have hf := hf.2 c3
    refine ev_aload_n (pc := 23) dX12_readNear_23 rfl (i := 0) rfl ?_
    refine ev_get (pc := 24) fl_X12_87_12_12 rfl (by decide) rfl rfl dX12_readNear_24 ?_
    refine ev_aload_n (pc := 27) dX12_readNear_27 rfl (i := 0) rfl ?_
    refine ev_get (pc := 28) fl_X12_13_12_3 rfl (by decide) rfl rfl dX12_readNear_28 ?_
    refine ev_iconst (pc := 31) (v := 1) dX12_readNear_31 kc_1 ?_
    refine ev_iald (pc := 32) rfl rfl ki_1_2 kn_1 dX12_readNear_32 ?_
    refine ev_icmp_ge (pc := 33) (tgt := 48) dX12_readNear_33 (by decide) (fun c16 => ?_) (fun c16 => ?_)
    · have hf := hf.1 c16
      exact p_X12_readNear_J48 a1 post _ _ hf
    · have hf := hf.2 c16
      refine ev_aload_n (pc := 36) dX12_readNear_36 rfl (i := 0) rfl ?_
      refine ev_get (pc := 37) fl_X12_87_12_12 rfl (by decide) rfl rfl dX12_readNear_37 ?_
      refine ev_iload_n (pc := 40) dX12_readNear_40 rfl (i := 2) rfl ?_
      refine ev_icmp_eq (pc := 41) (tgt := 48) dX12_readNear_41 (by decide) (fun c17 => ?_) (fun c17 => ?_)
      · have hf := hf.1 c17
        exact p_X12_readNear_J48 a1 post _ _ hf
      · have hf := hf.2 c17
        refine ev_iconst (pc := 44) (v := 1) dX12_readNear_44 kc_1 ?_
        refine ev_goto (pc := 45) (tgt := 49) dX12_readNear_45 (by decide) ?_
        exact p_X12_readNear_J49 a1 post _ _ _ hf
def f_X12_readRow_J96 (a1 : Int32) (post : St → Prop) (σ : St) : Prop := (¬ a1 = 101 → (f_X12_readNear 0 σ (fun σ7 => post σ7))) ∧ (a1 = 101 → (f_X12_readNear 1 σ (fun σ9 => post σ9)))
set_option maxRecDepth 100000 in
set_option maxHeartbeats 4000000 in
theorem p_X12_readRow_J96 (a1 : Int32) (post : St → Prop) (σ : St) (hf : f_X12_readRow_J96 a1 post σ) : Ev SM RX12 cX12_readRow 2 none 5 (EQv SM post) 96 [some (.ref 0), some (.int a1)] [] σ := by
  rw [f_X12_readRow_J96] at hf
  refine ev_aload_n (pc := 96) dX12_readRow_96 rfl (i := 0) rfl ?_
  refine ev_iload_n (pc := 97) dX12_readRow_97 rfl (i := 1) rfl ?_
  refine ev_bipush (pc := 98) (v := 101) dX12_readRow_98 kb_101 ?_
  refine ev_icmp_ne (pc := 100) (tgt := 107) dX12_readRow_100 (by decide) (fun c6 => ?_) (fun c6 => ?_)
  · have hf := hf.1 c6
    refine ev_iconst (pc := 107) (v := 0) dX12_readRow_107 kc_0 ?_
    refine ev_callv (pc := 108) (stk := []) (ce_V (c_X12_readNear 0 σ _ hf) wv_X12_114_X12_readNear rfl (by decide) rfl (by decide) rfl (Nat.le_of_ble_eq_true rfl) rfl dX12_readRow_108) (fun σ7 hf => ?_)
    refine ev_goto (pc := 111) (tgt := 153) dX12_readRow_111 (by decide) ?_
    exact ev_vret (pc := 153) rfl dX12_readRow_153 hf
  · have hf := hf.2 c6
    refine ev_iconst (pc := 103) (v := 1) dX12_readRow_103 kc_1 ?_
    refine ev_goto (pc := 104) (tgt := 108) dX12_readRow_104 (by decide) ?_
    refine ev_callv (pc := 108) (stk := []) (ce_V (c_X12_readNear 1 σ _ hf) wv_X12_114_X12_readNear rfl (by decide) rfl (by decide) rfl (Nat.le_of_ble_eq_true rfl) rfl dX12_readRow_108) (fun σ9 hf => ?_)
    refine ev_goto (pc := 111) (tgt := 153) dX12_readRow_111 (by decide) ?_
    exact ev_vret (pc := 153) rfl dX12_readRow_153 hf
def f_X12_readRow (a1 : Int32) (σ : St) (post : St → Prop) : Prop := (a1 = 99 → (f_X12_number 1 6 σ (fun x3 σ2 => ∀ σ4 : St, σ4 = (st_up σ2 6 1 x3) → (post (st_up σ4 0 14 1))))) ∧ (a1 = 101 → (f_X12_readRow_J96 a1 post σ)) ∧ (a1 = 109 → (f_X12_number 0 99 σ (fun x13 σ12 => vp_in (σ.1 2 1) 6 ∧ (f_X12_number 0 9 (st_up σ12 4 ((σ.1 2 1).toNatClampNeg) x13) (fun x16 σ15 => vp_in (6 + ((st_up σ12 4 ((σ.1 2 1).toNatClampNeg) x13).1 2 1)) 12 ∧ (∀ σ18 : St, σ18 = (st_up σ15 3 ((6 + ((st_up σ12 4 ((σ.1 2 1).toNatClampNeg) x13).1 2 1)).toNatClampNeg) x16) → (post (st_up σ18 2 1 (((st_up σ15 3 ((6 + ((st_up σ12 4 ((σ.1 2 1).toNatClampNeg) x13).1 2 1)).toNatClampNeg) x16).1 2 1) + 1))))))))) ∧ (a1 = 114 → (f_X12_readRow_J96 a1 post σ)) ∧ (¬ a1 = 99 → ¬ a1 = 101 → ¬ a1 = 109 → ¬ a1 = 114 → (f_X12_number 0 50 σ (fun x21 σ20 => ∀ σ22 : St, σ22 = (st_up σ20 7 1 x21) → (post (st_up σ22 0 15 1)))))
set_option maxRecDepth 100000 in
set_option maxHeartbeats 4000000 in
theorem c_X12_readRow (a1 : Int32) (σ : St) (post : St → Prop) (hf : f_X12_readRow a1 σ post) : Ct SM yX12_readRow cX12_readRow 2 none 5 (EQv SM post) [.ref 0, .int a1] σ := by
  rw [f_X12_readRow] at hf
  refine ct_of (by decide) rfl (Nat.le_of_ble_eq_true rfl) ?_
  show Ev SM RX12 cX12_readRow 2 none 5 (EQv SM post) 0 [some (.ref 0), some (.int a1)] [] σ
  refine ev_iload_n (pc := 0) dX12_readRow_0 rfl (i := 1) rfl ?_
  by_cases e1 : a1 = 99
  · have hf := hf.1 e1
    refine ev_look (pc := 1) (off := 113) (tgt := 114) dX12_readRow_1 (by decide) (by rw [e1]; decide) (by decide) ?_
    refine ev_aload_n (pc := 114) dX12_readRow_114 rfl (i := 0) rfl ?_
    refine ev_get (pc := 115) fl_X12_26_12_7 rfl (by decide) rfl rfl dX12_readRow_115 ?_
    refine ev_iconst (pc := 118) (v := 1) dX12_readRow_118 kc_1 ?_
    refine ev_aload_n (pc := 119) dX12_readRow_119 rfl (i := 0) rfl ?_
    refine ev_iconst (pc := 120) (v := 1) dX12_readRow_120 kc_1 ?_
    refine ev_bipush (pc := 121) (v := 6) dX12_readRow_121 kb_6 ?_
    refine ev_calli (pc := 123) (stk := [.int 1, .ref 6]) (ce_V (c_X12_number 1 6 σ _ hf) wv_X12_110_X12_number rfl (by decide) rfl (by decide) rfl (Nat.le_of_ble_eq_true rfl) rfl dX12_readRow_123) (fun x3 σ2 hf => ?_)
    refine ev_iast (pc := 126) rfl rfl ki_1_2 kn_1 dX12_readRow_126 ?_
    refine ev_aload_n (pc := 127) dX12_readRow_127 rfl (i := 0) rfl ?_
    refine ev_iconst (pc := 128) (v := 1) dX12_readRow_128 kc_1 ?_
    refine ev_nm (fun σ4 q4 => ?_)
    have hf := hf σ4 q4
    refine ev_puti (pc := 129) fp_X12_103_12_14 rfl (by decide) rfl rfl rfl dX12_readRow_129 ?_
    refine ev_goto (pc := 132) (tgt := 153) dX12_readRow_132 (by decide) ?_
    exact ev_vret (pc := 153) rfl dX12_readRow_153 hf
  by_cases e5 : a1 = 101
  · have hf := hf.2.1 e5
    refine ev_look (pc := 1) (off := 95) (tgt := 96) dX12_readRow_1 (by decide) (by rw [e5]; decide) (by decide) ?_
    exact p_X12_readRow_J96 a1 post _ hf
  by_cases e11 : a1 = 109
  · have hf := hf.2.2.1 e11
    refine ev_look (pc := 1) (off := 43) (tgt := 44) dX12_readRow_1 (by decide) (by rw [e11]; decide) (by decide) ?_
    refine ev_aload_n (pc := 44) dX12_readRow_44 rfl (i := 0) rfl ?_
    refine ev_get (pc := 45) fl_X12_20_12_5 rfl (by decide) rfl rfl dX12_readRow_45 ?_
    refine ev_aload_n (pc := 48) dX12_readRow_48 rfl (i := 0) rfl ?_
    refine ev_get (pc := 49) fl_X12_13_12_3 rfl (by decide) rfl rfl dX12_readRow_49 ?_
    refine ev_iconst (pc := 52) (v := 1) dX12_readRow_52 kc_1 ?_
    refine ev_iald (pc := 53) rfl rfl ki_1_2 kn_1 dX12_readRow_53 ?_
    refine ev_aload_n (pc := 54) dX12_readRow_54 rfl (i := 0) rfl ?_
    refine ev_iconst (pc := 55) (v := 0) dX12_readRow_55 kc_0 ?_
    refine ev_bipush (pc := 56) (v := 99) dX12_readRow_56 kb_99 ?_
    refine ev_calli (pc := 58) (stk := [.int (σ.1 2 1), .ref 4]) (ce_V (c_X12_number 0 99 σ _ hf) wv_X12_110_X12_number rfl (by decide) rfl (by decide) rfl (Nat.le_of_ble_eq_true rfl) rfl dX12_readRow_58) (fun x13 σ12 hf => ?_)
    obtain ⟨h14, hf⟩ := hf
    refine ev_iast (pc := 61) rfl rfl h14 rfl dX12_readRow_61 ?_
    refine ev_aload_n (pc := 62) dX12_readRow_62 rfl (i := 0) rfl ?_
    refine ev_get (pc := 63) fl_X12_17_12_4 rfl (by decide) rfl rfl dX12_readRow_63 ?_
    refine ev_bipush (pc := 66) (v := 6) dX12_readRow_66 kb_6 ?_
    refine ev_aload_n (pc := 68) dX12_readRow_68 rfl (i := 0) rfl ?_
    refine ev_get (pc := 69) fl_X12_13_12_3 rfl (by decide) rfl rfl dX12_readRow_69 ?_
    refine ev_iconst (pc := 72) (v := 1) dX12_readRow_72 kc_1 ?_
    refine ev_iald (pc := 73) rfl rfl ki_1_2 kn_1 dX12_readRow_73 ?_
    refine ev_iadd (pc := 74) dX12_readRow_74 ?_
    refine ev_aload_n (pc := 75) dX12_readRow_75 rfl (i := 0) rfl ?_
    refine ev_iconst (pc := 76) (v := 0) dX12_readRow_76 kc_0 ?_
    refine ev_bipush (pc := 77) (v := 9) dX12_readRow_77 kb_9 ?_
    refine ev_calli (pc := 79) (stk := [.int (6 + ((st_up σ12 4 ((σ.1 2 1).toNatClampNeg) x13).1 2 1)), .ref 3]) (ce_V (c_X12_number 0 9 (st_up σ12 4 ((σ.1 2 1).toNatClampNeg) x13) _ hf) wv_X12_110_X12_number rfl (by decide) rfl (by decide) rfl (Nat.le_of_ble_eq_true rfl) rfl dX12_readRow_79) (fun x16 σ15 hf => ?_)
    obtain ⟨h17, hf⟩ := hf
    refine ev_iast (pc := 82) rfl rfl h17 rfl dX12_readRow_82 ?_
    refine ev_aload_n (pc := 83) dX12_readRow_83 rfl (i := 0) rfl ?_
    refine ev_get (pc := 84) fl_X12_13_12_3 rfl (by decide) rfl rfl dX12_readRow_84 ?_
    refine ev_iconst (pc := 87) (v := 1) dX12_readRow_87 kc_1 ?_
    refine ev_dup2 (pc := 88) dX12_readRow_88 rfl rfl ?_
    refine ev_iald (pc := 89) rfl rfl ki_1_2 kn_1 dX12_readRow_89 ?_
    refine ev_iconst (pc := 90) (v := 1) dX12_readRow_90 kc_1 ?_
    refine ev_iadd (pc := 91) dX12_readRow_91 ?_
    refine ev_nm (fun σ18 q18 => ?_)
    have hf := hf σ18 q18
    refine ev_iast (pc := 92) rfl rfl ki_1_2 kn_1 dX12_readRow_92 ?_
    refine ev_goto (pc := 93) (tgt := 153) dX12_readRow_93 (by decide) ?_
    exact ev_vret (pc := 153) rfl dX12_readRow_153 hf
  by_cases e19 : a1 = 114
  · have hf := hf.2.2.2.1 e19
    refine ev_look (pc := 1) (off := 95) (tgt := 96) dX12_readRow_1 (by decide) (by rw [e19]; decide) (by decide) ?_
    exact p_X12_readRow_J96 a1 post _ hf
  have hf := hf.2.2.2.2 e1 e5 e11 e19
  refine ev_look (pc := 1) (off := 134) (tgt := 135) dX12_readRow_1 (by decide) (look_out (fun q hq => by
    simp only [List.mem_cons, List.not_mem_nil, or_false] at hq
    rcases hq with rfl | rfl | rfl | rfl
    · exact int_ne e1 (by decide)
    · exact int_ne e5 (by decide)
    · exact int_ne e11 (by decide)
    · exact int_ne e19 (by decide))) (by decide) ?_
  refine ev_aload_n (pc := 135) dX12_readRow_135 rfl (i := 0) rfl ?_
  refine ev_get (pc := 136) fl_X12_29_12_8 rfl (by decide) rfl rfl dX12_readRow_136 ?_
  refine ev_iconst (pc := 139) (v := 1) dX12_readRow_139 kc_1 ?_
  refine ev_aload_n (pc := 140) dX12_readRow_140 rfl (i := 0) rfl ?_
  refine ev_iconst (pc := 141) (v := 0) dX12_readRow_141 kc_0 ?_
  refine ev_bipush (pc := 142) (v := 50) dX12_readRow_142 kb_50 ?_
  refine ev_calli (pc := 144) (stk := [.int 1, .ref 7]) (ce_V (c_X12_number 0 50 σ _ hf) wv_X12_110_X12_number rfl (by decide) rfl (by decide) rfl (Nat.le_of_ble_eq_true rfl) rfl dX12_readRow_144) (fun x21 σ20 hf => ?_)
  refine ev_iast (pc := 147) rfl rfl ki_1_2 kn_1 dX12_readRow_147 ?_
  refine ev_aload_n (pc := 148) dX12_readRow_148 rfl (i := 0) rfl ?_
  refine ev_iconst (pc := 149) (v := 1) dX12_readRow_149 kc_1 ?_
  refine ev_nm (fun σ22 q22 => ?_)
  have hf := hf σ22 q22
  refine ev_puti (pc := 150) fp_X12_107_12_15 rfl (by decide) rfl rfl rfl dX12_readRow_150 ?_
  exact ev_vret (pc := 153) rfl dX12_readRow_153 hf
def f_X12_plain_L33 (post : St → Prop) : Nat → Int32 → St → Prop
  | 0, _, _ => False
  | n + 1, v1, σ => (36 ≤ v1 → (post σ)) ∧ (¬ 36 ≤ v1 → (vp_in (36 + v1) 72 ∧ ((f_X12_plain_L33 post n) (v1 + 1) (st_up σ 5 ((36 + v1).toNatClampNeg) 0))))
set_option maxRecDepth 100000 in
set_option maxHeartbeats 4000000 in
theorem p_X12_plain_L33 (post : St → Prop) : ∀ (n : Nat) (v1 : Int32) (σ : St), f_X12_plain_L33 post n v1 σ → Ev SM RX12 cX12_plain 2 none 0 (EQv SM post) 33 [some (.ref 0), some (.int v1)] [] σ := by
  intro n
  induction n with
  | zero =>
    intro v1 σ hf
    exact hf.elim
  | succ n hagain33 =>
    intro v1 σ hf
    rw [f_X12_plain_L33] at hf
    refine ev_iload_n (pc := 33) dX12_plain_33 rfl (i := 1) rfl ?_
    refine ev_bipush (pc := 34) (v := 36) dX12_plain_34 kb_36 ?_
    refine ev_icmp_ge (pc := 36) (tgt := 55) dX12_plain_36 (by decide) (fun c5 => ?_) (fun c5 => ?_)
    · have hf := hf.1 c5
      exact ev_vret (pc := 55) rfl dX12_plain_55 hf
    · have hf := hf.2 c5
      refine ev_aload_n (pc := 39) dX12_plain_39 rfl (i := 0) rfl ?_
      refine ev_get (pc := 40) fl_X12_23_12_6 rfl (by decide) rfl rfl dX12_plain_40 ?_
      refine ev_bipush (pc := 43) (v := 36) dX12_plain_43 kb_36 ?_
      refine ev_iload_n (pc := 45) dX12_plain_45 rfl (i := 1) rfl ?_
      refine ev_iadd (pc := 46) dX12_plain_46 ?_
      refine ev_iconst (pc := 47) (v := 0) dX12_plain_47 kc_0 ?_
      obtain ⟨h6, hf⟩ := hf
      refine ev_iast (pc := 48) rfl rfl h6 rfl dX12_plain_48 ?_
      refine ev_iinc (pc := 49) (v := v1 + 1) (L' := [some (.ref 0), some (.int (v1 + 1))]) dX12_plain_49 rfl (by rw [kc_1]) (by decide) rfl rfl ?_
      refine ev_goto (pc := 52) (tgt := 33) dX12_plain_52 (by decide) ?_
      exact hagain33 _ _ hf
def f_X12_plain (σ : St) (post : St → Prop) : Prop := ∀ σ1 : St, σ1 = (st_up σ 2 1 0) → (∀ σ2 : St, σ2 = (st_up σ1 6 1 3) → (∀ σ3 : St, σ3 = (st_up σ2 7 1 5) → (∀ σ4 : St, σ4 = (st_up σ3 0 14 0) → (∃ n7 : Nat, f_X12_plain_L33 post n7 0 (st_up σ4 0 15 0)))))
set_option maxRecDepth 100000 in
set_option maxHeartbeats 4000000 in
theorem c_X12_plain (σ : St) (post : St → Prop) (hf : f_X12_plain σ post) : Ct SM yX12_plain cX12_plain 2 none 0 (EQv SM post) [.ref 0] σ := by
  rw [f_X12_plain] at hf
  refine ct_of (by decide) rfl (Nat.le_of_ble_eq_true rfl) ?_
  show Ev SM RX12 cX12_plain 2 none 0 (EQv SM post) 0 [some (.ref 0), none] [] σ
  refine ev_aload_n (pc := 0) dX12_plain_0 rfl (i := 0) rfl ?_
  refine ev_get (pc := 1) fl_X12_13_12_3 rfl (by decide) rfl rfl dX12_plain_1 ?_
  refine ev_iconst (pc := 4) (v := 1) dX12_plain_4 kc_1 ?_
  refine ev_iconst (pc := 5) (v := 0) dX12_plain_5 kc_0 ?_
  refine ev_iast (pc := 6) rfl rfl ki_1_2 kn_1 dX12_plain_6 ?_
  refine ev_aload_n (pc := 7) dX12_plain_7 rfl (i := 0) rfl ?_
  refine ev_get (pc := 8) fl_X12_26_12_7 rfl (by decide) rfl rfl dX12_plain_8 ?_
  refine ev_iconst (pc := 11) (v := 1) dX12_plain_11 kc_1 ?_
  refine ev_iconst (pc := 12) (v := 3) dX12_plain_12 kc_3 ?_
  refine ev_nm (fun σ1 q1 => ?_)
  have hf := hf σ1 q1
  refine ev_iast (pc := 13) rfl rfl ki_1_2 kn_1 dX12_plain_13 ?_
  refine ev_aload_n (pc := 14) dX12_plain_14 rfl (i := 0) rfl ?_
  refine ev_get (pc := 15) fl_X12_29_12_8 rfl (by decide) rfl rfl dX12_plain_15 ?_
  refine ev_iconst (pc := 18) (v := 1) dX12_plain_18 kc_1 ?_
  refine ev_iconst (pc := 19) (v := 5) dX12_plain_19 kc_5 ?_
  refine ev_nm (fun σ2 q2 => ?_)
  have hf := hf σ2 q2
  refine ev_iast (pc := 20) rfl rfl ki_1_2 kn_1 dX12_plain_20 ?_
  refine ev_aload_n (pc := 21) dX12_plain_21 rfl (i := 0) rfl ?_
  refine ev_iconst (pc := 22) (v := 0) dX12_plain_22 kc_0 ?_
  refine ev_nm (fun σ3 q3 => ?_)
  have hf := hf σ3 q3
  refine ev_puti (pc := 23) fp_X12_103_12_14 rfl (by decide) rfl rfl rfl dX12_plain_23 ?_
  refine ev_aload_n (pc := 26) dX12_plain_26 rfl (i := 0) rfl ?_
  refine ev_iconst (pc := 27) (v := 0) dX12_plain_27 kc_0 ?_
  refine ev_nm (fun σ4 q4 => ?_)
  have hf := hf σ4 q4
  refine ev_puti (pc := 28) fp_X12_107_12_15 rfl (by decide) rfl rfl rfl dX12_plain_28 ?_
  refine ev_iconst (pc := 31) (v := 0) dX12_plain_31 kc_0 ?_
  refine ev_istore_n (pc := 32) (L' := [some (.ref 0), some (.int 0)]) dX12_plain_32 rfl (by decide) rfl rfl ?_
  obtain ⟨n7, hf⟩ := hf
  exact p_X12_plain_L33 post n7 _ _ hf
def f_X12_mayBe (a1 : Int32) (σ : St) (post : Int32 → St → Prop) : Prop := (a1 = 99 → ((¬ (σ.1 0 14) = 0 → (post 0 σ)) ∧ ((σ.1 0 14) = 0 → (post 1 σ)))) ∧ (a1 = 101 → (post 1 σ)) ∧ (a1 = 109 → ((6 ≤ (σ.1 2 1) → (post 0 σ)) ∧ (¬ 6 ≤ (σ.1 2 1) → (post 1 σ)))) ∧ (a1 = 114 → (post 1 σ)) ∧ (a1 = 115 → ((¬ (σ.1 0 15) = 0 → (post 0 σ)) ∧ ((σ.1 0 15) = 0 → (post 1 σ)))) ∧ (¬ a1 = 99 → ¬ a1 = 101 → ¬ a1 = 109 → ¬ a1 = 114 → ¬ a1 = 115 → (post 0 σ))
set_option maxRecDepth 100000 in
set_option maxHeartbeats 4000000 in
theorem c_X12_mayBe (a1 : Int32) (σ : St) (post : Int32 → St → Prop) (hf : f_X12_mayBe a1 σ post) : Ct SM yX12_mayBe cX12_mayBe 2 (some .boolean) 0 (EQi SM post) [.ref 0, .int a1] σ := by
  rw [f_X12_mayBe] at hf
  refine ct_of (by decide) rfl (Nat.le_of_ble_eq_true rfl) ?_
  show Ev SM RX12 cX12_mayBe 2 (some .boolean) 0 (EQi SM post) 0 [some (.ref 0), some (.int a1)] [] σ
  refine ev_iload_n (pc := 0) dX12_mayBe_0 rfl (i := 1) rfl ?_
  by_cases e1 : a1 = 99
  · have hf := hf.1 e1
    refine ev_look (pc := 1) (off := 70) (tgt := 71) dX12_mayBe_1 (by decide) (by rw [e1]; decide) (by decide) ?_
    refine ev_aload_n (pc := 71) dX12_mayBe_71 rfl (i := 0) rfl ?_
    refine ev_get (pc := 72) fl_X12_103_12_14 rfl (by decide) rfl rfl dX12_mayBe_72 ?_
    refine ev_if_ne (pc := 75) (tgt := 82) dX12_mayBe_75 (by decide) (fun c2 => ?_) (fun c2 => ?_)
    · have hf := hf.1 c2
      refine ev_iconst (pc := 82) (v := 0) dX12_mayBe_82 kc_0 ?_
      exact ev_zret (pc := 83) rfl dX12_mayBe_83 rfl hf
    · have hf := hf.2 c2
      refine ev_iconst (pc := 78) (v := 1) dX12_mayBe_78 kc_1 ?_
      refine ev_goto (pc := 79) (tgt := 83) dX12_mayBe_79 (by decide) ?_
      exact ev_zret (pc := 83) rfl dX12_mayBe_83 rfl hf
  by_cases e3 : a1 = 101
  · have hf := hf.2.1 e3
    refine ev_look (pc := 1) (off := 68) (tgt := 69) dX12_mayBe_1 (by decide) (by rw [e3]; decide) (by decide) ?_
    refine ev_iconst (pc := 69) (v := 1) dX12_mayBe_69 kc_1 ?_
    exact ev_zret (pc := 70) rfl dX12_mayBe_70 rfl hf
  by_cases e4 : a1 = 109
  · have hf := hf.2.2.1 e4
    refine ev_look (pc := 1) (off := 51) (tgt := 52) dX12_mayBe_1 (by decide) (by rw [e4]; decide) (by decide) ?_
    refine ev_aload_n (pc := 52) dX12_mayBe_52 rfl (i := 0) rfl ?_
    refine ev_get (pc := 53) fl_X12_13_12_3 rfl (by decide) rfl rfl dX12_mayBe_53 ?_
    refine ev_iconst (pc := 56) (v := 1) dX12_mayBe_56 kc_1 ?_
    refine ev_iald (pc := 57) rfl rfl ki_1_2 kn_1 dX12_mayBe_57 ?_
    refine ev_bipush (pc := 58) (v := 6) dX12_mayBe_58 kb_6 ?_
    refine ev_icmp_ge (pc := 60) (tgt := 67) dX12_mayBe_60 (by decide) (fun c5 => ?_) (fun c5 => ?_)
    · have hf := hf.1 c5
      refine ev_iconst (pc := 67) (v := 0) dX12_mayBe_67 kc_0 ?_
      exact ev_zret (pc := 68) rfl dX12_mayBe_68 rfl hf
    · have hf := hf.2 c5
      refine ev_iconst (pc := 63) (v := 1) dX12_mayBe_63 kc_1 ?_
      refine ev_goto (pc := 64) (tgt := 68) dX12_mayBe_64 (by decide) ?_
      exact ev_zret (pc := 68) rfl dX12_mayBe_68 rfl hf
  by_cases e6 : a1 = 114
  · have hf := hf.2.2.2.1 e6
    refine ev_look (pc := 1) (off := 68) (tgt := 69) dX12_mayBe_1 (by decide) (by rw [e6]; decide) (by decide) ?_
    refine ev_iconst (pc := 69) (v := 1) dX12_mayBe_69 kc_1 ?_
    exact ev_zret (pc := 70) rfl dX12_mayBe_70 rfl hf
  by_cases e7 : a1 = 115
  · have hf := hf.2.2.2.2.1 e7
    refine ev_look (pc := 1) (off := 83) (tgt := 84) dX12_mayBe_1 (by decide) (by rw [e7]; decide) (by decide) ?_
    refine ev_aload_n (pc := 84) dX12_mayBe_84 rfl (i := 0) rfl ?_
    refine ev_get (pc := 85) fl_X12_107_12_15 rfl (by decide) rfl rfl dX12_mayBe_85 ?_
    refine ev_if_ne (pc := 88) (tgt := 95) dX12_mayBe_88 (by decide) (fun c8 => ?_) (fun c8 => ?_)
    · have hf := hf.1 c8
      refine ev_iconst (pc := 95) (v := 0) dX12_mayBe_95 kc_0 ?_
      exact ev_zret (pc := 96) rfl dX12_mayBe_96 rfl hf
    · have hf := hf.2 c8
      refine ev_iconst (pc := 91) (v := 1) dX12_mayBe_91 kc_1 ?_
      refine ev_goto (pc := 92) (tgt := 96) dX12_mayBe_92 (by decide) ?_
      exact ev_zret (pc := 96) rfl dX12_mayBe_96 rfl hf
  have hf := hf.2.2.2.2.2 e1 e3 e4 e6 e7
  refine ev_look (pc := 1) (off := 96) (tgt := 97) dX12_mayBe_1 (by decide) (look_out (fun q hq => by
    simp only [List.mem_cons, List.not_mem_nil, or_false] at hq
    rcases hq with rfl | rfl | rfl | rfl | rfl
    · exact int_ne e1 (by decide)
    · exact int_ne e3 (by decide)
    · exact int_ne e4 (by decide)
    · exact int_ne e6 (by decide)
    · exact int_ne e7 (by decide))) (by decide) ?_
  refine ev_iconst (pc := 97) (v := 0) dX12_mayBe_97 kc_0 ?_
  exact ev_zret (pc := 98) rfl dX12_mayBe_98 rfl hf
def f_X12_takeDraft_L38 (k65 : St → Prop) (post : St → Prop) : Nat → Int32 → St → Prop
  | 0, _, _ => False
  | n + 1, v1, σ => (36 ≤ v1 → (k65 σ)) ∧ (¬ 36 ≤ v1 → (vp_in (36 + v1) 72 ∧ (vp_in v1 72 ∧ ((f_X12_takeDraft_L38 k65 post n) (v1 + 1) (st_up σ 5 v1.toNatClampNeg (σ.1 5 ((36 + v1).toNatClampNeg)))))))
set_option maxRecDepth 100000 in
set_option maxHeartbeats 4000000 in
theorem p_X12_takeDraft_L38 (k65 : St → Prop) (post : St → Prop) (hk65 : ∀ (τ : St), k65 τ → Ev SM RX12 cX12_takeDraft 2 none 0 (EQv SM post) 65 [some (.ref 0), none] [] τ) : ∀ (n : Nat) (v1 : Int32) (σ : St), f_X12_takeDraft_L38 k65 post n v1 σ → Ev SM RX12 cX12_takeDraft 2 none 0 (EQv SM post) 38 [some (.ref 0), some (.int v1)] [] σ := by
  intro n
  induction n with
  | zero =>
    intro v1 σ hf
    exact hf.elim
  | succ n hagain38 =>
    intro v1 σ hf
    rw [f_X12_takeDraft_L38] at hf
    refine ev_iload_n (pc := 38) dX12_takeDraft_38 rfl (i := 1) rfl ?_
    refine ev_bipush (pc := 39) (v := 36) dX12_takeDraft_39 kb_36 ?_
    refine ev_icmp_ge (pc := 41) (tgt := 65) dX12_takeDraft_41 (by decide) (fun c3 => ?_) (fun c3 => ?_)
    · have hf := hf.1 c3
      refine ev_mask [true, false] (L' := [some (.ref 0), none]) rfl ?_
      exact hk65 _ hf
    · have hf := hf.2 c3
      refine ev_aload_n (pc := 44) dX12_takeDraft_44 rfl (i := 0) rfl ?_
      refine ev_get (pc := 45) fl_X12_23_12_6 rfl (by decide) rfl rfl dX12_takeDraft_45 ?_
      refine ev_iload_n (pc := 48) dX12_takeDraft_48 rfl (i := 1) rfl ?_
      refine ev_aload_n (pc := 49) dX12_takeDraft_49 rfl (i := 0) rfl ?_
      refine ev_get (pc := 50) fl_X12_23_12_6 rfl (by decide) rfl rfl dX12_takeDraft_50 ?_
      refine ev_bipush (pc := 53) (v := 36) dX12_takeDraft_53 kb_36 ?_
      refine ev_iload_n (pc := 55) dX12_takeDraft_55 rfl (i := 1) rfl ?_
      refine ev_iadd (pc := 56) dX12_takeDraft_56 ?_
      obtain ⟨h4, hf⟩ := hf
      refine ev_iald (pc := 57) rfl rfl h4 rfl dX12_takeDraft_57 ?_
      obtain ⟨h5, hf⟩ := hf
      refine ev_iast (pc := 58) rfl rfl h5 rfl dX12_takeDraft_58 ?_
      refine ev_iinc (pc := 59) (v := v1 + 1) (L' := [some (.ref 0), some (.int (v1 + 1))]) dX12_takeDraft_59 rfl (by rw [kc_1]) (by decide) rfl rfl ?_
      refine ev_goto (pc := 62) (tgt := 38) dX12_takeDraft_62 (by decide) ?_
      exact hagain38 _ _ hf
def f_X12_takeDraft_L67 (k86 : St → Prop) (post : St → Prop) : Nat → Int32 → St → Prop
  | 0, _, _ => False
  | n + 1, v1, σ => (14 ≤ v1 → (k86 σ)) ∧ (¬ 14 ≤ v1 → (vp_in v1 465 ∧ ((f_X12_takeDraft_L67 k86 post n) (v1 + 1) (st_up σ 8 v1.toNatClampNeg 0))))
set_option maxRecDepth 100000 in
set_option maxHeartbeats 4000000 in
theorem p_X12_takeDraft_L67 (k86 : St → Prop) (post : St → Prop) (hk86 : ∀ (τ : St), k86 τ → Ev SM RX12 cX12_takeDraft 2 none 0 (EQv SM post) 86 [some (.ref 0), none] [] τ) : ∀ (n : Nat) (v1 : Int32) (σ : St), f_X12_takeDraft_L67 k86 post n v1 σ → Ev SM RX12 cX12_takeDraft 2 none 0 (EQv SM post) 67 [some (.ref 0), some (.int v1)] [] σ := by
  intro n
  induction n with
  | zero =>
    intro v1 σ hf
    exact hf.elim
  | succ n hagain67 =>
    intro v1 σ hf
    rw [f_X12_takeDraft_L67] at hf
    refine ev_iload_n (pc := 67) dX12_takeDraft_67 rfl (i := 1) rfl ?_
    refine ev_bipush (pc := 68) (v := 14) dX12_takeDraft_68 kb_14 ?_
    refine ev_icmp_ge (pc := 70) (tgt := 86) dX12_takeDraft_70 (by decide) (fun c7 => ?_) (fun c7 => ?_)
    · have hf := hf.1 c7
      refine ev_mask [true, false] (L' := [some (.ref 0), none]) rfl ?_
      exact hk86 _ hf
    · have hf := hf.2 c7
      refine ev_aload_n (pc := 73) dX12_takeDraft_73 rfl (i := 0) rfl ?_
      refine ev_get (pc := 74) fl_X12_32_12_16 rfl (by decide) rfl rfl dX12_takeDraft_74 ?_
      refine ev_iload_n (pc := 77) dX12_takeDraft_77 rfl (i := 1) rfl ?_
      refine ev_iconst (pc := 78) (v := 0) dX12_takeDraft_78 kc_0 ?_
      obtain ⟨h8, hf⟩ := hf
      refine ev_iast (pc := 79) rfl rfl h8 rfl dX12_takeDraft_79 ?_
      refine ev_iinc (pc := 80) (v := v1 + 1) (L' := [some (.ref 0), some (.int (v1 + 1))]) dX12_takeDraft_80 rfl (by rw [kc_1]) (by decide) rfl rfl ?_
      refine ev_goto (pc := 83) (tgt := 67) dX12_takeDraft_83 (by decide) ?_
      exact hagain67 _ _ hf
def f_X12_takeDraft_L88 (k133 : St → Prop) (post : St → Prop) : Nat → Int32 → St → Prop
  | 0, _, _ => False
  | n + 1, v1, σ => ((σ.1 2 0) ≤ v1 → (k133 σ)) ∧ (¬ (σ.1 2 0) ≤ v1 → (vp_in (6 + v1) 12 ∧ (vp_in v1 12 ∧ (vp_in v1 6 ∧ (∀ σ14 : St, σ14 = (st_up σ 3 v1.toNatClampNeg (σ.1 3 ((6 + v1).toNatClampNeg))) → (vp_in (0 + v1) 465 ∧ ((f_X12_takeDraft_L88 k133 post n) (v1 + 1) (st_up σ14 8 ((0 + v1).toNatClampNeg) ((st_up σ 3 v1.toNatClampNeg (σ.1 3 ((6 + v1).toNatClampNeg))).1 4 v1.toNatClampNeg)))))))))
set_option maxRecDepth 100000 in
set_option maxHeartbeats 4000000 in
theorem p_X12_takeDraft_L88 (k133 : St → Prop) (post : St → Prop) (hk133 : ∀ (τ : St), k133 τ → Ev SM RX12 cX12_takeDraft 2 none 0 (EQv SM post) 133 [some (.ref 0), none] [] τ) : ∀ (n : Nat) (v1 : Int32) (σ : St), f_X12_takeDraft_L88 k133 post n v1 σ → Ev SM RX12 cX12_takeDraft 2 none 0 (EQv SM post) 88 [some (.ref 0), some (.int v1)] [] σ := by
  intro n
  induction n with
  | zero =>
    intro v1 σ hf
    exact hf.elim
  | succ n hagain88 =>
    intro v1 σ hf
    rw [f_X12_takeDraft_L88] at hf
    refine ev_iload_n (pc := 88) dX12_takeDraft_88 rfl (i := 1) rfl ?_
    refine ev_aload_n (pc := 89) dX12_takeDraft_89 rfl (i := 0) rfl ?_
    refine ev_get (pc := 90) fl_X12_13_12_3 rfl (by decide) rfl rfl dX12_takeDraft_90 ?_
    refine ev_iconst (pc := 93) (v := 0) dX12_takeDraft_93 kc_0 ?_
    refine ev_iald (pc := 94) rfl rfl ki_0_2 kn_0 dX12_takeDraft_94 ?_
    refine ev_icmp_ge (pc := 95) (tgt := 133) dX12_takeDraft_95 (by decide) (fun c10 => ?_) (fun c10 => ?_)
    · have hf := hf.1 c10
      refine ev_mask [true, false] (L' := [some (.ref 0), none]) rfl ?_
      exact hk133 _ hf
    · have hf := hf.2 c10
      refine ev_aload_n (pc := 98) dX12_takeDraft_98 rfl (i := 0) rfl ?_
      refine ev_get (pc := 99) fl_X12_17_12_4 rfl (by decide) rfl rfl dX12_takeDraft_99 ?_
      refine ev_iload_n (pc := 102) dX12_takeDraft_102 rfl (i := 1) rfl ?_
      refine ev_aload_n (pc := 103) dX12_takeDraft_103 rfl (i := 0) rfl ?_
      refine ev_get (pc := 104) fl_X12_17_12_4 rfl (by decide) rfl rfl dX12_takeDraft_104 ?_
      refine ev_bipush (pc := 107) (v := 6) dX12_takeDraft_107 kb_6 ?_
      refine ev_iload_n (pc := 109) dX12_takeDraft_109 rfl (i := 1) rfl ?_
      refine ev_iadd (pc := 110) dX12_takeDraft_110 ?_
      obtain ⟨h11, hf⟩ := hf
      refine ev_iald (pc := 111) rfl rfl h11 rfl dX12_takeDraft_111 ?_
      obtain ⟨h12, hf⟩ := hf
      refine ev_iast (pc := 112) rfl rfl h12 rfl dX12_takeDraft_112 ?_
      refine ev_aload_n (pc := 113) dX12_takeDraft_113 rfl (i := 0) rfl ?_
      refine ev_get (pc := 114) fl_X12_32_12_16 rfl (by decide) rfl rfl dX12_takeDraft_114 ?_
      refine ev_iconst (pc := 117) (v := 0) dX12_takeDraft_117 kc_0 ?_
      refine ev_iload_n (pc := 118) dX12_takeDraft_118 rfl (i := 1) rfl ?_
      refine ev_iadd (pc := 119) dX12_takeDraft_119 ?_
      refine ev_aload_n (pc := 120) dX12_takeDraft_120 rfl (i := 0) rfl ?_
      refine ev_get (pc := 121) fl_X12_20_12_5 rfl (by decide) rfl rfl dX12_takeDraft_121 ?_
      refine ev_iload_n (pc := 124) dX12_takeDraft_124 rfl (i := 1) rfl ?_
      obtain ⟨h13, hf⟩ := hf
      refine ev_iald (pc := 125) rfl rfl h13 rfl dX12_takeDraft_125 ?_
      refine ev_nm (fun σ14 q14 => ?_)
      have hf := hf σ14 q14
      obtain ⟨h15, hf⟩ := hf
      refine ev_iast (pc := 126) rfl rfl h15 rfl dX12_takeDraft_126 ?_
      refine ev_iinc (pc := 127) (v := v1 + 1) (L' := [some (.ref 0), some (.int (v1 + 1))]) dX12_takeDraft_127 rfl (by rw [kc_1]) (by decide) rfl rfl ?_
      refine ev_goto (pc := 130) (tgt := 88) dX12_takeDraft_130 (by decide) ?_
      exact hagain88 _ _ hf
def f_X12_takeDraft (σ : St) (post : St → Prop) : Prop := ∀ σ1 : St, σ1 = (st_up σ 2 0 (σ.1 2 1)) → (∀ σ2 : St, σ2 = (st_up σ1 6 0 ((st_up σ 2 0 (σ.1 2 1)).1 6 1)) → (∃ n23 : Nat, f_X12_takeDraft_L38 (fun σ6 => ∃ n22 : Nat, f_X12_takeDraft_L67 (fun σ9 => ∃ n21 : Nat, f_X12_takeDraft_L88 (fun σ16 => ∀ σ17 : St, σ17 = (st_up σ16 8 14 0) → (∀ σ18 : St, σ18 = (st_up σ17 0 24 0) → (∀ σ19 : St, σ19 = (st_up σ18 0 27 0) → (∀ σ20 : St, σ20 = (st_up σ19 9 0 0) → (post (st_up σ20 9 1 0)))))) post n21 0 σ9) post n22 0 σ6) post n23 0 (st_up σ2 7 0 ((st_up σ1 6 0 ((st_up σ 2 0 (σ.1 2 1)).1 6 1)).1 7 1))))
set_option maxRecDepth 100000 in
set_option maxHeartbeats 4000000 in
theorem c_X12_takeDraft (σ : St) (post : St → Prop) (hf : f_X12_takeDraft σ post) : Ct SM yX12_takeDraft cX12_takeDraft 2 none 0 (EQv SM post) [.ref 0] σ := by
  rw [f_X12_takeDraft] at hf
  refine ct_of (by decide) rfl (Nat.le_of_ble_eq_true rfl) ?_
  show Ev SM RX12 cX12_takeDraft 2 none 0 (EQv SM post) 0 [some (.ref 0), none] [] σ
  refine ev_aload_n (pc := 0) dX12_takeDraft_0 rfl (i := 0) rfl ?_
  refine ev_get (pc := 1) fl_X12_13_12_3 rfl (by decide) rfl rfl dX12_takeDraft_1 ?_
  refine ev_iconst (pc := 4) (v := 0) dX12_takeDraft_4 kc_0 ?_
  refine ev_aload_n (pc := 5) dX12_takeDraft_5 rfl (i := 0) rfl ?_
  refine ev_get (pc := 6) fl_X12_13_12_3 rfl (by decide) rfl rfl dX12_takeDraft_6 ?_
  refine ev_iconst (pc := 9) (v := 1) dX12_takeDraft_9 kc_1 ?_
  refine ev_iald (pc := 10) rfl rfl ki_1_2 kn_1 dX12_takeDraft_10 ?_
  refine ev_iast (pc := 11) rfl rfl ki_0_2 kn_0 dX12_takeDraft_11 ?_
  refine ev_aload_n (pc := 12) dX12_takeDraft_12 rfl (i := 0) rfl ?_
  refine ev_get (pc := 13) fl_X12_26_12_7 rfl (by decide) rfl rfl dX12_takeDraft_13 ?_
  refine ev_iconst (pc := 16) (v := 0) dX12_takeDraft_16 kc_0 ?_
  refine ev_aload_n (pc := 17) dX12_takeDraft_17 rfl (i := 0) rfl ?_
  refine ev_get (pc := 18) fl_X12_26_12_7 rfl (by decide) rfl rfl dX12_takeDraft_18 ?_
  refine ev_iconst (pc := 21) (v := 1) dX12_takeDraft_21 kc_1 ?_
  refine ev_iald (pc := 22) rfl rfl ki_1_2 kn_1 dX12_takeDraft_22 ?_
  refine ev_nm (fun σ1 q1 => ?_)
  have hf := hf σ1 q1
  refine ev_iast (pc := 23) rfl rfl ki_0_2 kn_0 dX12_takeDraft_23 ?_
  refine ev_aload_n (pc := 24) dX12_takeDraft_24 rfl (i := 0) rfl ?_
  refine ev_get (pc := 25) fl_X12_29_12_8 rfl (by decide) rfl rfl dX12_takeDraft_25 ?_
  refine ev_iconst (pc := 28) (v := 0) dX12_takeDraft_28 kc_0 ?_
  refine ev_aload_n (pc := 29) dX12_takeDraft_29 rfl (i := 0) rfl ?_
  refine ev_get (pc := 30) fl_X12_29_12_8 rfl (by decide) rfl rfl dX12_takeDraft_30 ?_
  refine ev_iconst (pc := 33) (v := 1) dX12_takeDraft_33 kc_1 ?_
  refine ev_iald (pc := 34) rfl rfl ki_1_2 kn_1 dX12_takeDraft_34 ?_
  refine ev_nm (fun σ2 q2 => ?_)
  have hf := hf σ2 q2
  refine ev_iast (pc := 35) rfl rfl ki_0_2 kn_0 dX12_takeDraft_35 ?_
  refine ev_iconst (pc := 36) (v := 0) dX12_takeDraft_36 kc_0 ?_
  refine ev_istore_n (pc := 37) (L' := [some (.ref 0), some (.int 0)]) dX12_takeDraft_37 rfl (by decide) rfl rfl ?_
  obtain ⟨n23, hf⟩ := hf
  exact p_X12_takeDraft_L38 _ post (fun σ6 hf => by
    refine ev_iconst (pc := 65) (v := 0) dX12_takeDraft_65 kc_0 ?_
    refine ev_istore_n (pc := 66) (L' := [some (.ref 0), some (.int 0)]) dX12_takeDraft_66 rfl (by decide) rfl rfl ?_
    obtain ⟨n22, hf⟩ := hf
    exact p_X12_takeDraft_L67 _ post (fun σ9 hf => by
      refine ev_iconst (pc := 86) (v := 0) dX12_takeDraft_86 kc_0 ?_
      refine ev_istore_n (pc := 87) (L' := [some (.ref 0), some (.int 0)]) dX12_takeDraft_87 rfl (by decide) rfl rfl ?_
      obtain ⟨n21, hf⟩ := hf
      exact p_X12_takeDraft_L88 _ post (fun σ16 hf => by
        refine ev_aload_n (pc := 133) dX12_takeDraft_133 rfl (i := 0) rfl ?_
        refine ev_get (pc := 134) fl_X12_32_12_16 rfl (by decide) rfl rfl dX12_takeDraft_134 ?_
        refine ev_bipush (pc := 137) (v := 14) dX12_takeDraft_137 kb_14 ?_
        refine ev_iconst (pc := 139) (v := 0) dX12_takeDraft_139 kc_0 ?_
        refine ev_iast (pc := 140) rfl rfl ki_14_465 kn_14 dX12_takeDraft_140 ?_
        refine ev_aload_n (pc := 141) dX12_takeDraft_141 rfl (i := 0) rfl ?_
        refine ev_iconst (pc := 142) (v := 0) dX12_takeDraft_142 kc_0 ?_
        refine ev_nm (fun σ17 q17 => ?_)
        have hf := hf σ17 q17
        refine ev_puti (pc := 143) fp_X12_118_12_24 rfl (by decide) rfl rfl rfl dX12_takeDraft_143 ?_
        refine ev_aload_n (pc := 146) dX12_takeDraft_146 rfl (i := 0) rfl ?_
        refine ev_iconst (pc := 147) (v := 0) dX12_takeDraft_147 kc_0 ?_
        refine ev_nm (fun σ18 q18 => ?_)
        have hf := hf σ18 q18
        refine ev_puti (pc := 148) fp_X12_121_12_27 rfl (by decide) rfl rfl rfl dX12_takeDraft_148 ?_
        refine ev_aload_n (pc := 151) dX12_takeDraft_151 rfl (i := 0) rfl ?_
        refine ev_get (pc := 152) fl_X12_35_12_17 rfl (by decide) rfl rfl dX12_takeDraft_152 ?_
        refine ev_iconst (pc := 155) (v := 0) dX12_takeDraft_155 kc_0 ?_
        refine ev_iconst (pc := 156) (v := 0) dX12_takeDraft_156 kc_0 ?_
        refine ev_nm (fun σ19 q19 => ?_)
        have hf := hf σ19 q19
        refine ev_zast (pc := 157) rfl (t := 2) rfl rfl ki_0_2 kn_0 (x' := 0) rfl dX12_takeDraft_157 ?_
        refine ev_aload_n (pc := 158) dX12_takeDraft_158 rfl (i := 0) rfl ?_
        refine ev_get (pc := 159) fl_X12_35_12_17 rfl (by decide) rfl rfl dX12_takeDraft_159 ?_
        refine ev_iconst (pc := 162) (v := 1) dX12_takeDraft_162 kc_1 ?_
        refine ev_iconst (pc := 163) (v := 0) dX12_takeDraft_163 kc_0 ?_
        refine ev_nm (fun σ20 q20 => ?_)
        have hf := hf σ20 q20
        refine ev_zast (pc := 164) rfl (t := 2) rfl rfl ki_1_2 kn_1 (x' := 0) rfl dX12_takeDraft_164 ?_
        exact ev_vret (pc := 165) rfl dX12_takeDraft_165 hf) n21 _ _ hf) n22 _ _ hf) n23 _ _ hf
def f_X12_pit_J81_21 (again21 : Int32 → St → Prop) (k91 : Int32 → St → Prop) (post : Int32 → St → Prop) (v1 : Int32) (s0 : Int32) (σ : St) : Prop := f_X12_due s0 σ (fun x17 σ16 => again21 (v1 + 1) σ16)
set_option maxRecDepth 100000 in
set_option maxHeartbeats 4000000 in
theorem p_X12_pit_J81_21 (again21 : Int32 → St → Prop) (k91 : Int32 → St → Prop) (post : Int32 → St → Prop) (hagain21 : ∀ (v1 : Int32) (τ : St), again21 v1 τ → Ev SM RX12 cX12_pit 3 (some .int) 6 (EQi SM post) 21 [some (.ref 0), some (.int v1), none] [] τ) (hk91 : ∀ (v1 : Int32) (τ : St), k91 v1 τ → Ev SM RX12 cX12_pit 3 (some .int) 6 (EQi SM post) 91 [some (.ref 0), some (.int v1), none] [] τ) (v1 : Int32) (s0 : Int32) (σ : St) (hf : f_X12_pit_J81_21 again21 k91 post v1 s0 σ) : Ev SM RX12 cX12_pit 3 (some .int) 6 (EQi SM post) 81 [some (.ref 0), some (.int v1), none] [.int s0, .ref 0] σ := by
  rw [f_X12_pit_J81_21] at hf
  refine ev_calli (pc := 81) (stk := []) (ce_V (c_X12_due s0 σ _ hf) wv_X12_99_X12_due rfl (by decide) rfl (by decide) rfl (Nat.le_of_ble_eq_true rfl) rfl dX12_pit_81) (fun x17 σ16 hf => ?_)
  refine ev_pop (pc := 84) dX12_pit_84 rfl ?_
  refine ev_iinc (pc := 85) (v := v1 + 1) (L' := [some (.ref 0), some (.int (v1 + 1)), none]) dX12_pit_85 rfl (by rw [kc_1]) (by decide) rfl rfl ?_
  refine ev_goto (pc := 88) (tgt := 21) dX12_pit_88 (by decide) ?_
  exact hagain21 _ _ hf
def f_X12_pit_L21 (k91 : Int32 → St → Prop) (post : Int32 → St → Prop) : Nat → Int32 → St → Prop
  | 0, _, _ => False
  | n + 1, v1, σ => (¬ (σ.1 0 13) = (-9) → (k91 v1 σ)) ∧ ((σ.1 0 13) = (-9) → (((σ.1 0 11) = 3 → (k91 v1 σ)) ∧ (¬ (σ.1 0 11) = 3 → (f_X12_mayBe (σ.1 0 11) σ (fun x9 σ8 => f_X12_due x9 σ8 (fun x11 σ10 => (¬ (σ10.1 0 13) = (-9) → ((f_X12_pit_L21 k91 post n) v1 σ10)) ∧ ((σ10.1 0 13) = (-9) → (f_X12_readRow (σ.1 0 11) σ10 (fun σ13 => (¬ (σ13.1 0 11) = 2 → (f_X12_pit_J81_21 (f_X12_pit_L21 k91 post n) k91 post v1 0 σ13)) ∧ ((σ13.1 0 11) = 2 → (f_X12_pit_J81_21 (f_X12_pit_L21 k91 post n) k91 post v1 1 σ13)))))))))))
set_option maxRecDepth 100000 in
set_option maxHeartbeats 4000000 in
theorem p_X12_pit_L21 (k91 : Int32 → St → Prop) (post : Int32 → St → Prop) (hk91 : ∀ (v1 : Int32) (τ : St), k91 v1 τ → Ev SM RX12 cX12_pit 3 (some .int) 6 (EQi SM post) 91 [some (.ref 0), some (.int v1), none] [] τ) : ∀ (n : Nat) (v1 : Int32) (σ : St), f_X12_pit_L21 k91 post n v1 σ → Ev SM RX12 cX12_pit 3 (some .int) 6 (EQi SM post) 21 [some (.ref 0), some (.int v1), none] [] σ := by
  intro n
  induction n with
  | zero =>
    intro v1 σ hf
    exact hf.elim
  | succ n hagain21 =>
    intro v1 σ hf
    rw [f_X12_pit_L21] at hf
    refine ev_aload_n (pc := 21) dX12_pit_21 rfl (i := 0) rfl ?_
    refine ev_get (pc := 22) fl_X12_93_12_13 rfl (by decide) rfl rfl dX12_pit_22 ?_
    refine ev_bipush (pc := 25) (v := (-9)) dX12_pit_25 kb_m9 ?_
    refine ev_icmp_ne (pc := 27) (tgt := 91) dX12_pit_27 (by decide) (fun c6 => ?_) (fun c6 => ?_)
    · have hf := hf.1 c6
      exact hk91 _ _ hf
    · have hf := hf.2 c6
      refine ev_aload_n (pc := 30) dX12_pit_30 rfl (i := 0) rfl ?_
      refine ev_get (pc := 31) fl_X12_90_12_11 rfl (by decide) rfl rfl dX12_pit_31 ?_
      refine ev_iconst (pc := 34) (v := 3) dX12_pit_34 kc_3 ?_
      refine ev_icmp_eq (pc := 35) (tgt := 91) dX12_pit_35 (by decide) (fun c7 => ?_) (fun c7 => ?_)
      · have hf := hf.1 c7
        exact hk91 _ _ hf
      · have hf := hf.2 c7
        refine ev_aload_n (pc := 38) dX12_pit_38 rfl (i := 0) rfl ?_
        refine ev_get (pc := 39) fl_X12_90_12_11 rfl (by decide) rfl rfl dX12_pit_39 ?_
        refine ev_istore_n (pc := 42) (L' := [some (.ref 0), some (.int v1), some (.int (σ.1 0 11))]) dX12_pit_42 rfl (by decide) rfl rfl ?_
        refine ev_aload_n (pc := 43) dX12_pit_43 rfl (i := 0) rfl ?_
        refine ev_aload_n (pc := 44) dX12_pit_44 rfl (i := 0) rfl ?_
        refine ev_iload_n (pc := 45) dX12_pit_45 rfl (i := 2) rfl ?_
        refine ev_calli (pc := 46) (stk := [.ref 0]) (ce_V (c_X12_mayBe (σ.1 0 11) σ _ hf) wv_X12_124_X12_mayBe rfl (by decide) rfl (by decide) rfl (Nat.le_of_ble_eq_true rfl) rfl dX12_pit_46) (fun x9 σ8 hf => ?_)
        refine ev_calli (pc := 49) (stk := []) (ce_V (c_X12_due x9 σ8 _ hf) wv_X12_99_X12_due rfl (by decide) rfl (by decide) rfl (Nat.le_of_ble_eq_true rfl) rfl dX12_pit_49) (fun x11 σ10 hf => ?_)
        refine ev_pop (pc := 52) dX12_pit_52 rfl ?_
        refine ev_aload_n (pc := 53) dX12_pit_53 rfl (i := 0) rfl ?_
        refine ev_get (pc := 54) fl_X12_93_12_13 rfl (by decide) rfl rfl dX12_pit_54 ?_
        refine ev_bipush (pc := 57) (v := (-9)) dX12_pit_57 kb_m9 ?_
        refine ev_icmp_ne (pc := 59) (tgt := 88) dX12_pit_59 (by decide) (fun c12 => ?_) (fun c12 => ?_)
        · have hf := hf.1 c12
          refine ev_goto (pc := 88) (tgt := 21) dX12_pit_88 (by decide) ?_
          refine ev_mask [true, true, false] (L' := [some (.ref 0), some (.int v1), none]) rfl ?_
          exact hagain21 _ _ hf
        · have hf := hf.2 c12
          refine ev_aload_n (pc := 62) dX12_pit_62 rfl (i := 0) rfl ?_
          refine ev_iload_n (pc := 63) dX12_pit_63 rfl (i := 2) rfl ?_
          refine ev_callv (pc := 64) (stk := []) (ce_V (c_X12_readRow (σ.1 0 11) σ10 _ hf) wv_X12_128_X12_readRow rfl (by decide) rfl (by decide) rfl (Nat.le_of_ble_eq_true rfl) rfl dX12_pit_64) (fun σ13 hf => ?_)
          refine ev_aload_n (pc := 67) dX12_pit_67 rfl (i := 0) rfl ?_
          refine ev_aload_n (pc := 68) dX12_pit_68 rfl (i := 0) rfl ?_
          refine ev_get (pc := 69) fl_X12_90_12_11 rfl (by decide) rfl rfl dX12_pit_69 ?_
          refine ev_iconst (pc := 72) (v := 2) dX12_pit_72 kc_2 ?_
          refine ev_icmp_ne (pc := 73) (tgt := 80) dX12_pit_73 (by decide) (fun c15 => ?_) (fun c15 => ?_)
          · have hf := hf.1 c15
            refine ev_iconst (pc := 80) (v := 0) dX12_pit_80 kc_0 ?_
            refine ev_mask [true, true, false] (L' := [some (.ref 0), some (.int v1), none]) rfl ?_
            exact p_X12_pit_J81_21 (f_X12_pit_L21 k91 post n) k91 post hagain21 hk91 _ _ _ hf
          · have hf := hf.2 c15
            refine ev_iconst (pc := 76) (v := 1) dX12_pit_76 kc_1 ?_
            refine ev_goto (pc := 77) (tgt := 81) dX12_pit_77 (by decide) ?_
            refine ev_mask [true, true, false] (L' := [some (.ref 0), some (.int v1), none]) rfl ?_
            exact p_X12_pit_J81_21 (f_X12_pit_L21 k91 post n) k91 post hagain21 hk91 _ _ _ hf
def f_X12_pit_J91 (post : Int32 → St → Prop) (v1 : Int32) (σ : St) : Prop := ((σ.1 0 13) = (-9) → (f_X12_takeDraft σ (fun σ21 => post v1 (st_up σ21 0 2 0)))) ∧ (¬ (σ.1 0 13) = (-9) → (post ((-10) - (σ.1 0 13)) σ))
set_option maxRecDepth 100000 in
set_option maxHeartbeats 4000000 in
theorem p_X12_pit_J91 (post : Int32 → St → Prop) (v1 : Int32) (σ : St) (hf : f_X12_pit_J91 post v1 σ) : Ev SM RX12 cX12_pit 3 (some .int) 6 (EQi SM post) 91 [some (.ref 0), some (.int v1), none] [] σ := by
  rw [f_X12_pit_J91] at hf
  refine ev_aload_n (pc := 91) dX12_pit_91 rfl (i := 0) rfl ?_
  refine ev_get (pc := 92) fl_X12_93_12_13 rfl (by decide) rfl rfl dX12_pit_92 ?_
  refine ev_bipush (pc := 95) (v := (-9)) dX12_pit_95 kb_m9 ?_
  refine ev_icmp_eq (pc := 97) (tgt := 108) dX12_pit_97 (by decide) (fun c20 => ?_) (fun c20 => ?_)
  · have hf := hf.1 c20
    refine ev_aload_n (pc := 108) dX12_pit_108 rfl (i := 0) rfl ?_
    refine ev_callv (pc := 109) (stk := []) (ce_V (c_X12_takeDraft σ _ hf) wv_X12_66_X12_takeDraft rfl (by decide) rfl (by decide) rfl (Nat.le_of_ble_eq_true rfl) rfl dX12_pit_109) (fun σ21 hf => ?_)
    refine ev_aload_n (pc := 112) dX12_pit_112 rfl (i := 0) rfl ?_
    refine ev_iconst (pc := 113) (v := 0) dX12_pit_113 kc_0 ?_
    refine ev_puti (pc := 114) fp_X12_73_12_2 rfl (by decide) rfl rfl rfl dX12_pit_114 ?_
    refine ev_iload_n (pc := 117) dX12_pit_117 rfl (i := 1) rfl ?_
    exact ev_iret (pc := 118) rfl dX12_pit_118 hf
  · have hf := hf.2 c20
    refine ev_bipush (pc := 100) (v := (-10)) dX12_pit_100 kb_m10 ?_
    refine ev_aload_n (pc := 102) dX12_pit_102 rfl (i := 0) rfl ?_
    refine ev_get (pc := 103) fl_X12_93_12_13 rfl (by decide) rfl rfl dX12_pit_103 ?_
    refine ev_isub (pc := 106) dX12_pit_106 ?_
    exact ev_iret (pc := 107) rfl dX12_pit_107 hf
def f_X12_pit (σ : St) (post : Int32 → St → Prop) : Prop := ∀ σ1 : St, σ1 = (st_up σ 0 9 0) → (f_X12_plain (st_up σ1 0 13 (-9)) (fun σ2 => f_X12_step σ2 (fun σ4 => ∃ n23 : Nat, f_X12_pit_L21 (fun x19 σ18 => f_X12_pit_J91 post x19 σ18) post n23 0 σ4)))
set_option maxRecDepth 100000 in
set_option maxHeartbeats 4000000 in
theorem c_X12_pit (σ : St) (post : Int32 → St → Prop) (hf : f_X12_pit σ post) : Ct SM yX12_pit cX12_pit 3 (some .int) 6 (EQi SM post) [.ref 0] σ := by
  rw [f_X12_pit] at hf
  refine ct_of (by decide) rfl (Nat.le_of_ble_eq_true rfl) ?_
  show Ev SM RX12 cX12_pit 3 (some .int) 6 (EQi SM post) 0 [some (.ref 0), none, none] [] σ
  refine ev_aload_n (pc := 0) dX12_pit_0 rfl (i := 0) rfl ?_
  refine ev_iconst (pc := 1) (v := 0) dX12_pit_1 kc_0 ?_
  refine ev_puti (pc := 2) fp_X12_77_12_9 rfl (by decide) rfl rfl rfl dX12_pit_2 ?_
  refine ev_aload_n (pc := 5) dX12_pit_5 rfl (i := 0) rfl ?_
  refine ev_bipush (pc := 6) (v := (-9)) dX12_pit_6 kb_m9 ?_
  refine ev_nm (fun σ1 q1 => ?_)
  have hf := hf σ1 q1
  refine ev_puti (pc := 8) fp_X12_93_12_13 rfl (by decide) rfl rfl rfl dX12_pit_8 ?_
  refine ev_aload_n (pc := 11) dX12_pit_11 rfl (i := 0) rfl ?_
  refine ev_callv (pc := 12) (stk := []) (ce_V (c_X12_plain (st_up σ1 0 13 (-9)) _ hf) wv_X12_63_X12_plain rfl (by decide) rfl (by decide) rfl (Nat.le_of_ble_eq_true rfl) rfl dX12_pit_12) (fun σ2 hf => ?_)
  refine ev_iconst (pc := 15) (v := 0) dX12_pit_15 kc_0 ?_
  refine ev_istore_n (pc := 16) (L' := [some (.ref 0), some (.int 0), none]) dX12_pit_16 rfl (by decide) rfl rfl ?_
  refine ev_aload_n (pc := 17) dX12_pit_17 rfl (i := 0) rfl ?_
  refine ev_callv (pc := 18) (stk := []) (ce_V (c_X12_step σ2 _ hf) wv_X12_96_X12_step rfl (by decide) rfl (by decide) rfl (Nat.le_of_ble_eq_true rfl) rfl dX12_pit_18) (fun σ4 hf => ?_)
  obtain ⟨n23, hf⟩ := hf
  exact p_X12_pit_L21 _ post (fun x19 σ18 hf => by
    exact p_X12_pit_J91 post _ _ hf) n23 _ _ hf
def f_X12_isMan (a1 : Int32) (σ : St) (post : Int32 → St → Prop) : Prop := f_X12_in a1 0 ((σ.1 2 0) - 1) σ (fun x2 σ1 => (x2 = 0 ∨ x2 = 1) ∧ (post x2 σ1))
set_option maxRecDepth 100000 in
set_option maxHeartbeats 4000000 in
theorem c_X12_isMan (a1 : Int32) (σ : St) (post : Int32 → St → Prop) (hf : f_X12_isMan a1 σ post) : Ct SM yX12_isMan cX12_isMan 2 (some .boolean) 1 (EQi SM post) [.ref 0, .int a1] σ := by
  rw [f_X12_isMan] at hf
  refine ct_of (by decide) rfl (Nat.le_of_ble_eq_true rfl) ?_
  show Ev SM RX12 cX12_isMan 2 (some .boolean) 1 (EQi SM post) 0 [some (.ref 0), some (.int a1)] [] σ
  refine ev_iload_n (pc := 0) dX12_isMan_0 rfl (i := 1) rfl ?_
  refine ev_iconst (pc := 1) (v := 0) dX12_isMan_1 kc_0 ?_
  refine ev_aload_n (pc := 2) dX12_isMan_2 rfl (i := 0) rfl ?_
  refine ev_get (pc := 3) fl_X12_13_12_3 rfl (by decide) rfl rfl dX12_isMan_3 ?_
  refine ev_iconst (pc := 6) (v := 0) dX12_isMan_6 kc_0 ?_
  refine ev_iald (pc := 7) rfl rfl ki_0_2 kn_0 dX12_isMan_7 ?_
  refine ev_iconst (pc := 8) (v := 1) dX12_isMan_8 kc_1 ?_
  refine ev_isub (pc := 9) dX12_isMan_9 ?_
  refine ev_calli (pc := 10) (stk := []) (ce_S (c_X12_in a1 0 ((σ.1 2 0) - 1) σ _ hf) wt_X12_69_X12_in  (by decide) rfl (Nat.le_of_ble_eq_true rfl) rfl dX12_isMan_10) (fun x2 σ1 hf => ?_)
  obtain ⟨h3, hf⟩ := hf
  exact ev_zret (pc := 13) rfl dX12_isMan_13 (nb_n h3) hf
def f_X12_man (a1 : Int32) (a2 : Int32) (σ : St) (post : Int32 → St → Prop) : Prop := f_X12_isMan a1 σ (fun x2 σ1 => (x2 = 0 → (post (-1) σ1)) ∧ (¬ x2 = 0 → (f_X12_in a2 0 2 σ1 (fun x5 σ4 => (¬ x5 = 0 → ((¬ a2 = 0 → ((¬ a2 = 1 → (vp_in (6 + a1) 465 ∧ (post (σ4.1 8 ((6 + a1).toNatClampNeg)) σ4))) ∧ (a2 = 1 → (vp_in a1 12 ∧ (post (σ4.1 3 a1.toNatClampNeg) σ4))))) ∧ (a2 = 0 → (vp_in (0 + a1) 465 ∧ (post (σ4.1 8 ((0 + a1).toNatClampNeg)) σ4))))) ∧ (x5 = 0 → (post (-1) σ4))))))
set_option maxRecDepth 100000 in
set_option maxHeartbeats 4000000 in
theorem c_X12_man (a1 : Int32) (a2 : Int32) (σ : St) (post : Int32 → St → Prop) (hf : f_X12_man a1 a2 σ post) : Ct SM yX12_man cX12_man 3 (some .int) 2 (EQi SM post) [.ref 0, .int a1, .int a2] σ := by
  rw [f_X12_man] at hf
  refine ct_of (by decide) rfl (Nat.le_of_ble_eq_true rfl) ?_
  show Ev SM RX12 cX12_man 3 (some .int) 2 (EQi SM post) 0 [some (.ref 0), some (.int a1), some (.int a2)] [] σ
  refine ev_aload_n (pc := 0) dX12_man_0 rfl (i := 0) rfl ?_
  refine ev_iload_n (pc := 1) dX12_man_1 rfl (i := 1) rfl ?_
  refine ev_calli (pc := 2) (stk := []) (ce_V (c_X12_isMan a1 σ _ hf) wv_X12_136_X12_isMan rfl (by decide) rfl (by decide) rfl (Nat.le_of_ble_eq_true rfl) rfl dX12_man_2) (fun x2 σ1 hf => ?_)
  refine ev_if_eq (pc := 5) (tgt := 17) dX12_man_5 (by decide) (fun c3 => ?_) (fun c3 => ?_)
  · have hf := hf.1 c3
    refine ev_iconst (pc := 17) (v := (-1)) dX12_man_17 kc_m1 ?_
    exact ev_iret (pc := 18) rfl dX12_man_18 hf
  · have hf := hf.2 c3
    refine ev_iload_n (pc := 8) dX12_man_8 rfl (i := 2) rfl ?_
    refine ev_iconst (pc := 9) (v := 0) dX12_man_9 kc_0 ?_
    refine ev_iconst (pc := 10) (v := 2) dX12_man_10 kc_2 ?_
    refine ev_calli (pc := 11) (stk := []) (ce_S (c_X12_in a2 0 2 σ1 _ hf) wt_X12_69_X12_in  (by decide) rfl (Nat.le_of_ble_eq_true rfl) rfl dX12_man_11) (fun x5 σ4 hf => ?_)
    refine ev_if_ne (pc := 14) (tgt := 19) dX12_man_14 (by decide) (fun c6 => ?_) (fun c6 => ?_)
    · have hf := hf.1 c6
      refine ev_iload_n (pc := 19) dX12_man_19 rfl (i := 2) rfl ?_
      refine ev_if_ne (pc := 20) (tgt := 34) dX12_man_20 (by decide) (fun c7 => ?_) (fun c7 => ?_)
      · have hf := hf.1 c7
        refine ev_iload_n (pc := 34) dX12_man_34 rfl (i := 2) rfl ?_
        refine ev_iconst (pc := 35) (v := 1) dX12_man_35 kc_1 ?_
        refine ev_icmp_ne (pc := 36) (tgt := 48) dX12_man_36 (by decide) (fun c8 => ?_) (fun c8 => ?_)
        · have hf := hf.1 c8
          refine ev_aload_n (pc := 48) dX12_man_48 rfl (i := 0) rfl ?_
          refine ev_get (pc := 49) fl_X12_32_12_16 rfl (by decide) rfl rfl dX12_man_49 ?_
          refine ev_bipush (pc := 52) (v := 6) dX12_man_52 kb_6 ?_
          refine ev_iload_n (pc := 54) dX12_man_54 rfl (i := 1) rfl ?_
          refine ev_iadd (pc := 55) dX12_man_55 ?_
          obtain ⟨h9, hf⟩ := hf
          refine ev_iald (pc := 56) rfl rfl h9 rfl dX12_man_56 ?_
          exact ev_iret (pc := 57) rfl dX12_man_57 hf
        · have hf := hf.2 c8
          refine ev_aload_n (pc := 39) dX12_man_39 rfl (i := 0) rfl ?_
          refine ev_get (pc := 40) fl_X12_17_12_4 rfl (by decide) rfl rfl dX12_man_40 ?_
          refine ev_iload_n (pc := 43) dX12_man_43 rfl (i := 1) rfl ?_
          obtain ⟨h10, hf⟩ := hf
          refine ev_iald (pc := 44) rfl rfl h10 rfl dX12_man_44 ?_
          refine ev_goto (pc := 45) (tgt := 57) dX12_man_45 (by decide) ?_
          exact ev_iret (pc := 57) rfl dX12_man_57 hf
      · have hf := hf.2 c7
        refine ev_aload_n (pc := 23) dX12_man_23 rfl (i := 0) rfl ?_
        refine ev_get (pc := 24) fl_X12_32_12_16 rfl (by decide) rfl rfl dX12_man_24 ?_
        refine ev_iconst (pc := 27) (v := 0) dX12_man_27 kc_0 ?_
        refine ev_iload_n (pc := 28) dX12_man_28 rfl (i := 1) rfl ?_
        refine ev_iadd (pc := 29) dX12_man_29 ?_
        obtain ⟨h11, hf⟩ := hf
        refine ev_iald (pc := 30) rfl rfl h11 rfl dX12_man_30 ?_
        refine ev_goto (pc := 31) (tgt := 57) dX12_man_31 (by decide) ?_
        exact ev_iret (pc := 57) rfl dX12_man_57 hf
    · have hf := hf.2 c6
      refine ev_iconst (pc := 17) (v := (-1)) dX12_man_17 kc_m1 ?_
      exact ev_iret (pc := 18) rfl dX12_man_18 hf
def f_X12_beside (a1 : Int32) (a2 : Int32) (σ : St) (post : Int32 → St → Prop) : Prop := f_X12_isMan a1 σ (fun x2 σ1 => (x2 = 0 → (post (-1000000) σ1)) ∧ (¬ x2 = 0 → (f_X12_isMan a2 σ1 (fun x5 σ4 => (x5 = 0 → (post (-1000000) σ4)) ∧ (¬ x5 = 0 → ((a1 = a2 → (post (-1000000) σ4)) ∧ (¬ a1 = a2 → (vp_in ((6 * a1) + a2) 72 ∧ (post (σ4.1 5 (((6 * a1) + a2).toNatClampNeg)) σ4)))))))))
set_option maxRecDepth 100000 in
set_option maxHeartbeats 4000000 in
theorem c_X12_beside (a1 : Int32) (a2 : Int32) (σ : St) (post : Int32 → St → Prop) (hf : f_X12_beside a1 a2 σ post) : Ct SM yX12_beside cX12_beside 3 (some .int) 2 (EQi SM post) [.ref 0, .int a1, .int a2] σ := by
  rw [f_X12_beside] at hf
  refine ct_of (by decide) rfl (Nat.le_of_ble_eq_true rfl) ?_
  show Ev SM RX12 cX12_beside 3 (some .int) 2 (EQi SM post) 0 [some (.ref 0), some (.int a1), some (.int a2)] [] σ
  refine ev_aload_n (pc := 0) dX12_beside_0 rfl (i := 0) rfl ?_
  refine ev_iload_n (pc := 1) dX12_beside_1 rfl (i := 1) rfl ?_
  refine ev_calli (pc := 2) (stk := []) (ce_V (c_X12_isMan a1 σ _ hf) wv_X12_136_X12_isMan rfl (by decide) rfl (by decide) rfl (Nat.le_of_ble_eq_true rfl) rfl dX12_beside_2) (fun x2 σ1 hf => ?_)
  refine ev_if_eq (pc := 5) (tgt := 35) dX12_beside_5 (by decide) (fun c3 => ?_) (fun c3 => ?_)
  · have hf := hf.1 c3
    refine ev_ldc (pc := 35) wk_X12_139 dX12_beside_35 ?_
    exact ev_iret (pc := 37) rfl dX12_beside_37 hf
  · have hf := hf.2 c3
    refine ev_aload_n (pc := 8) dX12_beside_8 rfl (i := 0) rfl ?_
    refine ev_iload_n (pc := 9) dX12_beside_9 rfl (i := 2) rfl ?_
    refine ev_calli (pc := 10) (stk := []) (ce_V (c_X12_isMan a2 σ1 _ hf) wv_X12_136_X12_isMan rfl (by decide) rfl (by decide) rfl (Nat.le_of_ble_eq_true rfl) rfl dX12_beside_10) (fun x5 σ4 hf => ?_)
    refine ev_if_eq (pc := 13) (tgt := 35) dX12_beside_13 (by decide) (fun c6 => ?_) (fun c6 => ?_)
    · have hf := hf.1 c6
      refine ev_ldc (pc := 35) wk_X12_139 dX12_beside_35 ?_
      exact ev_iret (pc := 37) rfl dX12_beside_37 hf
    · have hf := hf.2 c6
      refine ev_iload_n (pc := 16) dX12_beside_16 rfl (i := 1) rfl ?_
      refine ev_iload_n (pc := 17) dX12_beside_17 rfl (i := 2) rfl ?_
      refine ev_icmp_eq (pc := 18) (tgt := 35) dX12_beside_18 (by decide) (fun c7 => ?_) (fun c7 => ?_)
      · have hf := hf.1 c7
        refine ev_ldc (pc := 35) wk_X12_139 dX12_beside_35 ?_
        exact ev_iret (pc := 37) rfl dX12_beside_37 hf
      · have hf := hf.2 c7
        refine ev_aload_n (pc := 21) dX12_beside_21 rfl (i := 0) rfl ?_
        refine ev_get (pc := 22) fl_X12_23_12_6 rfl (by decide) rfl rfl dX12_beside_22 ?_
        refine ev_bipush (pc := 25) (v := 6) dX12_beside_25 kb_6 ?_
        refine ev_iload_n (pc := 27) dX12_beside_27 rfl (i := 1) rfl ?_
        refine ev_imul (pc := 28) dX12_beside_28 ?_
        refine ev_iload_n (pc := 29) dX12_beside_29 rfl (i := 2) rfl ?_
        refine ev_iadd (pc := 30) dX12_beside_30 ?_
        obtain ⟨h8, hf⟩ := hf
        refine ev_iald (pc := 31) rfl rfl h8 rfl dX12_beside_31 ?_
        refine ev_goto (pc := 32) (tgt := 37) dX12_beside_32 (by decide) ?_
        exact ev_iret (pc := 37) rfl dX12_beside_37 hf
def f_X12_take_L2 (post : St → Prop) : Nat → Int32 → St → Prop
  | 0, _, _ => False
  | n + 1, v1, σ => (6 ≤ v1 → (post σ)) ∧ (¬ 6 ≤ v1 → (vp_in (0 + v1) 465 ∧ (vp_in v1 24 ∧ ((f_X12_take_L2 post n) (v1 + 1) (st_up σ 10 v1.toNatClampNeg (σ.1 8 ((0 + v1).toNatClampNeg)))))))
set_option maxRecDepth 100000 in
set_option maxHeartbeats 4000000 in
theorem p_X12_take_L2 (post : St → Prop) : ∀ (n : Nat) (v1 : Int32) (σ : St), f_X12_take_L2 post n v1 σ → Ev SM RX12 cX12_take 2 none 0 (EQv SM post) 2 [some (.ref 0), some (.int v1)] [] σ := by
  intro n
  induction n with
  | zero =>
    intro v1 σ hf
    exact hf.elim
  | succ n hagain2 =>
    intro v1 σ hf
    rw [f_X12_take_L2] at hf
    refine ev_iload_n (pc := 2) dX12_take_2 rfl (i := 1) rfl ?_
    refine ev_bipush (pc := 3) (v := 6) dX12_take_3 kb_6 ?_
    refine ev_icmp_ge (pc := 5) (tgt := 28) dX12_take_5 (by decide) (fun c1 => ?_) (fun c1 => ?_)
    · have hf := hf.1 c1
      exact ev_vret (pc := 28) rfl dX12_take_28 hf
    · have hf := hf.2 c1
      refine ev_aload_n (pc := 8) dX12_take_8 rfl (i := 0) rfl ?_
      refine ev_get (pc := 9) fl_X12_39_12_18 rfl (by decide) rfl rfl dX12_take_9 ?_
      refine ev_iload_n (pc := 12) dX12_take_12 rfl (i := 1) rfl ?_
      refine ev_aload_n (pc := 13) dX12_take_13 rfl (i := 0) rfl ?_
      refine ev_get (pc := 14) fl_X12_32_12_16 rfl (by decide) rfl rfl dX12_take_14 ?_
      refine ev_iconst (pc := 17) (v := 0) dX12_take_17 kc_0 ?_
      refine ev_iload_n (pc := 18) dX12_take_18 rfl (i := 1) rfl ?_
      refine ev_iadd (pc := 19) dX12_take_19 ?_
      obtain ⟨h2, hf⟩ := hf
      refine ev_iald (pc := 20) rfl rfl h2 rfl dX12_take_20 ?_
      obtain ⟨h3, hf⟩ := hf
      refine ev_iast (pc := 21) rfl rfl h3 rfl dX12_take_21 ?_
      refine ev_iinc (pc := 22) (v := v1 + 1) (L' := [some (.ref 0), some (.int (v1 + 1))]) dX12_take_22 rfl (by rw [kc_1]) (by decide) rfl rfl ?_
      refine ev_goto (pc := 25) (tgt := 2) dX12_take_25 (by decide) ?_
      exact hagain2 _ _ hf
def f_X12_take (σ : St) (post : St → Prop) : Prop := ∃ n4 : Nat, f_X12_take_L2 post n4 0 σ
set_option maxRecDepth 100000 in
set_option maxHeartbeats 4000000 in
theorem c_X12_take (σ : St) (post : St → Prop) (hf : f_X12_take σ post) : Ct SM yX12_take cX12_take 2 none 0 (EQv SM post) [.ref 0] σ := by
  rw [f_X12_take] at hf
  refine ct_of (by decide) rfl (Nat.le_of_ble_eq_true rfl) ?_
  show Ev SM RX12 cX12_take 2 none 0 (EQv SM post) 0 [some (.ref 0), none] [] σ
  refine ev_iconst (pc := 0) (v := 0) dX12_take_0 kc_0 ?_
  refine ev_istore_n (pc := 1) (L' := [some (.ref 0), some (.int 0)]) dX12_take_1 rfl (by decide) rfl rfl ?_
  obtain ⟨n4, hf⟩ := hf
  exact p_X12_take_L2 post n4 _ _ hf
def f_X12_held (a0 : Int32) (σ : St) (post : Int32 → St → Prop) : Prop := (0 ≤ a0 → ((a0 ≤ 999 → (post a0 σ)) ∧ (¬ a0 ≤ 999 → (post 999 σ)))) ∧ (¬ 0 ≤ a0 → (post 0 σ))
set_option maxRecDepth 100000 in
set_option maxHeartbeats 4000000 in
theorem c_X12_held (a0 : Int32) (σ : St) (post : Int32 → St → Prop) (hf : f_X12_held a0 σ post) : Ct SM yX12_held cX12_held 1 (some .int) 0 (EQi SM post) [.int a0] σ := by
  rw [f_X12_held] at hf
  refine ct_of (by decide) rfl (Nat.le_of_ble_eq_true rfl) ?_
  show Ev SM RX12 cX12_held 1 (some .int) 0 (EQi SM post) 0 [some (.int a0)] [] σ
  refine ev_iload_n (pc := 0) dX12_held_0 rfl (i := 0) rfl ?_
  refine ev_if_ge (pc := 1) (tgt := 8) dX12_held_1 (by decide) (fun c1 => ?_) (fun c1 => ?_)
  · have hf := hf.1 c1
    refine ev_iload_n (pc := 8) dX12_held_8 rfl (i := 0) rfl ?_
    refine ev_sipush (pc := 9) (v := 999) dX12_held_9 ks_999 ?_
    refine ev_icmp_le (pc := 12) (tgt := 21) dX12_held_12 (by decide) (fun c2 => ?_) (fun c2 => ?_)
    · have hf := hf.1 c2
      refine ev_iload_n (pc := 21) dX12_held_21 rfl (i := 0) rfl ?_
      exact ev_iret (pc := 22) rfl dX12_held_22 hf
    · have hf := hf.2 c2
      refine ev_sipush (pc := 15) (v := 999) dX12_held_15 ks_999 ?_
      refine ev_goto (pc := 18) (tgt := 22) dX12_held_18 (by decide) ?_
      exact ev_iret (pc := 22) rfl dX12_held_22 hf
  · have hf := hf.2 c1
    refine ev_iconst (pc := 4) (v := 0) dX12_held_4 kc_0 ?_
    refine ev_goto (pc := 5) (tgt := 22) dX12_held_5 (by decide) ?_
    exact ev_iret (pc := 22) rfl dX12_held_22 hf
def f_X12_begins_L11 (r1 : Nat) (n1 : Nat) (a2 : Int32) (a3 : Int32) (a4 : Int32) (k67 : Int32 → St → Prop) (post : Int32 → St → Prop) : Nat → Int32 → Int32 → St → Prop
  | 0, _, _, _ => False
  | n + 1, v5, v6, σ => ((σ.1 2 0) ≤ v6 → (k67 v5 σ)) ∧ (¬ (σ.1 2 0) ≤ v6 → ((v6 = a4 → ((f_X12_begins_L11 r1 n1 a2 a3 a4 k67 post n) (v5 + 0) (v6 + 1) σ)) ∧ (¬ v6 = a4 → ((¬ ((a3 >>> (v6 &&& 31)) &&& 1) = 1 → ((f_X12_begins_L11 r1 n1 a2 a3 a4 k67 post n) (v5 + 0) (v6 + 1) σ)) ∧ (((a3 >>> (v6 &&& 31)) &&& 1) = 1 → (vp_in ((6 * a4) + v6) 72 ∧ ((f_X12_begins_L11 r1 n1 a2 a3 a4 k67 post n) (v5 + (σ.1 5 (((6 * a4) + v6).toNatClampNeg))) (v6 + 1) σ)))))))
set_option maxRecDepth 100000 in
set_option maxHeartbeats 4000000 in
theorem p_X12_begins_L11 (r1 : Nat) (n1 : Nat) (a2 : Int32) (a3 : Int32) (a4 : Int32) (hr1 : SM.1[r1]? = some (20, n1, [])) (k67 : Int32 → St → Prop) (post : Int32 → St → Prop) (hk67 : ∀ (v5 : Int32) (τ : St), k67 v5 τ → Ev SM RX12 cX12_begins 7 (some .int) 1 (EQi SM post) 67 [some (.ref 0), some (.ref r1), some (.int a2), some (.int a3), some (.int a4), some (.int v5), none] [] τ) : ∀ (n : Nat) (v5 : Int32) (v6 : Int32) (σ : St), f_X12_begins_L11 r1 n1 a2 a3 a4 k67 post n v5 v6 σ → Ev SM RX12 cX12_begins 7 (some .int) 1 (EQi SM post) 11 [some (.ref 0), some (.ref r1), some (.int a2), some (.int a3), some (.int a4), some (.int v5), some (.int v6)] [] σ := by
  intro n
  induction n with
  | zero =>
    intro v5 v6 σ hf
    exact hf.elim
  | succ n hagain11 =>
    intro v5 v6 σ hf
    rw [f_X12_begins_L11] at hf
    refine ev_iload (pc := 11) dX12_begins_11 rfl ?_
    refine ev_aload_n (pc := 13) dX12_begins_13 rfl (i := 0) rfl ?_
    refine ev_get (pc := 14) fl_X12_13_12_3 rfl (by decide) rfl rfl dX12_begins_14 ?_
    refine ev_iconst (pc := 17) (v := 0) dX12_begins_17 kc_0 ?_
    refine ev_iald (pc := 18) rfl rfl ki_0_2 kn_0 dX12_begins_18 ?_
    refine ev_icmp_ge (pc := 19) (tgt := 67) dX12_begins_19 (by decide) (fun c2 => ?_) (fun c2 => ?_)
    · have hf := hf.1 c2
      refine ev_mask [true, true, true, true, true, true, false] (L' := [some (.ref 0), some (.ref r1), some (.int a2), some (.int a3), some (.int a4), some (.int v5), none]) rfl ?_
      exact hk67 _ _ hf
    · have hf := hf.2 c2
      refine ev_iload (pc := 22) dX12_begins_22 rfl ?_
      refine ev_iload (pc := 24) dX12_begins_24 rfl ?_
      refine ev_iload (pc := 26) dX12_begins_26 rfl ?_
      refine ev_icmp_eq (pc := 28) (tgt := 57) dX12_begins_28 (by decide) (fun c3 => ?_) (fun c3 => ?_)
      · have hf := hf.1 c3
        refine ev_iconst (pc := 57) (v := 0) dX12_begins_57 kc_0 ?_
        refine ev_iadd (pc := 58) dX12_begins_58 ?_
        refine ev_istore (pc := 59) (L' := [some (.ref 0), some (.ref r1), some (.int a2), some (.int a3), some (.int a4), some (.int (v5 + 0)), some (.int v6)]) dX12_begins_59 (by decide) rfl rfl ?_
        refine ev_iinc (pc := 61) (v := v6 + 1) (L' := [some (.ref 0), some (.ref r1), some (.int a2), some (.int a3), some (.int a4), some (.int (v5 + 0)), some (.int (v6 + 1))]) dX12_begins_61 rfl (by rw [kc_1]) (by decide) rfl rfl ?_
        refine ev_goto (pc := 64) (tgt := 11) dX12_begins_64 (by decide) ?_
        exact hagain11 _ _ _ hf
      · have hf := hf.2 c3
        refine ev_iload_n (pc := 31) dX12_begins_31 rfl (i := 3) rfl ?_
        refine ev_iload (pc := 32) dX12_begins_32 rfl ?_
        refine ev_ishr (pc := 34) dX12_begins_34 ?_
        refine ev_iconst (pc := 35) (v := 1) dX12_begins_35 kc_1 ?_
        refine ev_iand (pc := 36) dX12_begins_36 ?_
        refine ev_iconst (pc := 37) (v := 1) dX12_begins_37 kc_1 ?_
        refine ev_icmp_ne (pc := 38) (tgt := 57) dX12_begins_38 (by decide) (fun c4 => ?_) (fun c4 => ?_)
        · have hf := hf.1 c4
          refine ev_iconst (pc := 57) (v := 0) dX12_begins_57 kc_0 ?_
          refine ev_iadd (pc := 58) dX12_begins_58 ?_
          refine ev_istore (pc := 59) (L' := [some (.ref 0), some (.ref r1), some (.int a2), some (.int a3), some (.int a4), some (.int (v5 + 0)), some (.int v6)]) dX12_begins_59 (by decide) rfl rfl ?_
          refine ev_iinc (pc := 61) (v := v6 + 1) (L' := [some (.ref 0), some (.ref r1), some (.int a2), some (.int a3), some (.int a4), some (.int (v5 + 0)), some (.int (v6 + 1))]) dX12_begins_61 rfl (by rw [kc_1]) (by decide) rfl rfl ?_
          refine ev_goto (pc := 64) (tgt := 11) dX12_begins_64 (by decide) ?_
          exact hagain11 _ _ _ hf
        · have hf := hf.2 c4
          refine ev_aload_n (pc := 41) dX12_begins_41 rfl (i := 0) rfl ?_
          refine ev_get (pc := 42) fl_X12_23_12_6 rfl (by decide) rfl rfl dX12_begins_42 ?_
          refine ev_bipush (pc := 45) (v := 6) dX12_begins_45 kb_6 ?_
          refine ev_iload (pc := 47) dX12_begins_47 rfl ?_
          refine ev_imul (pc := 49) dX12_begins_49 ?_
          refine ev_iload (pc := 50) dX12_begins_50 rfl ?_
          refine ev_iadd (pc := 52) dX12_begins_52 ?_
          obtain ⟨h5, hf⟩ := hf
          refine ev_iald (pc := 53) rfl rfl h5 rfl dX12_begins_53 ?_
          refine ev_goto (pc := 54) (tgt := 58) dX12_begins_54 (by decide) ?_
          refine ev_iadd (pc := 58) dX12_begins_58 ?_
          refine ev_istore (pc := 59) (L' := [some (.ref 0), some (.ref r1), some (.int a2), some (.int a3), some (.int a4), some (.int (v5 + (σ.1 5 (((6 * a4) + v6).toNatClampNeg)))), some (.int v6)]) dX12_begins_59 (by decide) rfl rfl ?_
          refine ev_iinc (pc := 61) (v := v6 + 1) (L' := [some (.ref 0), some (.ref r1), some (.int a2), some (.int a3), some (.int a4), some (.int (v5 + (σ.1 5 (((6 * a4) + v6).toNatClampNeg)))), some (.int (v6 + 1))]) dX12_begins_61 rfl (by rw [kc_1]) (by decide) rfl rfl ?_
          refine ev_goto (pc := 64) (tgt := 11) dX12_begins_64 (by decide) ?_
          exact hagain11 _ _ _ hf
def f_X12_begins (r1 : Nat) (n1 : Nat) (a2 : Int32) (a3 : Int32) (a4 : Int32) (σ : St) (post : Int32 → St → Prop) : Prop := vp_in (a2 + a4) n1 ∧ (∃ n10 : Nat, f_X12_begins_L11 r1 n1 a2 a3 a4 (fun x7 σ6 => f_X12_held x7 σ6 (fun x9 σ8 => post x9 σ8)) post n10 (σ.1 r1 ((a2 + a4).toNatClampNeg)) 0 σ)
set_option maxRecDepth 100000 in
set_option maxHeartbeats 4000000 in
theorem c_X12_begins (r1 : Nat) (n1 : Nat) (a2 : Int32) (a3 : Int32) (a4 : Int32) (hr1 : SM.1[r1]? = some (20, n1, [])) (σ : St) (post : Int32 → St → Prop) (hf : f_X12_begins r1 n1 a2 a3 a4 σ post) : Ct SM yX12_begins cX12_begins 7 (some .int) 1 (EQi SM post) [.ref 0, .ref r1, .int a2, .int a3, .int a4] σ := by
  rw [f_X12_begins] at hf
  refine ct_of (by decide) rfl (Nat.le_of_ble_eq_true rfl) ?_
  show Ev SM RX12 cX12_begins 7 (some .int) 1 (EQi SM post) 0 [some (.ref 0), some (.ref r1), some (.int a2), some (.int a3), some (.int a4), none, none] [] σ
  refine ev_aload_n (pc := 0) dX12_begins_0 rfl (i := 1) rfl ?_
  refine ev_iload_n (pc := 1) dX12_begins_1 rfl (i := 2) rfl ?_
  refine ev_iload (pc := 2) dX12_begins_2 rfl ?_
  refine ev_iadd (pc := 4) dX12_begins_4 ?_
  obtain ⟨h1, hf⟩ := hf
  refine ev_iald (pc := 5) hr1 rfl h1 rfl dX12_begins_5 ?_
  refine ev_istore (pc := 6) (L' := [some (.ref 0), some (.ref r1), some (.int a2), some (.int a3), some (.int a4), some (.int (σ.1 r1 ((a2 + a4).toNatClampNeg))), none]) dX12_begins_6 (by decide) rfl rfl ?_
  refine ev_iconst (pc := 8) (v := 0) dX12_begins_8 kc_0 ?_
  refine ev_istore (pc := 9) (L' := [some (.ref 0), some (.ref r1), some (.int a2), some (.int a3), some (.int a4), some (.int (σ.1 r1 ((a2 + a4).toNatClampNeg))), some (.int 0)]) dX12_begins_9 (by decide) rfl rfl ?_
  obtain ⟨n10, hf⟩ := hf
  exact p_X12_begins_L11 r1 n1 a2 a3 a4 hr1 _ post (fun x7 σ6 hf => by
    refine ev_iload (pc := 67) dX12_begins_67 rfl ?_
    refine ev_calli (pc := 69) (stk := []) (ce_S (c_X12_held x7 σ6 _ hf) wt_X12_140_X12_held  (by decide) rfl (Nat.le_of_ble_eq_true rfl) rfl dX12_begins_69) (fun x9 σ8 hf => ?_)
    exact ev_iret (pc := 72) rfl dX12_begins_72 hf) n10 _ _ _ hf
def f_X12_brings (a1 : Int32) (σ : St) (post : Int32 → St → Prop) : Prop := ((σ.1 7 0) ≤ a1 → (post a1 σ)) ∧ (¬ (σ.1 7 0) ≤ a1 → (post 0 σ))
set_option maxRecDepth 100000 in
set_option maxHeartbeats 4000000 in
theorem c_X12_brings (a1 : Int32) (σ : St) (post : Int32 → St → Prop) (hf : f_X12_brings a1 σ post) : Ct SM yX12_brings cX12_brings 2 (some .int) 0 (EQi SM post) [.ref 0, .int a1] σ := by
  rw [f_X12_brings] at hf
  refine ct_of (by decide) rfl (Nat.le_of_ble_eq_true rfl) ?_
  show Ev SM RX12 cX12_brings 2 (some .int) 0 (EQi SM post) 0 [some (.ref 0), some (.int a1)] [] σ
  refine ev_iload_n (pc := 0) dX12_brings_0 rfl (i := 1) rfl ?_
  refine ev_aload_n (pc := 1) dX12_brings_1 rfl (i := 0) rfl ?_
  refine ev_get (pc := 2) fl_X12_29_12_8 rfl (by decide) rfl rfl dX12_brings_2 ?_
  refine ev_iconst (pc := 5) (v := 0) dX12_brings_5 kc_0 ?_
  refine ev_iald (pc := 6) rfl rfl ki_0_2 kn_0 dX12_brings_6 ?_
  refine ev_icmp_ge (pc := 7) (tgt := 14) dX12_brings_7 (by decide) (fun c1 => ?_) (fun c1 => ?_)
  · have hf := hf.1 c1
    refine ev_iload_n (pc := 14) dX12_brings_14 rfl (i := 1) rfl ?_
    exact ev_iret (pc := 15) rfl dX12_brings_15 hf
  · have hf := hf.2 c1
    refine ev_iconst (pc := 10) (v := 0) dX12_brings_10 kc_0 ?_
    refine ev_goto (pc := 11) (tgt := 15) dX12_brings_11 (by decide) ?_
    exact ev_iret (pc := 15) rfl dX12_brings_15 hf
def f_X12_pass_L6 (r1 : Nat) (n1 : Nat) (a2 : Int32) (a3 : Int32) (a4 : Int32) (k104 : Int32 → St → Prop) (post : Int32 → St → Prop) : Nat → Int32 → Int32 → St → Prop
  | 0, _, _, _ => False
  | n + 1, v5, v6, σ => ((σ.1 2 0) ≤ v6 → (k104 v5 σ)) ∧ (¬ (σ.1 2 0) ≤ v6 → ((¬ ((a4 >>> (v6 &&& 31)) &&& 1) = 1 → (vp_in (a2 + v6) n1 ∧ (vp_in v6 12 ∧ (f_X12_held ((σ.1 r1 ((a2 + v6).toNatClampNeg)) + (σ.1 3 v6.toNatClampNeg)) σ (fun x6 σ5 => vp_in ((a3 + 6) + v6) n1 ∧ ((f_X12_pass_L6 r1 n1 a2 a3 a4 k104 post n) v5 (v6 + 1) (st_up σ5 r1 (((a3 + 6) + v6).toNatClampNeg) x6))))))) ∧ (((a4 >>> (v6 &&& 31)) &&& 1) = 1 → (f_X12_begins r1 n1 a2 a4 v6 σ (fun x9 σ8 => f_X12_brings (x9 / 2) σ8 (fun x11 σ10 => vp_in ((a3 + 6) + v6) n1 ∧ ((f_X12_pass_L6 r1 n1 a2 a3 a4 k104 post n) (v5 + x11) (v6 + 1) (st_up σ10 r1 (((a3 + 6) + v6).toNatClampNeg) (x9 - (x9 / 2))))))))))
set_option maxRecDepth 100000 in
set_option maxHeartbeats 4000000 in
theorem p_X12_pass_L6 (r1 : Nat) (n1 : Nat) (a2 : Int32) (a3 : Int32) (a4 : Int32) (hr1 : SM.1[r1]? = some (20, n1, [])) (k104 : Int32 → St → Prop) (post : Int32 → St → Prop) (hk104 : ∀ (v5 : Int32) (τ : St), k104 v5 τ → Ev SM RX12 cX12_pass 8 (some .int) 2 (EQi SM post) 104 [some (.ref 0), some (.ref r1), some (.int a2), some (.int a3), some (.int a4), some (.int v5), none, none] [] τ) : ∀ (n : Nat) (v5 : Int32) (v6 : Int32) (σ : St), f_X12_pass_L6 r1 n1 a2 a3 a4 k104 post n v5 v6 σ → Ev SM RX12 cX12_pass 8 (some .int) 2 (EQi SM post) 6 [some (.ref 0), some (.ref r1), some (.int a2), some (.int a3), some (.int a4), some (.int v5), some (.int v6), none] [] σ := by
  intro n
  induction n with
  | zero =>
    intro v5 v6 σ hf
    exact hf.elim
  | succ n hagain6 =>
    intro v5 v6 σ hf
    rw [f_X12_pass_L6] at hf
    refine ev_iload (pc := 6) dX12_pass_6 rfl ?_
    refine ev_aload_n (pc := 8) dX12_pass_8 rfl (i := 0) rfl ?_
    refine ev_get (pc := 9) fl_X12_13_12_3 rfl (by decide) rfl rfl dX12_pass_9 ?_
    refine ev_iconst (pc := 12) (v := 0) dX12_pass_12 kc_0 ?_
    refine ev_iald (pc := 13) rfl rfl ki_0_2 kn_0 dX12_pass_13 ?_
    refine ev_icmp_ge (pc := 14) (tgt := 104) dX12_pass_14 (by decide) (fun c1 => ?_) (fun c1 => ?_)
    · have hf := hf.1 c1
      refine ev_mask [true, true, true, true, true, true, false, false] (L' := [some (.ref 0), some (.ref r1), some (.int a2), some (.int a3), some (.int a4), some (.int v5), none, none]) rfl ?_
      exact hk104 _ _ hf
    · have hf := hf.2 c1
      refine ev_iload (pc := 17) dX12_pass_17 rfl ?_
      refine ev_iload (pc := 19) dX12_pass_19 rfl ?_
      refine ev_ishr (pc := 21) dX12_pass_21 ?_
      refine ev_iconst (pc := 22) (v := 1) dX12_pass_22 kc_1 ?_
      refine ev_iand (pc := 23) dX12_pass_23 ?_
      refine ev_iconst (pc := 24) (v := 1) dX12_pass_24 kc_1 ?_
      refine ev_icmp_ne (pc := 25) (tgt := 72) dX12_pass_25 (by decide) (fun c2 => ?_) (fun c2 => ?_)
      · have hf := hf.1 c2
        refine ev_aload_n (pc := 72) dX12_pass_72 rfl (i := 1) rfl ?_
        refine ev_iload_n (pc := 73) dX12_pass_73 rfl (i := 3) rfl ?_
        refine ev_bipush (pc := 74) (v := 6) dX12_pass_74 kb_6 ?_
        refine ev_iadd (pc := 76) dX12_pass_76 ?_
        refine ev_iload (pc := 77) dX12_pass_77 rfl ?_
        refine ev_iadd (pc := 79) dX12_pass_79 ?_
        refine ev_aload_n (pc := 80) dX12_pass_80 rfl (i := 1) rfl ?_
        refine ev_iload_n (pc := 81) dX12_pass_81 rfl (i := 2) rfl ?_
        refine ev_iload (pc := 82) dX12_pass_82 rfl ?_
        refine ev_iadd (pc := 84) dX12_pass_84 ?_
        obtain ⟨h3, hf⟩ := hf
        refine ev_iald (pc := 85) hr1 rfl h3 rfl dX12_pass_85 ?_
        refine ev_aload_n (pc := 86) dX12_pass_86 rfl (i := 0) rfl ?_
        refine ev_get (pc := 87) fl_X12_17_12_4 rfl (by decide) rfl rfl dX12_pass_87 ?_
        refine ev_iload (pc := 90) dX12_pass_90 rfl ?_
        obtain ⟨h4, hf⟩ := hf
        refine ev_iald (pc := 92) rfl rfl h4 rfl dX12_pass_92 ?_
        refine ev_iadd (pc := 93) dX12_pass_93 ?_
        refine ev_calli (pc := 94) (stk := [.int ((a3 + 6) + v6), .ref r1]) (ce_S (c_X12_held ((σ.1 r1 ((a2 + v6).toNatClampNeg)) + (σ.1 3 v6.toNatClampNeg)) σ _ hf) wt_X12_140_X12_held  (by decide) rfl (Nat.le_of_ble_eq_true rfl) rfl dX12_pass_94) (fun x6 σ5 hf => ?_)
        obtain ⟨h7, hf⟩ := hf
        refine ev_iast (pc := 97) hr1 rfl h7 rfl dX12_pass_97 ?_
        refine ev_iinc (pc := 98) (v := v6 + 1) (L' := [some (.ref 0), some (.ref r1), some (.int a2), some (.int a3), some (.int a4), some (.int v5), some (.int (v6 + 1)), none]) dX12_pass_98 rfl (by rw [kc_1]) (by decide) rfl rfl ?_
        refine ev_goto (pc := 101) (tgt := 6) dX12_pass_101 (by decide) ?_
        exact hagain6 _ _ _ hf
      · have hf := hf.2 c2
        refine ev_aload_n (pc := 28) dX12_pass_28 rfl (i := 0) rfl ?_
        refine ev_aload_n (pc := 29) dX12_pass_29 rfl (i := 1) rfl ?_
        refine ev_iload_n (pc := 30) dX12_pass_30 rfl (i := 2) rfl ?_
        refine ev_iload (pc := 31) dX12_pass_31 rfl ?_
        refine ev_iload (pc := 33) dX12_pass_33 rfl ?_
        refine ev_calli (pc := 35) (stk := []) (ce_V (c_X12_begins r1 n1 a2 a4 v6 hr1 σ _ hf) wv_X12_143_X12_begins rfl (by decide) rfl (by decide) rfl (Nat.le_of_ble_eq_true rfl) rfl dX12_pass_35) (fun x9 σ8 hf => ?_)
        refine ev_istore (pc := 38) (L' := [some (.ref 0), some (.ref r1), some (.int a2), some (.int a3), some (.int a4), some (.int v5), some (.int v6), some (.int x9)]) dX12_pass_38 (by decide) rfl rfl ?_
        refine ev_iload (pc := 40) dX12_pass_40 rfl ?_
        refine ev_aload_n (pc := 42) dX12_pass_42 rfl (i := 0) rfl ?_
        refine ev_iload (pc := 43) dX12_pass_43 rfl ?_
        refine ev_iconst (pc := 45) (v := 2) dX12_pass_45 kc_2 ?_
        refine ev_idiv (pc := 46) dX12_pass_46 (by decide) ?_
        refine ev_calli (pc := 47) (stk := [.int v5]) (ce_V (c_X12_brings (x9 / 2) σ8 _ hf) wv_X12_147_X12_brings rfl (by decide) rfl (by decide) rfl (Nat.le_of_ble_eq_true rfl) rfl dX12_pass_47) (fun x11 σ10 hf => ?_)
        refine ev_iadd (pc := 50) dX12_pass_50 ?_
        refine ev_istore (pc := 51) (L' := [some (.ref 0), some (.ref r1), some (.int a2), some (.int a3), some (.int a4), some (.int (v5 + x11)), some (.int v6), some (.int x9)]) dX12_pass_51 (by decide) rfl rfl ?_
        refine ev_aload_n (pc := 53) dX12_pass_53 rfl (i := 1) rfl ?_
        refine ev_iload_n (pc := 54) dX12_pass_54 rfl (i := 3) rfl ?_
        refine ev_bipush (pc := 55) (v := 6) dX12_pass_55 kb_6 ?_
        refine ev_iadd (pc := 57) dX12_pass_57 ?_
        refine ev_iload (pc := 58) dX12_pass_58 rfl ?_
        refine ev_iadd (pc := 60) dX12_pass_60 ?_
        refine ev_iload (pc := 61) dX12_pass_61 rfl ?_
        refine ev_iload (pc := 63) dX12_pass_63 rfl ?_
        refine ev_iconst (pc := 65) (v := 2) dX12_pass_65 kc_2 ?_
        refine ev_idiv (pc := 66) dX12_pass_66 (by decide) ?_
        refine ev_isub (pc := 67) dX12_pass_67 ?_
        obtain ⟨h12, hf⟩ := hf
        refine ev_iast (pc := 68) hr1 rfl h12 rfl dX12_pass_68 ?_
        refine ev_goto (pc := 69) (tgt := 98) dX12_pass_69 (by decide) ?_
        refine ev_iinc (pc := 98) (v := v6 + 1) (L' := [some (.ref 0), some (.ref r1), some (.int a2), some (.int a3), some (.int a4), some (.int (v5 + x11)), some (.int (v6 + 1)), some (.int x9)]) dX12_pass_98 rfl (by rw [kc_1]) (by decide) rfl rfl ?_
        refine ev_goto (pc := 101) (tgt := 6) dX12_pass_101 (by decide) ?_
        refine ev_mask [true, true, true, true, true, true, true, false] (L' := [some (.ref 0), some (.ref r1), some (.int a2), some (.int a3), some (.int a4), some (.int (v5 + x11)), some (.int (v6 + 1)), none]) rfl ?_
        exact hagain6 _ _ _ hf
def f_X12_pass_L107 (r1 : Nat) (n1 : Nat) (a2 : Int32) (a3 : Int32) (a4 : Int32) (post : Int32 → St → Prop) : Nat → Int32 → Int32 → St → Prop
  | 0, _, _, _ => False
  | n + 1, v5, v6, σ => ((σ.1 2 0) ≤ v6 → (post v5 σ)) ∧ (¬ (σ.1 2 0) ≤ v6 → (vp_in ((a3 + 6) + v6) n1 ∧ (vp_in (a3 + v6) n1 ∧ ((f_X12_pass_L107 r1 n1 a2 a3 a4 post n) v5 (v6 + 1) (st_up σ r1 ((a3 + v6).toNatClampNeg) (σ.1 r1 (((a3 + 6) + v6).toNatClampNeg)))))))
set_option maxRecDepth 100000 in
set_option maxHeartbeats 4000000 in
theorem p_X12_pass_L107 (r1 : Nat) (n1 : Nat) (a2 : Int32) (a3 : Int32) (a4 : Int32) (hr1 : SM.1[r1]? = some (20, n1, [])) (post : Int32 → St → Prop) : ∀ (n : Nat) (v5 : Int32) (v6 : Int32) (σ : St), f_X12_pass_L107 r1 n1 a2 a3 a4 post n v5 v6 σ → Ev SM RX12 cX12_pass 8 (some .int) 2 (EQi SM post) 107 [some (.ref 0), some (.ref r1), some (.int a2), some (.int a3), some (.int a4), some (.int v5), some (.int v6), none] [] σ := by
  intro n
  induction n with
  | zero =>
    intro v5 v6 σ hf
    exact hf.elim
  | succ n hagain107 =>
    intro v5 v6 σ hf
    rw [f_X12_pass_L107] at hf
    refine ev_iload (pc := 107) dX12_pass_107 rfl ?_
    refine ev_aload_n (pc := 109) dX12_pass_109 rfl (i := 0) rfl ?_
    refine ev_get (pc := 110) fl_X12_13_12_3 rfl (by decide) rfl rfl dX12_pass_110 ?_
    refine ev_iconst (pc := 113) (v := 0) dX12_pass_113 kc_0 ?_
    refine ev_iald (pc := 114) rfl rfl ki_0_2 kn_0 dX12_pass_114 ?_
    refine ev_icmp_ge (pc := 115) (tgt := 139) dX12_pass_115 (by decide) (fun c15 => ?_) (fun c15 => ?_)
    · have hf := hf.1 c15
      refine ev_iload (pc := 139) dX12_pass_139 rfl ?_
      exact ev_iret (pc := 141) rfl dX12_pass_141 hf
    · have hf := hf.2 c15
      refine ev_aload_n (pc := 118) dX12_pass_118 rfl (i := 1) rfl ?_
      refine ev_iload_n (pc := 119) dX12_pass_119 rfl (i := 3) rfl ?_
      refine ev_iload (pc := 120) dX12_pass_120 rfl ?_
      refine ev_iadd (pc := 122) dX12_pass_122 ?_
      refine ev_aload_n (pc := 123) dX12_pass_123 rfl (i := 1) rfl ?_
      refine ev_iload_n (pc := 124) dX12_pass_124 rfl (i := 3) rfl ?_
      refine ev_bipush (pc := 125) (v := 6) dX12_pass_125 kb_6 ?_
      refine ev_iadd (pc := 127) dX12_pass_127 ?_
      refine ev_iload (pc := 128) dX12_pass_128 rfl ?_
      refine ev_iadd (pc := 130) dX12_pass_130 ?_
      obtain ⟨h16, hf⟩ := hf
      refine ev_iald (pc := 131) hr1 rfl h16 rfl dX12_pass_131 ?_
      obtain ⟨h17, hf⟩ := hf
      refine ev_iast (pc := 132) hr1 rfl h17 rfl dX12_pass_132 ?_
      refine ev_iinc (pc := 133) (v := v6 + 1) (L' := [some (.ref 0), some (.ref r1), some (.int a2), some (.int a3), some (.int a4), some (.int v5), some (.int (v6 + 1)), none]) dX12_pass_133 rfl (by rw [kc_1]) (by decide) rfl rfl ?_
      refine ev_goto (pc := 136) (tgt := 107) dX12_pass_136 (by decide) ?_
      exact hagain107 _ _ _ hf
def f_X12_pass (r1 : Nat) (n1 : Nat) (a2 : Int32) (a3 : Int32) (a4 : Int32) (σ : St) (post : Int32 → St → Prop) : Prop := ∃ n19 : Nat, f_X12_pass_L6 r1 n1 a2 a3 a4 (fun x14 σ13 => ∃ n18 : Nat, f_X12_pass_L107 r1 n1 a2 a3 a4 post n18 x14 0 σ13) post n19 0 0 σ
set_option maxRecDepth 100000 in
set_option maxHeartbeats 4000000 in
theorem c_X12_pass (r1 : Nat) (n1 : Nat) (a2 : Int32) (a3 : Int32) (a4 : Int32) (hr1 : SM.1[r1]? = some (20, n1, [])) (σ : St) (post : Int32 → St → Prop) (hf : f_X12_pass r1 n1 a2 a3 a4 σ post) : Ct SM yX12_pass cX12_pass 8 (some .int) 2 (EQi SM post) [.ref 0, .ref r1, .int a2, .int a3, .int a4] σ := by
  rw [f_X12_pass] at hf
  refine ct_of (by decide) rfl (Nat.le_of_ble_eq_true rfl) ?_
  show Ev SM RX12 cX12_pass 8 (some .int) 2 (EQi SM post) 0 [some (.ref 0), some (.ref r1), some (.int a2), some (.int a3), some (.int a4), none, none, none] [] σ
  refine ev_iconst (pc := 0) (v := 0) dX12_pass_0 kc_0 ?_
  refine ev_istore (pc := 1) (L' := [some (.ref 0), some (.ref r1), some (.int a2), some (.int a3), some (.int a4), some (.int 0), none, none]) dX12_pass_1 (by decide) rfl rfl ?_
  refine ev_iconst (pc := 3) (v := 0) dX12_pass_3 kc_0 ?_
  refine ev_istore (pc := 4) (L' := [some (.ref 0), some (.ref r1), some (.int a2), some (.int a3), some (.int a4), some (.int 0), some (.int 0), none]) dX12_pass_4 (by decide) rfl rfl ?_
  obtain ⟨n19, hf⟩ := hf
  exact p_X12_pass_L6 r1 n1 a2 a3 a4 hr1 _ post (fun x14 σ13 hf => by
    refine ev_iconst (pc := 104) (v := 0) dX12_pass_104 kc_0 ?_
    refine ev_istore (pc := 105) (L' := [some (.ref 0), some (.ref r1), some (.int a2), some (.int a3), some (.int a4), some (.int x14), some (.int 0), none]) dX12_pass_105 (by decide) rfl rfl ?_
    obtain ⟨n18, hf⟩ := hf
    exact p_X12_pass_L107 r1 n1 a2 a3 a4 hr1 post n18 _ _ _ hf) n19 _ _ _ hf
