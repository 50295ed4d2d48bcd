def f_X11_trace_L4 (post : Int64 → St → Prop) : Nat → Int64 → Int32 → St → Prop
  | 0, _, _, _ => False
  | n + 1, v1, v3, σ => (6 ≤ v3 → (post v1 σ)) ∧ (¬ 6 ≤ v3 → (vp_in v3 6 ∧ ((v3 = 0 → ((f_X11_trace_L4 post n) (v1 + (σ.2 65)) (v3 + 1) σ)) ∧ (v3 = 1 → ((f_X11_trace_L4 post n) (v1 + (σ.2 66)) (v3 + 1) σ)) ∧ (v3 = 2 → ((f_X11_trace_L4 post n) (v1 + (σ.2 67)) (v3 + 1) σ)) ∧ (v3 = 3 → ((f_X11_trace_L4 post n) (v1 + (σ.2 68)) (v3 + 1) σ)) ∧ (v3 = 4 → ((f_X11_trace_L4 post n) (v1 + (σ.2 69)) (v3 + 1) σ)) ∧ (v3 = 5 → ((f_X11_trace_L4 post n) (v1 + (σ.2 70)) (v3 + 1) σ)))))
set_option maxRecDepth 100000 in
set_option maxHeartbeats 4000000 in
theorem p_X11_trace_L4 (post : Int64 → St → Prop) : ∀ (n : Nat) (v1 : Int64) (v3 : Int32) (σ : St), f_X11_trace_L4 post n v1 v3 σ → Ev SX RX11 cX11_trace 4 (some .long) 0 (EQl SX post) 4 [some (.ref 0), some (.long v1), none, some (.int v3)] [] σ := by
  intro n
  induction n with
  | zero =>
    intro v1 v3 σ hf
    exact hf.elim
  | succ n hagain4 =>
    intro v1 v3 σ hf
    rw [f_X11_trace_L4] at hf
    refine ev_iload_n (pc := 4) dX11_trace_4 rfl (i := 3) rfl ?_
    refine ev_aload_n (pc := 5) dX11_trace_5 rfl (i := 0) rfl ?_
    refine ev_get (pc := 6) fl_X11_73_11_8 rfl (by decide) rfl rfl dX11_trace_6 ?_
    refine ev_alenr (pc := 9) (v := 6) (t := 3) rfl rfl rfl (by decide) dX11_trace_9 ?_
    refine ev_icmp_ge (pc := 10) (tgt := 31) dX11_trace_10 (by decide) (fun c1 => ?_) (fun c1 => ?_)
    · have hf := hf.1 c1
      refine ev_lload_n (pc := 31) dX11_trace_31 rfl (i := 1) rfl ?_
      exact ev_lret (pc := 32) rfl dX11_trace_32 hf
    · have hf := hf.2 c1
      refine ev_lload_n (pc := 13) dX11_trace_13 rfl (i := 1) rfl ?_
      refine ev_aload_n (pc := 14) dX11_trace_14 rfl (i := 0) rfl ?_
      refine ev_get (pc := 15) fl_X11_73_11_8 rfl (by decide) rfl rfl dX11_trace_15 ?_
      refine ev_iload_n (pc := 18) dX11_trace_18 rfl (i := 3) rfl ?_
      obtain ⟨h2, hf⟩ := hf
      rcases kx_6 h2 with e3 | e4 | e5 | e6 | e7 | e8
      · have hf := hf.1 e3
        refine ev_aald (pc := 19) (t := 3) rfl rfl rfl rfl h2 (j := 0) (by rw [e3]; decide) dX11_trace_19 ?_
        refine ev_get (pc := 20) fl_X11_266_2_0 rfl (by decide) rfl rfl dX11_trace_20 ?_
        refine ev_ladd (pc := 23) dX11_trace_23 ?_
        refine ev_lstore_n (pc := 24) (L' := [some (.ref 0), some (.long (v1 + (σ.2 65))), none, some (.int v3)]) dX11_trace_24 rfl (by decide) rfl rfl ?_
        refine ev_iinc (pc := 25) (v := v3 + 1) (L' := [some (.ref 0), some (.long (v1 + (σ.2 65))), none, some (.int (v3 + 1))]) dX11_trace_25 rfl (by rw [kc_1]) (by decide) rfl rfl ?_
        refine ev_goto (pc := 28) (tgt := 4) dX11_trace_28 (by decide) ?_
        exact hagain4 _ _ _ hf
      · have hf := hf.2.1 e4
        refine ev_aald (pc := 19) (t := 3) rfl rfl rfl rfl h2 (j := 1) (by rw [e4]; decide) dX11_trace_19 ?_
        refine ev_get (pc := 20) fl_X11_266_9_0 rfl (by decide) rfl rfl dX11_trace_20 ?_
        refine ev_ladd (pc := 23) dX11_trace_23 ?_
        refine ev_lstore_n (pc := 24) (L' := [some (.ref 0), some (.long (v1 + (σ.2 66))), none, some (.int v3)]) dX11_trace_24 rfl (by decide) rfl rfl ?_
        refine ev_iinc (pc := 25) (v := v3 + 1) (L' := [some (.ref 0), some (.long (v1 + (σ.2 66))), none, some (.int (v3 + 1))]) dX11_trace_25 rfl (by rw [kc_1]) (by decide) rfl rfl ?_
        refine ev_goto (pc := 28) (tgt := 4) dX11_trace_28 (by decide) ?_
        exact hagain4 _ _ _ hf
      · have hf := hf.2.2.1 e5
        refine ev_aald (pc := 19) (t := 3) rfl rfl rfl rfl h2 (j := 2) (by rw [e5]; decide) dX11_trace_19 ?_
        refine ev_get (pc := 20) fl_X11_266_6_0 rfl (by decide) rfl rfl dX11_trace_20 ?_
        refine ev_ladd (pc := 23) dX11_trace_23 ?_
        refine ev_lstore_n (pc := 24) (L' := [some (.ref 0), some (.long (v1 + (σ.2 67))), none, some (.int v3)]) dX11_trace_24 rfl (by decide) rfl rfl ?_
        refine ev_iinc (pc := 25) (v := v3 + 1) (L' := [some (.ref 0), some (.long (v1 + (σ.2 67))), none, some (.int (v3 + 1))]) dX11_trace_25 rfl (by rw [kc_1]) (by decide) rfl rfl ?_
        refine ev_goto (pc := 28) (tgt := 4) dX11_trace_28 (by decide) ?_
        exact hagain4 _ _ _ hf
      · have hf := hf.2.2.2.1 e6
        refine ev_aald (pc := 19) (t := 3) rfl rfl rfl rfl h2 (j := 3) (by rw [e6]; decide) dX11_trace_19 ?_
        refine ev_get (pc := 20) fl_X11_266_7_0 rfl (by decide) rfl rfl dX11_trace_20 ?_
        refine ev_ladd (pc := 23) dX11_trace_23 ?_
        refine ev_lstore_n (pc := 24) (L' := [some (.ref 0), some (.long (v1 + (σ.2 68))), none, some (.int v3)]) dX11_trace_24 rfl (by decide) rfl rfl ?_
        refine ev_iinc (pc := 25) (v := v3 + 1) (L' := [some (.ref 0), some (.long (v1 + (σ.2 68))), none, some (.int (v3 + 1))]) dX11_trace_25 rfl (by rw [kc_1]) (by decide) rfl rfl ?_
        refine ev_goto (pc := 28) (tgt := 4) dX11_trace_28 (by decide) ?_
        exact hagain4 _ _ _ hf
      · have hf := hf.2.2.2.2.1 e7
        refine ev_aald (pc := 19) (t := 3) rfl rfl rfl rfl h2 (j := 4) (by rw [e7]; decide) dX11_trace_19 ?_
        refine ev_get (pc := 20) fl_X11_266_8_0 rfl (by decide) rfl rfl dX11_trace_20 ?_
        refine ev_ladd (pc := 23) dX11_trace_23 ?_
        refine ev_lstore_n (pc := 24) (L' := [some (.ref 0), some (.long (v1 + (σ.2 69))), none, some (.int v3)]) dX11_trace_24 rfl (by decide) rfl rfl ?_
        refine ev_iinc (pc := 25) (v := v3 + 1) (L' := [some (.ref 0), some (.long (v1 + (σ.2 69))), none, some (.int (v3 + 1))]) dX11_trace_25 rfl (by rw [kc_1]) (by decide) rfl rfl ?_
        refine ev_goto (pc := 28) (tgt := 4) dX11_trace_28 (by decide) ?_
        exact hagain4 _ _ _ hf
      · have hf := hf.2.2.2.2.2 e8
        refine ev_aald (pc := 19) (t := 3) rfl rfl rfl rfl h2 (j := 5) (by rw [e8]; decide) dX11_trace_19 ?_
        refine ev_get (pc := 20) fl_X11_266_1_0 rfl (by decide) rfl rfl dX11_trace_20 ?_
        refine ev_ladd (pc := 23) dX11_trace_23 ?_
        refine ev_lstore_n (pc := 24) (L' := [some (.ref 0), some (.long (v1 + (σ.2 70))), none, some (.int v3)]) dX11_trace_24 rfl (by decide) rfl rfl ?_
        refine ev_iinc (pc := 25) (v := v3 + 1) (L' := [some (.ref 0), some (.long (v1 + (σ.2 70))), none, some (.int (v3 + 1))]) dX11_trace_25 rfl (by rw [kc_1]) (by decide) rfl rfl ?_
        refine ev_goto (pc := 28) (tgt := 4) dX11_trace_28 (by decide) ?_
        exact hagain4 _ _ _ hf
def f_X11_trace (σ : St) (post : Int64 → St → Prop) : Prop := ∃ n9 : Nat, f_X11_trace_L4 post n9 0 0 σ
set_option maxRecDepth 100000 in
set_option maxHeartbeats 4000000 in
theorem c_X11_trace (σ : St) (post : Int64 → St → Prop) (hf : f_X11_trace σ post) : Ct SX yX11_trace cX11_trace 4 (some .long) 0 (EQl SX post) [.ref 0] σ := by
  rw [f_X11_trace] at hf
  refine ct_of (by decide) rfl (Nat.le_of_ble_eq_true rfl) ?_
  show Ev SX RX11 cX11_trace 4 (some .long) 0 (EQl SX post) 0 [some (.ref 0), none, none, none] [] σ
  refine ev_lconst (pc := 0) (v := 0) dX11_trace_0 (by decide) ?_
  refine ev_lstore_n (pc := 1) (L' := [some (.ref 0), some (.long 0), none, none]) dX11_trace_1 rfl (by decide) rfl rfl ?_
  refine ev_iconst (pc := 2) (v := 0) dX11_trace_2 kc_0 ?_
  refine ev_istore_n (pc := 3) (L' := [some (.ref 0), some (.long 0), none, some (.int 0)]) dX11_trace_3 rfl (by decide) rfl rfl ?_
  obtain ⟨n9, hf⟩ := hf
  exact p_X11_trace_L4 post n9 _ _ _ hf
