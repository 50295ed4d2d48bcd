/-! RegretPit(): the walk. -/
set_option maxRecDepth 100000 in
set_option maxHeartbeats 40000000 in
theorem ci_X11_init : CtI SX.2 yX11_init cX11_init 1 5 77 2051 11 [.null, .null, .null, .null, .null, .null, .null, .null, .null, .null, .null, .null, .null, .null, .null, .null, .int 0, .int 0] (fun u cA => wd SX.1 u.1 cA u.2) (fun u => u.2 = s0X) := by
  refine cti_of (by decide) rfl (by decide) ?_
  intro p l e s m args below meth c D cA A ls h0 C hin hZ hls hl0
  refine eg_eq (ws' := (h0, .inr (11, [.null, .null, .null, .null, .null, .null, .null, .null, .null, .null, .null, .null, .null, .null, .null, .null, .int 0, .int 0])) :: []) rfl ?_
  refine eg_aload C rfl hl0 dX11_init_0 ?_
  refine eg_obj C hls (List.mem_of_getElem? (i := 9) (by decide +kernel)) (List.mem_of_getElem? (i := 10) (by decide +kernel)) (List.mem_of_getElem? (i := 11) (by decide +kernel)) dX11_init_1 (by decide) (by decide) ?_
  refine eg_aload C rfl hl0 dX11_init_4 ?_
  refine eg_new (ci := 10) (ty0 := tyX10) (fs := [.int 0, .null, .int 0, .int 0, .int 0, .int 0, .int 0, .int 0, .int 0]) C rfl inlX10 tyX10_ok (List.mem_of_getElem? (i := 12) (by decide +kernel)) (List.mem_of_getElem? (i := 13) (by decide +kernel)) (List.mem_of_getElem? (i := 14) (by decide +kernel)) (by decide +kernel) (by decide) (by decide) dX11_init_5 (fun o0 => ?_)
  refine eg_dup C dX11_init_8 rfl ?_
  refine eg_callN C hZ hls ci_X10_init (List.mem_of_getElem? (i := 0) (by decide +kernel)) wi_X10_init (List.mem_of_getElem? (i := 63) (by decide +kernel)) rfl ⟨by decide, by decide⟩ (Nat.le_of_ble_eq_true rfl) ⟨by decide, by decide⟩ dX11_init_9 (fun u1 huu1 _ => ?_)
  subst huu1
  refine eg_eq (ws' := (h0, .inr (11, [.null, .null, .null, .null, .null, .null, .null, .null, .null, .null, .null, .null, .null, .null, .null, .null, .int 0, .int 0])) :: ([] ++ (blkX10 u1 cA))) rfl ?_
  refine eg_putF C hin fq_X11_12 (q0 := 0) rfl rfl rfl (Nat.le_of_ble_eq_true rfl) dX11_init_12 ?_
  refine eg_eq (ws' := (h0, .inr (11, [.ref (u1.1 0), .null, .null, .null, .null, .null, .null, .null, .null, .null, .null, .null, .null, .null, .null, .null, .int 0, .int 0])) :: ([] ++ (blkX10 u1 cA))) rfl ?_
  generalize hB1 : ([] ++ (blkX10 u1 cA)) = B1
  refine eg_aload C rfl hl0 dX11_init_15 ?_
  refine eg_new (ci := 0) (ty0 := tyX0) (fs := [.int 0, .int 0, .int 0, .null, .null, .null, .null, .null]) C rfl inlX0 tyX0_ok (List.mem_of_getElem? (i := 16) (by decide +kernel)) (List.mem_of_getElem? (i := 17) (by decide +kernel)) (List.mem_of_getElem? (i := 18) (by decide +kernel)) (by decide +kernel) (by decide) (by decide) dX11_init_16 (fun o2 => ?_)
  refine eg_dup C dX11_init_19 rfl ?_
  refine eg_callN C hZ hls ci_X0_init (List.mem_of_getElem? (i := 1) (by decide +kernel)) wi_X0_init (List.mem_of_getElem? (i := 67) (by decide +kernel)) rfl ⟨by decide, by decide⟩ (Nat.le_of_ble_eq_true rfl) ⟨by decide, by decide⟩ dX11_init_20 (fun u3 huu3 _ => ?_)
  subst huu3
  refine eg_eq (ws' := (h0, .inr (11, [.ref (u1.1 0), .null, .null, .null, .null, .null, .null, .null, .null, .null, .null, .null, .null, .null, .null, .null, .int 0, .int 0])) :: (B1 ++ (blkX0 u3 cA))) rfl ?_
  refine eg_putF C hin fq_X11_19 (q0 := 0) rfl rfl rfl (Nat.le_of_ble_eq_true rfl) dX11_init_23 ?_
  refine eg_eq (ws' := (h0, .inr (11, [.ref (u1.1 0), .ref (u3.1 0), .null, .null, .null, .null, .null, .null, .null, .null, .null, .null, .null, .null, .null, .null, .int 0, .int 0])) :: (B1 ++ (blkX0 u3 cA))) rfl ?_
  generalize hB2 : (B1 ++ (blkX0 u3 cA)) = B2
  refine eg_aload C rfl hl0 dX11_init_26 ?_
  refine eg_new (ci := 0) (ty0 := tyX0) (fs := [.int 0, .int 0, .int 0, .null, .null, .null, .null, .null]) C rfl inlX0 tyX0_ok (List.mem_of_getElem? (i := 16) (by decide +kernel)) (List.mem_of_getElem? (i := 17) (by decide +kernel)) (List.mem_of_getElem? (i := 18) (by decide +kernel)) (by decide +kernel) (by decide) (by decide) dX11_init_27 (fun o4 => ?_)
  refine eg_dup C dX11_init_30 rfl ?_
  refine eg_callN C hZ hls ci_X0_init (List.mem_of_getElem? (i := 1) (by decide +kernel)) wi_X0_init (List.mem_of_getElem? (i := 67) (by decide +kernel)) rfl ⟨by decide, by decide⟩ (Nat.le_of_ble_eq_true rfl) ⟨by decide, by decide⟩ dX11_init_31 (fun u5 huu5 _ => ?_)
  subst huu5
  refine eg_eq (ws' := (h0, .inr (11, [.ref (u1.1 0), .ref (u3.1 0), .null, .null, .null, .null, .null, .null, .null, .null, .null, .null, .null, .null, .null, .null, .int 0, .int 0])) :: (B2 ++ (blkX0 u5 cA))) rfl ?_
  refine eg_putF C hin fq_X11_23 (q0 := 0) rfl rfl rfl (Nat.le_of_ble_eq_true rfl) dX11_init_34 ?_
  refine eg_eq (ws' := (h0, .inr (11, [.ref (u1.1 0), .ref (u3.1 0), .ref (u5.1 0), .null, .null, .null, .null, .null, .null, .null, .null, .null, .null, .null, .null, .null, .int 0, .int 0])) :: (B2 ++ (blkX0 u5 cA))) rfl ?_
  generalize hB3 : (B2 ++ (blkX0 u5 cA)) = B3
  refine eg_aload C rfl hl0 dX11_init_37 ?_
  refine eg_new (ci := 4) (ty0 := tyX4) (fs := [.null, .null, .int 0, .int 0, .int 0, .null]) C rfl inlX4 tyX4_ok (List.mem_of_getElem? (i := 21) (by decide +kernel)) (List.mem_of_getElem? (i := 22) (by decide +kernel)) (List.mem_of_getElem? (i := 23) (by decide +kernel)) (by decide +kernel) (by decide) (by decide) dX11_init_38 (fun o6 => ?_)
  refine eg_dup C dX11_init_41 rfl ?_
  refine eg_callN C hZ hls ci_X4_init (List.mem_of_getElem? (i := 2) (by decide +kernel)) wi_X4_init (List.mem_of_getElem? (i := 78) (by decide +kernel)) rfl ⟨by decide, by decide⟩ (Nat.le_of_ble_eq_true rfl) ⟨by decide, by decide⟩ dX11_init_42 (fun u7 huu7 _ => ?_)
  subst huu7
  refine eg_eq (ws' := (h0, .inr (11, [.ref (u1.1 0), .ref (u3.1 0), .ref (u5.1 0), .null, .null, .null, .null, .null, .null, .null, .null, .null, .null, .null, .null, .null, .int 0, .int 0])) :: (B3 ++ (blkX4 u7 cA))) rfl ?_
  refine eg_putF C hin fq_X11_29 (q0 := 0) rfl rfl rfl (Nat.le_of_ble_eq_true rfl) dX11_init_45 ?_
  refine eg_eq (ws' := (h0, .inr (11, [.ref (u1.1 0), .ref (u3.1 0), .ref (u5.1 0), .ref (u7.1 0), .null, .null, .null, .null, .null, .null, .null, .null, .null, .null, .null, .null, .int 0, .int 0])) :: (B3 ++ (blkX4 u7 cA))) rfl ?_
  generalize hB4 : (B3 ++ (blkX4 u7 cA)) = B4
  refine eg_aload C rfl hl0 dX11_init_48 ?_
  refine eg_iconst C dX11_init_49 (v := 2) rfl ?_
  refine eg_newq (t := 2) C (List.mem_of_getElem? (i := 21) (by decide +kernel)) hZ.2.1 rfl (by decide) (N' := 2) rfl (by decide) (by decide) (by decide) dX11_init_50 (fun q8 => ?_)
  refine eg_front ?_
  refine eg_eq (ws' := (q8, .inl (cA 2, 2, .inr (.inr (.inr (.inr (fun _ => none)))))) :: (h0, .inr (11, [.ref (u1.1 0), .ref (u3.1 0), .ref (u5.1 0), .ref (u7.1 0), .null, .null, .null, .null, .null, .null, .null, .null, .null, .null, .null, .null, .int 0, .int 0])) :: B4) rfl ?_
  refine eg_dup C dX11_init_53 rfl ?_
  refine eg_iconst C dX11_init_54 (v := 0) rfl ?_
  refine eg_new (ci := 4) (ty0 := tyX4) (fs := [.null, .null, .int 0, .int 0, .int 0, .null]) C rfl inlX4 tyX4_ok (List.mem_of_getElem? (i := 21) (by decide +kernel)) (List.mem_of_getElem? (i := 22) (by decide +kernel)) (List.mem_of_getElem? (i := 23) (by decide +kernel)) (by decide +kernel) (by decide) (by decide) dX11_init_55 (fun o9 => ?_)
  refine eg_dup C dX11_init_58 rfl ?_
  refine eg_callN C hZ hls ci_X4_init (List.mem_of_getElem? (i := 2) (by decide +kernel)) wi_X4_init (List.mem_of_getElem? (i := 78) (by decide +kernel)) rfl ⟨by decide, by decide⟩ (Nat.le_of_ble_eq_true rfl) ⟨by decide, by decide⟩ dX11_init_59 (fun u10 huu10 _ => ?_)
  subst huu10
  refine eg_eq (ws' := (q8, .inl (cA 2, 2, .inr (.inr (.inr (.inr (fun _ => none)))))) :: (h0, .inr (11, [.ref (u1.1 0), .ref (u3.1 0), .ref (u5.1 0), .ref (u7.1 0), .null, .null, .null, .null, .null, .null, .null, .null, .null, .null, .null, .null, .int 0, .int 0])) :: (B4 ++ (blkX4 u10 cA))) rfl ?_
  refine eg_ast (q0 := 0) (t := 2) (ci := 4) (r := (RX4, TX4, 6)) C rfl rfl (List.mem_cons_of_mem _ (List.mem_cons_of_mem _ (List.mem_append_right _ List.mem_cons_self))) rfl (pk_in 0 2 (by omega)) dX11_init_62 ?_
  refine eg_eq (ws' := (q8, .inl (cA 2, 2, .inr (.inr (.inr (.inr (va_up (fun _ => none) 0 (some (u10.1 0)))))))) :: (h0, .inr (11, [.ref (u1.1 0), .ref (u3.1 0), .ref (u5.1 0), .ref (u7.1 0), .null, .null, .null, .null, .null, .null, .null, .null, .null, .null, .null, .null, .int 0, .int 0])) :: (B4 ++ (blkX4 u10 cA))) rfl ?_
  generalize hB5 : (B4 ++ (blkX4 u10 cA)) = B5
  refine eg_dup C dX11_init_63 rfl ?_
  refine eg_iconst C dX11_init_64 (v := 1) rfl ?_
  refine eg_new (ci := 4) (ty0 := tyX4) (fs := [.null, .null, .int 0, .int 0, .int 0, .null]) C rfl inlX4 tyX4_ok (List.mem_of_getElem? (i := 21) (by decide +kernel)) (List.mem_of_getElem? (i := 22) (by decide +kernel)) (List.mem_of_getElem? (i := 23) (by decide +kernel)) (by decide +kernel) (by decide) (by decide) dX11_init_65 (fun o11 => ?_)
  refine eg_dup C dX11_init_68 rfl ?_
  refine eg_callN C hZ hls ci_X4_init (List.mem_of_getElem? (i := 2) (by decide +kernel)) wi_X4_init (List.mem_of_getElem? (i := 78) (by decide +kernel)) rfl ⟨by decide, by decide⟩ (Nat.le_of_ble_eq_true rfl) ⟨by decide, by decide⟩ dX11_init_69 (fun u12 huu12 _ => ?_)
  subst huu12
  refine eg_eq (ws' := (q8, .inl (cA 2, 2, .inr (.inr (.inr (.inr (va_up (fun _ => none) 0 (some (u10.1 0)))))))) :: (h0, .inr (11, [.ref (u1.1 0), .ref (u3.1 0), .ref (u5.1 0), .ref (u7.1 0), .null, .null, .null, .null, .null, .null, .null, .null, .null, .null, .null, .null, .int 0, .int 0])) :: (B5 ++ (blkX4 u12 cA))) rfl ?_
  refine eg_ast (q0 := 0) (t := 2) (ci := 4) (r := (RX4, TX4, 6)) C rfl rfl (List.mem_cons_of_mem _ (List.mem_cons_of_mem _ (List.mem_append_right _ List.mem_cons_self))) rfl (pk_in 1 2 (by omega)) dX11_init_72 ?_
  refine eg_eq (ws' := (q8, .inl (cA 2, 2, .inr (.inr (.inr (.inr (va_up (va_up (fun _ => none) 0 (some (u10.1 0))) 1 (some (u12.1 0)))))))) :: (h0, .inr (11, [.ref (u1.1 0), .ref (u3.1 0), .ref (u5.1 0), .ref (u7.1 0), .null, .null, .null, .null, .null, .null, .null, .null, .null, .null, .null, .null, .int 0, .int 0])) :: (B5 ++ (blkX4 u12 cA))) rfl ?_
  generalize hB6 : (B5 ++ (blkX4 u12 cA)) = B6
  refine eg_putF C hin fq_X11_33 (q0 := 1) rfl rfl rfl (Nat.le_of_ble_eq_true rfl) dX11_init_73 ?_
  refine eg_eq (ws' := (q8, .inl (cA 2, 2, .inr (.inr (.inr (.inr (va_up (va_up (fun _ => none) 0 (some (u10.1 0))) 1 (some (u12.1 0)))))))) :: (h0, .inr (11, [.ref (u1.1 0), .ref (u3.1 0), .ref (u5.1 0), .ref (u7.1 0), .ref q8, .null, .null, .null, .null, .null, .null, .null, .null, .null, .null, .null, .int 0, .int 0])) :: B6) rfl ?_
  refine eg_back ?_
  refine eg_eq (ws' := (h0, .inr (11, [.ref (u1.1 0), .ref (u3.1 0), .ref (u5.1 0), .ref (u7.1 0), .ref q8, .null, .null, .null, .null, .null, .null, .null, .null, .null, .null, .null, .int 0, .int 0])) :: (B6 ++ [(q8, .inl (cA 2, 2, .inr (.inr (.inr (.inr (va_up (va_up (fun _ => none) 0 (some (u10.1 0))) 1 (some (u12.1 0))))))))])) rfl ?_
  generalize hB7 : (B6 ++ [(q8, .inl (cA 2, 2, .inr (.inr (.inr (.inr (va_up (va_up (fun _ => none) 0 (some (u10.1 0))) 1 (some (u12.1 0))))))))]) = B7
  refine eg_aload C rfl hl0 dX11_init_76 ?_
  refine eg_iconst C dX11_init_77 (v := 2) rfl ?_
  refine eg_newa (t := 1) C (List.mem_of_getElem? (i := 26) (by decide +kernel)) rfl rfl rfl (by decide) (N' := 2) rfl (by decide) (by decide) (by decide) dX11_init_78 (fun q13 => ?_)
  refine eg_eq (ws' := (h0, .inr (11, [.ref (u1.1 0), .ref (u3.1 0), .ref (u5.1 0), .ref (u7.1 0), .ref q8, .null, .null, .null, .null, .null, .null, .null, .null, .null, .null, .null, .int 0, .int 0])) :: (B7 ++ [(q13, .inl (cA 1, 2, .inl (fun _ => 0)))])) rfl ?_
  refine eg_putF C hin fq_X11_37 (q0 := 0) rfl rfl rfl (Nat.le_of_ble_eq_true rfl) dX11_init_80 ?_
  refine eg_eq (ws' := (h0, .inr (11, [.ref (u1.1 0), .ref (u3.1 0), .ref (u5.1 0), .ref (u7.1 0), .ref q8, .ref q13, .null, .null, .null, .null, .null, .null, .null, .null, .null, .null, .int 0, .int 0])) :: (B7 ++ [(q13, .inl (cA 1, 2, .inl (fun _ => 0)))])) rfl ?_
  generalize hB8 : (B7 ++ [(q13, .inl (cA 1, 2, .inl (fun _ => 0)))]) = B8
  refine eg_aload C rfl hl0 dX11_init_83 ?_
  refine eg_new (ci := 5) (ty0 := tyX5) (fs := [.int 0, .null, .null, .null, .int 0, .int 0, .int 0]) C rfl inlX5 tyX5_ok (List.mem_of_getElem? (i := 28) (by decide +kernel)) (List.mem_of_getElem? (i := 29) (by decide +kernel)) (List.mem_of_getElem? (i := 30) (by decide +kernel)) (by decide +kernel) (by decide) (by decide) dX11_init_84 (fun o14 => ?_)
  refine eg_dup C dX11_init_87 rfl ?_
  refine eg_callN C hZ hls ci_X5_init (List.mem_of_getElem? (i := 3) (by decide +kernel)) wi_X5_init (List.mem_of_getElem? (i := 84) (by decide +kernel)) rfl ⟨by decide, by decide⟩ (Nat.le_of_ble_eq_true rfl) ⟨by decide, by decide⟩ dX11_init_88 (fun u15 huu15 _ => ?_)
  subst huu15
  refine eg_eq (ws' := (h0, .inr (11, [.ref (u1.1 0), .ref (u3.1 0), .ref (u5.1 0), .ref (u7.1 0), .ref q8, .ref q13, .null, .null, .null, .null, .null, .null, .null, .null, .null, .null, .int 0, .int 0])) :: (B8 ++ (blkX5 u15 cA))) rfl ?_
  refine eg_putF C hin fq_X11_44 (q0 := 0) rfl rfl rfl (Nat.le_of_ble_eq_true rfl) dX11_init_91 ?_
  refine eg_eq (ws' := (h0, .inr (11, [.ref (u1.1 0), .ref (u3.1 0), .ref (u5.1 0), .ref (u7.1 0), .ref q8, .ref q13, .ref (u15.1 0), .null, .null, .null, .null, .null, .null, .null, .null, .null, .int 0, .int 0])) :: (B8 ++ (blkX5 u15 cA))) rfl ?_
  generalize hB9 : (B8 ++ (blkX5 u15 cA)) = B9
  refine eg_aload C rfl hl0 dX11_init_94 ?_
  refine eg_new (ci := 3) (ty0 := tyX3) (fs := [.int 0, .null, .null]) C rfl inlX3 tyX3_ok (List.mem_of_getElem? (i := 32) (by decide +kernel)) (List.mem_of_getElem? (i := 33) (by decide +kernel)) (List.mem_of_getElem? (i := 34) (by decide +kernel)) (by decide +kernel) (by decide) (by decide) dX11_init_95 (fun o16 => ?_)
  refine eg_dup C dX11_init_98 rfl ?_
  refine eg_callN C hZ hls ci_X3_init (List.mem_of_getElem? (i := 4) (by decide +kernel)) wi_X3_init (List.mem_of_getElem? (i := 91) (by decide +kernel)) rfl ⟨by decide, by decide⟩ (Nat.le_of_ble_eq_true rfl) ⟨by decide, by decide⟩ dX11_init_99 (fun u17 huu17 _ => ?_)
  subst huu17
  refine eg_eq (ws' := (h0, .inr (11, [.ref (u1.1 0), .ref (u3.1 0), .ref (u5.1 0), .ref (u7.1 0), .ref q8, .ref q13, .ref (u15.1 0), .null, .null, .null, .null, .null, .null, .null, .null, .null, .int 0, .int 0])) :: (B9 ++ (blkX3 u17 cA))) rfl ?_
  refine eg_putF C hin fq_X11_51 (q0 := 0) rfl rfl rfl (Nat.le_of_ble_eq_true rfl) dX11_init_102 ?_
  refine eg_eq (ws' := (h0, .inr (11, [.ref (u1.1 0), .ref (u3.1 0), .ref (u5.1 0), .ref (u7.1 0), .ref q8, .ref q13, .ref (u15.1 0), .ref (u17.1 0), .null, .null, .null, .null, .null, .null, .null, .null, .int 0, .int 0])) :: (B9 ++ (blkX3 u17 cA))) rfl ?_
  generalize hB10 : (B9 ++ (blkX3 u17 cA)) = B10
  refine eg_aload C rfl hl0 dX11_init_105 ?_
  refine eg_bipush C dX11_init_106 (v := 6) rfl ?_
  refine eg_newq (t := 3) C (List.mem_of_getElem? (i := 36) (by decide +kernel)) hZ.2.2.1 rfl (by decide) (N' := 6) rfl (by decide) (by decide) (by decide) dX11_init_108 (fun q18 => ?_)
  refine eg_front ?_
  refine eg_eq (ws' := (q18, .inl (cA 3, 6, .inr (.inr (.inr (.inr (fun _ => none)))))) :: (h0, .inr (11, [.ref (u1.1 0), .ref (u3.1 0), .ref (u5.1 0), .ref (u7.1 0), .ref q8, .ref q13, .ref (u15.1 0), .ref (u17.1 0), .null, .null, .null, .null, .null, .null, .null, .null, .int 0, .int 0])) :: B10) rfl ?_
  refine eg_dup C dX11_init_111 rfl ?_
  refine eg_iconst C dX11_init_112 (v := 0) rfl ?_
  refine eg_new (ci := 2) (ty0 := tyX2) (fs := [.long 0]) C rfl inlX2 tyX2_ok (List.mem_of_getElem? (i := 36) (by decide +kernel)) (List.mem_of_getElem? (i := 37) (by decide +kernel)) (List.mem_of_getElem? (i := 38) (by decide +kernel)) (by decide +kernel) (by decide) (by decide) dX11_init_113 (fun o19 => ?_)
  refine eg_dup C dX11_init_116 rfl ?_
  refine eg_callN C hZ hls (ci_X2_init 2) (List.mem_of_getElem? (i := 5) (by decide +kernel)) wi_X2_init (List.mem_of_getElem? (i := 96) (by decide +kernel)) rfl ⟨by decide, by decide⟩ (Nat.le_of_ble_eq_true rfl) ⟨by decide, by decide⟩ dX11_init_117 (fun u20 huu20 _ => ?_)
  subst huu20
  refine eg_eq (ws' := (q18, .inl (cA 3, 6, .inr (.inr (.inr (.inr (fun _ => none)))))) :: (h0, .inr (11, [.ref (u1.1 0), .ref (u3.1 0), .ref (u5.1 0), .ref (u7.1 0), .ref q8, .ref q13, .ref (u15.1 0), .ref (u17.1 0), .null, .null, .null, .null, .null, .null, .null, .null, .int 0, .int 0])) :: (B10 ++ (blkL 2 u20 cA))) rfl ?_
  refine eg_ast (q0 := 0) (t := 3) (ci := 2) (r := (RX2, TX2, 1)) C rfl rfl (List.mem_cons_of_mem _ (List.mem_cons_of_mem _ (List.mem_append_right _ List.mem_cons_self))) rfl (pk_in 0 6 (by omega)) dX11_init_120 ?_
  refine eg_eq (ws' := (q18, .inl (cA 3, 6, .inr (.inr (.inr (.inr (va_up (fun _ => none) 0 (some (u20.1 0)))))))) :: (h0, .inr (11, [.ref (u1.1 0), .ref (u3.1 0), .ref (u5.1 0), .ref (u7.1 0), .ref q8, .ref q13, .ref (u15.1 0), .ref (u17.1 0), .null, .null, .null, .null, .null, .null, .null, .null, .int 0, .int 0])) :: (B10 ++ (blkL 2 u20 cA))) rfl ?_
  generalize hB11 : (B10 ++ (blkL 2 u20 cA)) = B11
  refine eg_dup C dX11_init_121 rfl ?_
  refine eg_iconst C dX11_init_122 (v := 1) rfl ?_
  refine eg_new (ci := 9) (ty0 := tyX9) (fs := [.long 0]) C rfl inlX9 tyX9_ok (List.mem_of_getElem? (i := 39) (by decide +kernel)) (List.mem_of_getElem? (i := 40) (by decide +kernel)) (List.mem_of_getElem? (i := 41) (by decide +kernel)) (by decide +kernel) (by decide) (by decide) dX11_init_123 (fun o21 => ?_)
  refine eg_dup C dX11_init_126 rfl ?_
  refine eg_callN C hZ hls (ci_X9_init 9) (List.mem_of_getElem? (i := 6) (by decide +kernel)) wi_X9_init (List.mem_of_getElem? (i := 99) (by decide +kernel)) rfl ⟨by decide, by decide⟩ (Nat.le_of_ble_eq_true rfl) ⟨by decide, by decide⟩ dX11_init_127 (fun u22 huu22 _ => ?_)
  subst huu22
  refine eg_eq (ws' := (q18, .inl (cA 3, 6, .inr (.inr (.inr (.inr (va_up (fun _ => none) 0 (some (u20.1 0)))))))) :: (h0, .inr (11, [.ref (u1.1 0), .ref (u3.1 0), .ref (u5.1 0), .ref (u7.1 0), .ref q8, .ref q13, .ref (u15.1 0), .ref (u17.1 0), .null, .null, .null, .null, .null, .null, .null, .null, .int 0, .int 0])) :: (B11 ++ (blkL 9 u22 cA))) rfl ?_
  refine eg_astO (q0 := 0) (t := 3) (ci := 9) (r := (RX9, TX9, 1)) C rfl rfl (hZ.2.2.2.2 _ (List.mem_of_getElem? (i := 0) rfl)) (List.mem_cons_of_mem _ (List.mem_cons_of_mem _ (List.mem_append_right _ List.mem_cons_self))) rfl (pk_in 1 6 (by omega)) dX11_init_130 ?_
  refine eg_eq (ws' := (q18, .inl (cA 3, 6, .inr (.inr (.inr (.inr (va_up (va_up (fun _ => none) 0 (some (u20.1 0))) 1 (some (u22.1 0)))))))) :: (h0, .inr (11, [.ref (u1.1 0), .ref (u3.1 0), .ref (u5.1 0), .ref (u7.1 0), .ref q8, .ref q13, .ref (u15.1 0), .ref (u17.1 0), .null, .null, .null, .null, .null, .null, .null, .null, .int 0, .int 0])) :: (B11 ++ (blkL 9 u22 cA))) rfl ?_
  generalize hB12 : (B11 ++ (blkL 9 u22 cA)) = B12
  refine eg_dup C dX11_init_131 rfl ?_
  refine eg_iconst C dX11_init_132 (v := 2) rfl ?_
  refine eg_new (ci := 6) (ty0 := tyX6) (fs := [.long 0]) C rfl inlX6 tyX6_ok (List.mem_of_getElem? (i := 42) (by decide +kernel)) (List.mem_of_getElem? (i := 43) (by decide +kernel)) (List.mem_of_getElem? (i := 44) (by decide +kernel)) (by decide +kernel) (by decide) (by decide) dX11_init_133 (fun o23 => ?_)
  refine eg_dup C dX11_init_136 rfl ?_
  refine eg_callN C hZ hls (ci_X6_init 6) (List.mem_of_getElem? (i := 7) (by decide +kernel)) wi_X6_init (List.mem_of_getElem? (i := 101) (by decide +kernel)) rfl ⟨by decide, by decide⟩ (Nat.le_of_ble_eq_true rfl) ⟨by decide, by decide⟩ dX11_init_137 (fun u24 huu24 _ => ?_)
  subst huu24
  refine eg_eq (ws' := (q18, .inl (cA 3, 6, .inr (.inr (.inr (.inr (va_up (va_up (fun _ => none) 0 (some (u20.1 0))) 1 (some (u22.1 0)))))))) :: (h0, .inr (11, [.ref (u1.1 0), .ref (u3.1 0), .ref (u5.1 0), .ref (u7.1 0), .ref q8, .ref q13, .ref (u15.1 0), .ref (u17.1 0), .null, .null, .null, .null, .null, .null, .null, .null, .int 0, .int 0])) :: (B12 ++ (blkL 6 u24 cA))) rfl ?_
  refine eg_astO (q0 := 0) (t := 3) (ci := 6) (r := (RX6, TX6, 1)) C rfl rfl (hZ.2.2.2.2 _ (List.mem_of_getElem? (i := 1) rfl)) (List.mem_cons_of_mem _ (List.mem_cons_of_mem _ (List.mem_append_right _ List.mem_cons_self))) rfl (pk_in 2 6 (by omega)) dX11_init_140 ?_
  refine eg_eq (ws' := (q18, .inl (cA 3, 6, .inr (.inr (.inr (.inr (va_up (va_up (va_up (fun _ => none) 0 (some (u20.1 0))) 1 (some (u22.1 0))) 2 (some (u24.1 0)))))))) :: (h0, .inr (11, [.ref (u1.1 0), .ref (u3.1 0), .ref (u5.1 0), .ref (u7.1 0), .ref q8, .ref q13, .ref (u15.1 0), .ref (u17.1 0), .null, .null, .null, .null, .null, .null, .null, .null, .int 0, .int 0])) :: (B12 ++ (blkL 6 u24 cA))) rfl ?_
  generalize hB13 : (B12 ++ (blkL 6 u24 cA)) = B13
  refine eg_dup C dX11_init_141 rfl ?_
  refine eg_iconst C dX11_init_142 (v := 3) rfl ?_
  refine eg_new (ci := 7) (ty0 := tyX7) (fs := [.long 0]) C rfl inlX7 tyX7_ok (List.mem_of_getElem? (i := 45) (by decide +kernel)) (List.mem_of_getElem? (i := 46) (by decide +kernel)) (List.mem_of_getElem? (i := 47) (by decide +kernel)) (by decide +kernel) (by decide) (by decide) dX11_init_143 (fun o25 => ?_)
  refine eg_dup C dX11_init_146 rfl ?_
  refine eg_callN C hZ hls (ci_X7_init 7) (List.mem_of_getElem? (i := 8) (by decide +kernel)) wi_X7_init (List.mem_of_getElem? (i := 103) (by decide +kernel)) rfl ⟨by decide, by decide⟩ (Nat.le_of_ble_eq_true rfl) ⟨by decide, by decide⟩ dX11_init_147 (fun u26 huu26 _ => ?_)
  subst huu26
  refine eg_eq (ws' := (q18, .inl (cA 3, 6, .inr (.inr (.inr (.inr (va_up (va_up (va_up (fun _ => none) 0 (some (u20.1 0))) 1 (some (u22.1 0))) 2 (some (u24.1 0)))))))) :: (h0, .inr (11, [.ref (u1.1 0), .ref (u3.1 0), .ref (u5.1 0), .ref (u7.1 0), .ref q8, .ref q13, .ref (u15.1 0), .ref (u17.1 0), .null, .null, .null, .null, .null, .null, .null, .null, .int 0, .int 0])) :: (B13 ++ (blkL 7 u26 cA))) rfl ?_
  refine eg_astO (q0 := 0) (t := 3) (ci := 7) (r := (RX7, TX7, 1)) C rfl rfl (hZ.2.2.2.2 _ (List.mem_of_getElem? (i := 2) rfl)) (List.mem_cons_of_mem _ (List.mem_cons_of_mem _ (List.mem_append_right _ List.mem_cons_self))) rfl (pk_in 3 6 (by omega)) dX11_init_150 ?_
  refine eg_eq (ws' := (q18, .inl (cA 3, 6, .inr (.inr (.inr (.inr (va_up (va_up (va_up (va_up (fun _ => none) 0 (some (u20.1 0))) 1 (some (u22.1 0))) 2 (some (u24.1 0))) 3 (some (u26.1 0)))))))) :: (h0, .inr (11, [.ref (u1.1 0), .ref (u3.1 0), .ref (u5.1 0), .ref (u7.1 0), .ref q8, .ref q13, .ref (u15.1 0), .ref (u17.1 0), .null, .null, .null, .null, .null, .null, .null, .null, .int 0, .int 0])) :: (B13 ++ (blkL 7 u26 cA))) rfl ?_
  generalize hB14 : (B13 ++ (blkL 7 u26 cA)) = B14
  refine eg_dup C dX11_init_151 rfl ?_
  refine eg_iconst C dX11_init_152 (v := 4) rfl ?_
  refine eg_new (ci := 8) (ty0 := tyX8) (fs := [.long 0]) C rfl inlX8 tyX8_ok (List.mem_of_getElem? (i := 48) (by decide +kernel)) (List.mem_of_getElem? (i := 49) (by decide +kernel)) (List.mem_of_getElem? (i := 50) (by decide +kernel)) (by decide +kernel) (by decide) (by decide) dX11_init_153 (fun o27 => ?_)
  refine eg_dup C dX11_init_156 rfl ?_
  refine eg_callN C hZ hls (ci_X8_init 8) (List.mem_of_getElem? (i := 9) (by decide +kernel)) wi_X8_init (List.mem_of_getElem? (i := 105) (by decide +kernel)) rfl ⟨by decide, by decide⟩ (Nat.le_of_ble_eq_true rfl) ⟨by decide, by decide⟩ dX11_init_157 (fun u28 huu28 _ => ?_)
  subst huu28
  refine eg_eq (ws' := (q18, .inl (cA 3, 6, .inr (.inr (.inr (.inr (va_up (va_up (va_up (va_up (fun _ => none) 0 (some (u20.1 0))) 1 (some (u22.1 0))) 2 (some (u24.1 0))) 3 (some (u26.1 0)))))))) :: (h0, .inr (11, [.ref (u1.1 0), .ref (u3.1 0), .ref (u5.1 0), .ref (u7.1 0), .ref q8, .ref q13, .ref (u15.1 0), .ref (u17.1 0), .null, .null, .null, .null, .null, .null, .null, .null, .int 0, .int 0])) :: (B14 ++ (blkL 8 u28 cA))) rfl ?_
  refine eg_astO (q0 := 0) (t := 3) (ci := 8) (r := (RX8, TX8, 1)) C rfl rfl (hZ.2.2.2.2 _ (List.mem_of_getElem? (i := 3) rfl)) (List.mem_cons_of_mem _ (List.mem_cons_of_mem _ (List.mem_append_right _ List.mem_cons_self))) rfl (pk_in 4 6 (by omega)) dX11_init_160 ?_
  refine eg_eq (ws' := (q18, .inl (cA 3, 6, .inr (.inr (.inr (.inr (va_up (va_up (va_up (va_up (va_up (fun _ => none) 0 (some (u20.1 0))) 1 (some (u22.1 0))) 2 (some (u24.1 0))) 3 (some (u26.1 0))) 4 (some (u28.1 0)))))))) :: (h0, .inr (11, [.ref (u1.1 0), .ref (u3.1 0), .ref (u5.1 0), .ref (u7.1 0), .ref q8, .ref q13, .ref (u15.1 0), .ref (u17.1 0), .null, .null, .null, .null, .null, .null, .null, .null, .int 0, .int 0])) :: (B14 ++ (blkL 8 u28 cA))) rfl ?_
  generalize hB15 : (B14 ++ (blkL 8 u28 cA)) = B15
  refine eg_dup C dX11_init_161 rfl ?_
  refine eg_iconst C dX11_init_162 (v := 5) rfl ?_
  refine eg_new (ci := 1) (ty0 := tyX1) (fs := [.long 0]) C rfl inlX1 tyX1_ok (List.mem_of_getElem? (i := 51) (by decide +kernel)) (List.mem_of_getElem? (i := 52) (by decide +kernel)) (List.mem_of_getElem? (i := 53) (by decide +kernel)) (by decide +kernel) (by decide) (by decide) dX11_init_163 (fun o29 => ?_)
  refine eg_dup C dX11_init_166 rfl ?_
  refine eg_callN C hZ hls (ci_X1_init 1) (List.mem_of_getElem? (i := 10) (by decide +kernel)) wi_X1_init (List.mem_of_getElem? (i := 107) (by decide +kernel)) rfl ⟨by decide, by decide⟩ (Nat.le_of_ble_eq_true rfl) ⟨by decide, by decide⟩ dX11_init_167 (fun u30 huu30 _ => ?_)
  subst huu30
  refine eg_eq (ws' := (q18, .inl (cA 3, 6, .inr (.inr (.inr (.inr (va_up (va_up (va_up (va_up (va_up (fun _ => none) 0 (some (u20.1 0))) 1 (some (u22.1 0))) 2 (some (u24.1 0))) 3 (some (u26.1 0))) 4 (some (u28.1 0)))))))) :: (h0, .inr (11, [.ref (u1.1 0), .ref (u3.1 0), .ref (u5.1 0), .ref (u7.1 0), .ref q8, .ref q13, .ref (u15.1 0), .ref (u17.1 0), .null, .null, .null, .null, .null, .null, .null, .null, .int 0, .int 0])) :: (B15 ++ (blkL 1 u30 cA))) rfl ?_
  refine eg_astO (q0 := 0) (t := 3) (ci := 1) (r := (RX1, TX1, 1)) C rfl rfl (hZ.2.2.2.2 _ (List.mem_of_getElem? (i := 4) rfl)) (List.mem_cons_of_mem _ (List.mem_cons_of_mem _ (List.mem_append_right _ List.mem_cons_self))) rfl (pk_in 5 6 (by omega)) dX11_init_170 ?_
  refine eg_eq (ws' := (q18, .inl (cA 3, 6, .inr (.inr (.inr (.inr (va_up (va_up (va_up (va_up (va_up (va_up (fun _ => none) 0 (some (u20.1 0))) 1 (some (u22.1 0))) 2 (some (u24.1 0))) 3 (some (u26.1 0))) 4 (some (u28.1 0))) 5 (some (u30.1 0)))))))) :: (h0, .inr (11, [.ref (u1.1 0), .ref (u3.1 0), .ref (u5.1 0), .ref (u7.1 0), .ref q8, .ref q13, .ref (u15.1 0), .ref (u17.1 0), .null, .null, .null, .null, .null, .null, .null, .null, .int 0, .int 0])) :: (B15 ++ (blkL 1 u30 cA))) rfl ?_
  generalize hB16 : (B15 ++ (blkL 1 u30 cA)) = B16
  refine eg_putF C hin fq_X11_73 (q0 := 1) rfl rfl rfl (Nat.le_of_ble_eq_true rfl) dX11_init_171 ?_
  refine eg_eq (ws' := (q18, .inl (cA 3, 6, .inr (.inr (.inr (.inr (va_up (va_up (va_up (va_up (va_up (va_up (fun _ => none) 0 (some (u20.1 0))) 1 (some (u22.1 0))) 2 (some (u24.1 0))) 3 (some (u26.1 0))) 4 (some (u28.1 0))) 5 (some (u30.1 0)))))))) :: (h0, .inr (11, [.ref (u1.1 0), .ref (u3.1 0), .ref (u5.1 0), .ref (u7.1 0), .ref q8, .ref q13, .ref (u15.1 0), .ref (u17.1 0), .ref q18, .null, .null, .null, .null, .null, .null, .null, .int 0, .int 0])) :: B16) rfl ?_
  refine eg_back ?_
  refine eg_eq (ws' := (h0, .inr (11, [.ref (u1.1 0), .ref (u3.1 0), .ref (u5.1 0), .ref (u7.1 0), .ref q8, .ref q13, .ref (u15.1 0), .ref (u17.1 0), .ref q18, .null, .null, .null, .null, .null, .null, .null, .int 0, .int 0])) :: (B16 ++ [(q18, .inl (cA 3, 6, .inr (.inr (.inr (.inr (va_up (va_up (va_up (va_up (va_up (va_up (fun _ => none) 0 (some (u20.1 0))) 1 (some (u22.1 0))) 2 (some (u24.1 0))) 3 (some (u26.1 0))) 4 (some (u28.1 0))) 5 (some (u30.1 0))))))))])) rfl ?_
  generalize hB17 : (B16 ++ [(q18, .inl (cA 3, 6, .inr (.inr (.inr (.inr (va_up (va_up (va_up (va_up (va_up (va_up (fun _ => none) 0 (some (u20.1 0))) 1 (some (u22.1 0))) 2 (some (u24.1 0))) 3 (some (u26.1 0))) 4 (some (u28.1 0))) 5 (some (u30.1 0))))))))]) = B17
  refine eg_aload C rfl hl0 dX11_init_174 ?_
  refine eg_bipush C dX11_init_175 (v := 6) rfl ?_
  refine eg_newa (t := 0) C (List.mem_of_getElem? (i := 55) (by decide +kernel)) rfl rfl rfl (by decide) (N' := 6) rfl (by decide) (by decide) (by decide) dX11_init_177 (fun q31 => ?_)
  refine eg_eq (ws' := (h0, .inr (11, [.ref (u1.1 0), .ref (u3.1 0), .ref (u5.1 0), .ref (u7.1 0), .ref q8, .ref q13, .ref (u15.1 0), .ref (u17.1 0), .ref q18, .null, .null, .null, .null, .null, .null, .null, .int 0, .int 0])) :: (B17 ++ [(q31, .inl (cA 0, 6, .inl (fun _ => 0)))])) rfl ?_
  refine eg_putF C hin fq_X11_77 (q0 := 0) rfl rfl rfl (Nat.le_of_ble_eq_true rfl) dX11_init_179 ?_
  refine eg_eq (ws' := (h0, .inr (11, [.ref (u1.1 0), .ref (u3.1 0), .ref (u5.1 0), .ref (u7.1 0), .ref q8, .ref q13, .ref (u15.1 0), .ref (u17.1 0), .ref q18, .ref q31, .null, .null, .null, .null, .null, .null, .int 0, .int 0])) :: (B17 ++ [(q31, .inl (cA 0, 6, .inl (fun _ => 0)))])) rfl ?_
  generalize hB18 : (B17 ++ [(q31, .inl (cA 0, 6, .inl (fun _ => 0)))]) = B18
  refine eg_aload C rfl hl0 dX11_init_182 ?_
  refine eg_bipush C dX11_init_183 (v := 6) rfl ?_
  refine eg_newa (t := 0) C (List.mem_of_getElem? (i := 55) (by decide +kernel)) rfl rfl rfl (by decide) (N' := 6) rfl (by decide) (by decide) (by decide) dX11_init_185 (fun q32 => ?_)
  refine eg_eq (ws' := (h0, .inr (11, [.ref (u1.1 0), .ref (u3.1 0), .ref (u5.1 0), .ref (u7.1 0), .ref q8, .ref q13, .ref (u15.1 0), .ref (u17.1 0), .ref q18, .ref q31, .null, .null, .null, .null, .null, .null, .int 0, .int 0])) :: (B18 ++ [(q32, .inl (cA 0, 6, .inl (fun _ => 0)))])) rfl ?_
  refine eg_putF C hin fq_X11_81 (q0 := 0) rfl rfl rfl (Nat.le_of_ble_eq_true rfl) dX11_init_187 ?_
  refine eg_eq (ws' := (h0, .inr (11, [.ref (u1.1 0), .ref (u3.1 0), .ref (u5.1 0), .ref (u7.1 0), .ref q8, .ref q13, .ref (u15.1 0), .ref (u17.1 0), .ref q18, .ref q31, .ref q32, .null, .null, .null, .null, .null, .int 0, .int 0])) :: (B18 ++ [(q32, .inl (cA 0, 6, .inl (fun _ => 0)))])) rfl ?_
  generalize hB19 : (B18 ++ [(q32, .inl (cA 0, 6, .inl (fun _ => 0)))]) = B19
  refine eg_aload C rfl hl0 dX11_init_190 ?_
  refine eg_bipush C dX11_init_191 (v := 6) rfl ?_
  refine eg_newa (t := 0) C (List.mem_of_getElem? (i := 55) (by decide +kernel)) rfl rfl rfl (by decide) (N' := 6) rfl (by decide) (by decide) (by decide) dX11_init_193 (fun q33 => ?_)
  refine eg_eq (ws' := (h0, .inr (11, [.ref (u1.1 0), .ref (u3.1 0), .ref (u5.1 0), .ref (u7.1 0), .ref q8, .ref q13, .ref (u15.1 0), .ref (u17.1 0), .ref q18, .ref q31, .ref q32, .null, .null, .null, .null, .null, .int 0, .int 0])) :: (B19 ++ [(q33, .inl (cA 0, 6, .inl (fun _ => 0)))])) rfl ?_
  refine eg_putF C hin fq_X11_84 (q0 := 0) rfl rfl rfl (Nat.le_of_ble_eq_true rfl) dX11_init_195 ?_
  refine eg_eq (ws' := (h0, .inr (11, [.ref (u1.1 0), .ref (u3.1 0), .ref (u5.1 0), .ref (u7.1 0), .ref q8, .ref q13, .ref (u15.1 0), .ref (u17.1 0), .ref q18, .ref q31, .ref q32, .ref q33, .null, .null, .null, .null, .int 0, .int 0])) :: (B19 ++ [(q33, .inl (cA 0, 6, .inl (fun _ => 0)))])) rfl ?_
  generalize hB20 : (B19 ++ [(q33, .inl (cA 0, 6, .inl (fun _ => 0)))]) = B20
  refine eg_aload C rfl hl0 dX11_init_198 ?_
  refine eg_bipush C dX11_init_199 (v := 6) rfl ?_
  refine eg_newa (t := 0) C (List.mem_of_getElem? (i := 55) (by decide +kernel)) rfl rfl rfl (by decide) (N' := 6) rfl (by decide) (by decide) (by decide) dX11_init_201 (fun q34 => ?_)
  refine eg_eq (ws' := (h0, .inr (11, [.ref (u1.1 0), .ref (u3.1 0), .ref (u5.1 0), .ref (u7.1 0), .ref q8, .ref q13, .ref (u15.1 0), .ref (u17.1 0), .ref q18, .ref q31, .ref q32, .ref q33, .null, .null, .null, .null, .int 0, .int 0])) :: (B20 ++ [(q34, .inl (cA 0, 6, .inl (fun _ => 0)))])) rfl ?_
  refine eg_putF C hin fq_X11_87 (q0 := 0) rfl rfl rfl (Nat.le_of_ble_eq_true rfl) dX11_init_203 ?_
  refine eg_eq (ws' := (h0, .inr (11, [.ref (u1.1 0), .ref (u3.1 0), .ref (u5.1 0), .ref (u7.1 0), .ref q8, .ref q13, .ref (u15.1 0), .ref (u17.1 0), .ref q18, .ref q31, .ref q32, .ref q33, .ref q34, .null, .null, .null, .int 0, .int 0])) :: (B20 ++ [(q34, .inl (cA 0, 6, .inl (fun _ => 0)))])) rfl ?_
  generalize hB21 : (B20 ++ [(q34, .inl (cA 0, 6, .inl (fun _ => 0)))]) = B21
  refine eg_aload C rfl hl0 dX11_init_206 ?_
  refine eg_bipush C dX11_init_207 (v := 6) rfl ?_
  refine eg_newa (t := 0) C (List.mem_of_getElem? (i := 55) (by decide +kernel)) rfl rfl rfl (by decide) (N' := 6) rfl (by decide) (by decide) (by decide) dX11_init_209 (fun q35 => ?_)
  refine eg_eq (ws' := (h0, .inr (11, [.ref (u1.1 0), .ref (u3.1 0), .ref (u5.1 0), .ref (u7.1 0), .ref q8, .ref q13, .ref (u15.1 0), .ref (u17.1 0), .ref q18, .ref q31, .ref q32, .ref q33, .ref q34, .null, .null, .null, .int 0, .int 0])) :: (B21 ++ [(q35, .inl (cA 0, 6, .inl (fun _ => 0)))])) rfl ?_
  refine eg_putF C hin fq_X11_90 (q0 := 0) rfl rfl rfl (Nat.le_of_ble_eq_true rfl) dX11_init_211 ?_
  refine eg_eq (ws' := (h0, .inr (11, [.ref (u1.1 0), .ref (u3.1 0), .ref (u5.1 0), .ref (u7.1 0), .ref q8, .ref q13, .ref (u15.1 0), .ref (u17.1 0), .ref q18, .ref q31, .ref q32, .ref q33, .ref q34, .ref q35, .null, .null, .int 0, .int 0])) :: (B21 ++ [(q35, .inl (cA 0, 6, .inl (fun _ => 0)))])) rfl ?_
  generalize hB22 : (B21 ++ [(q35, .inl (cA 0, 6, .inl (fun _ => 0)))]) = B22
  refine eg_aload C rfl hl0 dX11_init_214 ?_
  refine eg_bipush C dX11_init_215 (v := 100) rfl ?_
  refine eg_newa (t := 0) C (List.mem_of_getElem? (i := 55) (by decide +kernel)) rfl rfl rfl (by decide) (N' := 100) rfl (by decide) (by decide) (by decide) dX11_init_217 (fun q36 => ?_)
  refine eg_eq (ws' := (h0, .inr (11, [.ref (u1.1 0), .ref (u3.1 0), .ref (u5.1 0), .ref (u7.1 0), .ref q8, .ref q13, .ref (u15.1 0), .ref (u17.1 0), .ref q18, .ref q31, .ref q32, .ref q33, .ref q34, .ref q35, .null, .null, .int 0, .int 0])) :: (B22 ++ [(q36, .inl (cA 0, 100, .inl (fun _ => 0)))])) rfl ?_
  refine eg_putF C hin fq_X11_93 (q0 := 0) rfl rfl rfl (Nat.le_of_ble_eq_true rfl) dX11_init_219 ?_
  refine eg_eq (ws' := (h0, .inr (11, [.ref (u1.1 0), .ref (u3.1 0), .ref (u5.1 0), .ref (u7.1 0), .ref q8, .ref q13, .ref (u15.1 0), .ref (u17.1 0), .ref q18, .ref q31, .ref q32, .ref q33, .ref q34, .ref q35, .ref q36, .null, .int 0, .int 0])) :: (B22 ++ [(q36, .inl (cA 0, 100, .inl (fun _ => 0)))])) rfl ?_
  generalize hB23 : (B22 ++ [(q36, .inl (cA 0, 100, .inl (fun _ => 0)))]) = B23
  refine eg_aload C rfl hl0 dX11_init_222 ?_
  refine eg_sipush C dX11_init_223 (v := 300) rfl ?_
  refine eg_newa (t := 0) C (List.mem_of_getElem? (i := 55) (by decide +kernel)) rfl rfl rfl (by decide) (N' := 300) rfl (by decide) (by decide) (by decide) dX11_init_226 (fun q37 => ?_)
  refine eg_eq (ws' := (h0, .inr (11, [.ref (u1.1 0), .ref (u3.1 0), .ref (u5.1 0), .ref (u7.1 0), .ref q8, .ref q13, .ref (u15.1 0), .ref (u17.1 0), .ref q18, .ref q31, .ref q32, .ref q33, .ref q34, .ref q35, .ref q36, .null, .int 0, .int 0])) :: (B23 ++ [(q37, .inl (cA 0, 300, .inl (fun _ => 0)))])) rfl ?_
  refine eg_putF C hin fq_X11_96 (q0 := 0) rfl rfl rfl (Nat.le_of_ble_eq_true rfl) dX11_init_228 ?_
  refine eg_eq (ws' := (h0, .inr (11, [.ref (u1.1 0), .ref (u3.1 0), .ref (u5.1 0), .ref (u7.1 0), .ref q8, .ref q13, .ref (u15.1 0), .ref (u17.1 0), .ref q18, .ref q31, .ref q32, .ref q33, .ref q34, .ref q35, .ref q36, .ref q37, .int 0, .int 0])) :: (B23 ++ [(q37, .inl (cA 0, 300, .inl (fun _ => 0)))])) rfl ?_
  generalize hB24 : (B23 ++ [(q37, .inl (cA 0, 300, .inl (fun _ => 0)))]) = B24
  subst hB24 hB23 hB22 hB21 hB20 hB19 hB18 hB17 hB16 hB15 hB14 hB13 hB12 hB11 hB10 hB9 hB8 hB7 hB6 hB5 hB4 hB3 hB2 hB1
  exact eg_ret (wX_ad h0 q8 q13 q18 q31 q32 q33 q34 q35 q36 q37 u1 u3 u5 u7 u10 u12 u15 u17 u20 u22 u24 u26 u28 u30 cA, s0X) C rfl rfl (fun H h => wX_P h0 q8 q13 q18 q31 q32 q33 q34 q35 q36 q37 u1 u3 u5 u7 u10 u12 u15 u17 u20 u22 u24 u26 u28 u30 cA h) (fun h => wX_D h0 q8 q13 q18 q31 q32 q33 q34 q35 q36 q37 u1 u3 u5 u7 u10 u12 u15 u17 u20 u22 u24 u26 u28 u30 cA h) dX11_init_231
