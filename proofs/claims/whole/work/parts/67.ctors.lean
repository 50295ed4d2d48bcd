/-! The small constructors. -/
def adr (l : List Nat) : Nat → Nat := fun i => l.getD i 0
theorem all2 {P : Nat → Prop} (h0 : P 0) (h1 : P 1) : ∀ j, j < 2 → P j
  | 0, _ => h0
  | 1, _ => h1
  | n + 2, h => absurd h (by omega)
theorem all4 {P : Nat → Prop} (h0 : P 0) (h1 : P 1) (h2 : P 2) (h3 : P 3) : ∀ j, j < 4 → P j
  | 0, _ => h0
  | 1, _ => h1
  | 2, _ => h2
  | 3, _ => h3
  | n + 4, h => absurd h (by omega)
theorem all6 {P : Nat → Prop} (h0 : P 0) (h1 : P 1) (h2 : P 2) (h3 : P 3) (h4 : P 4) (h5 : P 5) : ∀ j, j < 6 → P j
  | 0, _ => h0
  | 1, _ => h1
  | 2, _ => h2
  | 3, _ => h3
  | 4, _ => h4
  | 5, _ => h5
  | n + 6, h => absurd h (by omega)
theorem P_nil {D : va_G} {cl : List vw_C} {H : Heap} : va_P D cl [] H := fun k q hq => by simp at hq
theorem P_cons {D : va_G} {cl : List vw_C} {H : Heap} {x : Nat × va_E} {t : va_W} (h : va_at D cl x H) (ht : va_P D cl t H) : va_P D cl (x :: t) H := fun k q hq => by
  cases k with
  | zero => cases hq; exact h
  | succ k => exact ht k q hq
def blkL (ci : Nat) (u : UU) (cA : Nat → ClassId) : va_W := [(u.1 0, .inr (ci, [.long 0]))]
theorem ci_X2_init (ci : Nat) : CtI SX.2 yX2_init cX2_init 1 1 0 0 ci [.long 0] (blkL ci) (fun _ => True) := by
  refine cti_of (by decide) rfl (by decide) ?_
  intro p l e s m args below meth c D cA A ls h0 C hin hZ hls hl0
  refine eg_eq (ws' := (h0, .inr (ci, [.long 0])) :: []) rfl ?_
  refine eg_aload C rfl hl0 dX2_init_0 ?_
  refine eg_obj C hls (List.mem_of_getElem? (i := 98) (by decide +kernel)) (List.mem_of_getElem? (i := 10) (by decide +kernel)) (List.mem_of_getElem? (i := 11) (by decide +kernel)) dX2_init_1 (by decide) (by decide) ?_
  exact eg_ret (adr [h0], (fun _ _ => 0, fun _ => 0)) C rfl trivial (fun H h => h) (fun h => h) dX2_init_4
theorem wi_X2_init : CWc yX2_init cX2_init 1 none 0 := ⟨List.mem_of_getElem? (i := 97) (by decide +kernel), List.mem_of_getElem? (i := 38) (by decide +kernel), by decide +kernel, by decide⟩
theorem ci_X9_init (ci : Nat) : CtI SX.2 yX9_init cX9_init 1 2 0 0 ci [.long 0] (blkL ci) (fun _ => True) := by
  refine cti_of (by decide) rfl (by decide) ?_
  intro p l e s m args below meth c D cA A ls h0 C hin hZ hls hl0
  refine eg_aload C rfl hl0 dX9_init_0 ?_
  refine eg_callN (ws := []) C hZ hls (ci_X2_init ci) (List.mem_of_getElem? (i := 15) (by decide +kernel)) wi_X2_init (List.mem_of_getElem? (i := 96) (by decide +kernel)) rfl ⟨by decide, by decide⟩ (Nat.le_of_ble_eq_true rfl) ⟨by decide, by decide⟩ dX9_init_1 (fun u0 huu0 _ => ?_)
  subst huu0
  exact eg_ret u0 C rfl trivial (fun H h => h) (fun h => h) dX9_init_4
theorem ci_X6_init (ci : Nat) : CtI SX.2 yX6_init cX6_init 1 2 0 0 ci [.long 0] (blkL ci) (fun _ => True) := by
  refine cti_of (by decide) rfl (by decide) ?_
  intro p l e s m args below meth c D cA A ls h0 C hin hZ hls hl0
  refine eg_aload C rfl hl0 dX6_init_0 ?_
  refine eg_callN (ws := []) C hZ hls (ci_X2_init ci) (List.mem_of_getElem? (i := 12) (by decide +kernel)) wi_X2_init (List.mem_of_getElem? (i := 96) (by decide +kernel)) rfl ⟨by decide, by decide⟩ (Nat.le_of_ble_eq_true rfl) ⟨by decide, by decide⟩ dX6_init_1 (fun u0 huu0 _ => ?_)
  subst huu0
  exact eg_ret u0 C rfl trivial (fun H h => h) (fun h => h) dX6_init_4
theorem ci_X1_init (ci : Nat) : CtI SX.2 yX1_init cX1_init 1 2 0 0 ci [.long 0] (blkL ci) (fun _ => True) := by
  refine cti_of (by decide) rfl (by decide) ?_
  intro p l e s m args below meth c D cA A ls h0 C hin hZ hls hl0
  refine eg_aload C rfl hl0 dX1_init_0 ?_
  refine eg_callN (ws := []) C hZ hls (ci_X2_init ci) (List.mem_of_getElem? (i := 11) (by decide +kernel)) wi_X2_init (List.mem_of_getElem? (i := 96) (by decide +kernel)) rfl ⟨by decide, by decide⟩ (Nat.le_of_ble_eq_true rfl) ⟨by decide, by decide⟩ dX1_init_1 (fun u0 huu0 _ => ?_)
  subst huu0
  exact eg_ret u0 C rfl trivial (fun H h => h) (fun h => h) dX1_init_4
theorem wi_X9_init : CWc yX9_init cX9_init 1 none 0 := ⟨List.mem_of_getElem? (i := 100) (by decide +kernel), List.mem_of_getElem? (i := 41) (by decide +kernel), by decide +kernel, by decide⟩
theorem ci_X7_init (ci : Nat) : CtI SX.2 yX7_init cX7_init 1 3 0 0 ci [.long 0] (blkL ci) (fun _ => True) := by
  refine cti_of (by decide) rfl (by decide) ?_
  intro p l e s m args below meth c D cA A ls h0 C hin hZ hls hl0
  refine eg_aload C rfl hl0 dX7_init_0 ?_
  refine eg_callN (ws := []) C hZ hls (ci_X9_init ci) (List.mem_of_getElem? (i := 13) (by decide +kernel)) wi_X9_init (List.mem_of_getElem? (i := 99) (by decide +kernel)) rfl ⟨by decide, by decide⟩ (Nat.le_of_ble_eq_true rfl) ⟨by decide, by decide⟩ dX7_init_1 (fun u0 huu0 _ => ?_)
  subst huu0
  exact eg_ret u0 C rfl trivial (fun H h => h) (fun h => h) dX7_init_4
theorem wi_X6_init : CWc yX6_init cX6_init 1 none 0 := ⟨List.mem_of_getElem? (i := 102) (by decide +kernel), List.mem_of_getElem? (i := 44) (by decide +kernel), by decide +kernel, by decide⟩
theorem ci_X8_init (ci : Nat) : CtI SX.2 yX8_init cX8_init 1 3 0 0 ci [.long 0] (blkL ci) (fun _ => True) := by
  refine cti_of (by decide) rfl (by decide) ?_
  intro p l e s m args below meth c D cA A ls h0 C hin hZ hls hl0
  refine eg_aload C rfl hl0 dX8_init_0 ?_
  refine eg_callN (ws := []) C hZ hls (ci_X6_init ci) (List.mem_of_getElem? (i := 14) (by decide +kernel)) wi_X6_init (List.mem_of_getElem? (i := 101) (by decide +kernel)) rfl ⟨by decide, by decide⟩ (Nat.le_of_ble_eq_true rfl) ⟨by decide, by decide⟩ dX8_init_1 (fun u0 huu0 _ => ?_)
  subst huu0
  exact eg_ret u0 C rfl trivial (fun H h => h) (fun h => h) dX8_init_4
theorem fq_X10_9 : FQ RX10 9 10 1 (.array .int) := ⟨RX10, TX10, 9, "RegretPit$Text", tyX10, rfl, by decide, List.mem_of_getElem? (i := 66) (by decide +kernel), inlX10, Or.inl rfl, tyX10_ok, nmX10, rfl, by decide +kernel, rfl⟩
def blkX10 (u : UU) (cA : Nat → ClassId) : va_W := [(u.1 0, .inr (10, [.int 0, .ref (u.1 1), .int 0, .int 0, .int 0, .int 0, .int 0, .int 0, .int 0])), (u.1 1, .inl (cA 0, 150, .inl (fun _ => 0)))]
theorem ci_X10_init : CtI SX.2 yX10_init cX10_init 1 1 1 150 10 [.int 0, .null, .int 0, .int 0, .int 0, .int 0, .int 0, .int 0, .int 0] blkX10 (fun _ => True) := by
  refine cti_of (by decide) rfl (by decide) ?_
  intro p l e s m args below meth c D cA A ls h0 C hin hZ hls hl0
  refine eg_eq (ws' := (h0, .inr (10, [.int 0, .null, .int 0, .int 0, .int 0, .int 0, .int 0, .int 0, .int 0])) :: []) rfl ?_
  refine eg_aload C rfl hl0 dX10_init_0 ?_
  refine eg_obj C hls (List.mem_of_getElem? (i := 65) (by decide +kernel)) (List.mem_of_getElem? (i := 10) (by decide +kernel)) (List.mem_of_getElem? (i := 11) (by decide +kernel)) dX10_init_1 (by decide) (by decide) ?_
  refine eg_aload C rfl hl0 dX10_init_4 ?_
  refine eg_sipush C dX10_init_5 (v := 150) rfl ?_
  refine eg_newa (t := 0) C (List.mem_of_getElem? (i := 55) (by decide +kernel)) rfl rfl rfl (by decide) (N' := 150) rfl (by decide) (by decide) (by decide) dX10_init_8 (fun q0 => ?_)
  refine eg_eq (ws' := (h0, .inr (10, [.int 0, .null, .int 0, .int 0, .int 0, .int 0, .int 0, .int 0, .int 0])) :: ([] ++ [(q0, .inl (cA 0, 150, .inl (fun _ => 0)))])) rfl ?_
  refine eg_putF C hin fq_X10_9 (q0 := 0) rfl rfl rfl (Nat.le_of_ble_eq_true rfl) dX10_init_10 ?_
  refine eg_eq (ws' := (h0, .inr (10, [.int 0, .ref q0, .int 0, .int 0, .int 0, .int 0, .int 0, .int 0, .int 0])) :: ([] ++ [(q0, .inl (cA 0, 150, .inl (fun _ => 0)))])) rfl ?_
  exact eg_ret (adr [h0, q0], (fun _ _ => 0, fun _ => 0)) C rfl trivial (fun H h => P_cons (h 0 _ rfl) (P_cons (h 1 _ rfl) P_nil)) (fun h => D_map h rfl) dX10_init_13
theorem fq_X4_9 : FQ RX4 9 4 0 (.array .int) := ⟨RX4, TX4, 6, "RegretPit$Now", tyX4, rfl, by decide, List.mem_of_getElem? (i := 81) (by decide +kernel), inlX4, Or.inl rfl, tyX4_ok, nmX4, rfl, by decide +kernel, rfl⟩
theorem fq_X4_15 : FQ RX4 15 4 1 (.array .int) := ⟨RX4, TX4, 6, "RegretPit$Now", tyX4, rfl, by decide, List.mem_of_getElem? (i := 82) (by decide +kernel), inlX4, Or.inl rfl, tyX4_ok, nmX4, rfl, by decide +kernel, rfl⟩
theorem fq_X4_18 : FQ RX4 18 4 5 (.array .int) := ⟨RX4, TX4, 6, "RegretPit$Now", tyX4, rfl, by decide, List.mem_of_getElem? (i := 83) (by decide +kernel), inlX4, Or.inl rfl, tyX4_ok, nmX4, rfl, by decide +kernel, rfl⟩
def blkX4 (u : UU) (cA : Nat → ClassId) : va_W := [(u.1 0, .inr (4, [.ref (u.1 1), .ref (u.1 2), .int 0, .int 0, .int 0, .ref (u.1 3)])), (u.1 1, .inl (cA 0, 6, .inl (fun _ => 0))), (u.1 2, .inl (cA 0, 6, .inl (fun _ => 0))), (u.1 3, .inl (cA 0, 140, .inl (fun _ => 0)))]
theorem ci_X4_init : CtI SX.2 yX4_init cX4_init 1 1 3 152 4 [.null, .null, .int 0, .int 0, .int 0, .null] blkX4 (fun _ => True) := by
  refine cti_of (by decide) rfl (by decide) ?_
  intro p l e s m args below meth c D cA A ls h0 C hin hZ hls hl0
  refine eg_eq (ws' := (h0, .inr (4, [.null, .null, .int 0, .int 0, .int 0, .null])) :: []) rfl ?_
  refine eg_aload C rfl hl0 dX4_init_0 ?_
  refine eg_obj C hls (List.mem_of_getElem? (i := 80) (by decide +kernel)) (List.mem_of_getElem? (i := 10) (by decide +kernel)) (List.mem_of_getElem? (i := 11) (by decide +kernel)) dX4_init_1 (by decide) (by decide) ?_
  refine eg_aload C rfl hl0 dX4_init_4 ?_
  refine eg_bipush C dX4_init_5 (v := 6) rfl ?_
  refine eg_newa (t := 0) C (List.mem_of_getElem? (i := 55) (by decide +kernel)) rfl rfl rfl (by decide) (N' := 6) rfl (by decide) (by decide) (by decide) dX4_init_7 (fun q0 => ?_)
  refine eg_eq (ws' := (h0, .inr (4, [.null, .null, .int 0, .int 0, .int 0, .null])) :: ([] ++ [(q0, .inl (cA 0, 6, .inl (fun _ => 0)))])) rfl ?_
  refine eg_putF C hin fq_X4_9 (q0 := 0) rfl rfl rfl (Nat.le_of_ble_eq_true rfl) dX4_init_9 ?_
  refine eg_eq (ws' := (h0, .inr (4, [.ref q0, .null, .int 0, .int 0, .int 0, .null])) :: ([] ++ [(q0, .inl (cA 0, 6, .inl (fun _ => 0)))])) rfl ?_
  refine eg_aload C rfl hl0 dX4_init_12 ?_
  refine eg_bipush C dX4_init_13 (v := 6) rfl ?_
  refine eg_newa (t := 0) C (List.mem_of_getElem? (i := 55) (by decide +kernel)) rfl rfl rfl (by decide) (N' := 6) rfl (by decide) (by decide) (by decide) dX4_init_15 (fun q1 => ?_)
  refine eg_eq (ws' := (h0, .inr (4, [.ref q0, .null, .int 0, .int 0, .int 0, .null])) :: (([] ++ [(q0, .inl (cA 0, 6, .inl (fun _ => 0)))]) ++ [(q1, .inl (cA 0, 6, .inl (fun _ => 0)))])) rfl ?_
  refine eg_putF C hin fq_X4_15 (q0 := 0) rfl rfl rfl (Nat.le_of_ble_eq_true rfl) dX4_init_17 ?_
  refine eg_eq (ws' := (h0, .inr (4, [.ref q0, .ref q1, .int 0, .int 0, .int 0, .null])) :: (([] ++ [(q0, .inl (cA 0, 6, .inl (fun _ => 0)))]) ++ [(q1, .inl (cA 0, 6, .inl (fun _ => 0)))])) rfl ?_
  refine eg_aload C rfl hl0 dX4_init_20 ?_
  refine eg_sipush C dX4_init_21 (v := 140) rfl ?_
  refine eg_newa (t := 0) C (List.mem_of_getElem? (i := 55) (by decide +kernel)) rfl rfl rfl (by decide) (N' := 140) rfl (by decide) (by decide) (by decide) dX4_init_24 (fun q2 => ?_)
  refine eg_eq (ws' := (h0, .inr (4, [.ref q0, .ref q1, .int 0, .int 0, .int 0, .null])) :: ((([] ++ [(q0, .inl (cA 0, 6, .inl (fun _ => 0)))]) ++ [(q1, .inl (cA 0, 6, .inl (fun _ => 0)))]) ++ [(q2, .inl (cA 0, 140, .inl (fun _ => 0)))])) rfl ?_
  refine eg_putF C hin fq_X4_18 (q0 := 0) rfl rfl rfl (Nat.le_of_ble_eq_true rfl) dX4_init_26 ?_
  refine eg_eq (ws' := (h0, .inr (4, [.ref q0, .ref q1, .int 0, .int 0, .int 0, .ref q2])) :: ((([] ++ [(q0, .inl (cA 0, 6, .inl (fun _ => 0)))]) ++ [(q1, .inl (cA 0, 6, .inl (fun _ => 0)))]) ++ [(q2, .inl (cA 0, 140, .inl (fun _ => 0)))])) rfl ?_
  exact eg_ret (adr [h0, q0, q1, q2], (fun _ _ => 0, fun _ => 0)) C rfl trivial (fun H h => P_cons (h 0 _ rfl) (P_cons (h 1 _ rfl) (P_cons (h 2 _ rfl) (P_cons (h 3 _ rfl) P_nil)))) (fun h => D_map h rfl) dX4_init_29
theorem fq_X3_9 : FQ RX3 9 3 1 (.array .int) := ⟨RX3, TX3, 3, "RegretPit$Matcher", tyX3, rfl, by decide, List.mem_of_getElem? (i := 94) (by decide +kernel), inlX3, Or.inl rfl, tyX3_ok, nmX3, rfl, by decide +kernel, rfl⟩
theorem fq_X3_15 : FQ RX3 15 3 2 (.array .int) := ⟨RX3, TX3, 3, "RegretPit$Matcher", tyX3, rfl, by decide, List.mem_of_getElem? (i := 95) (by decide +kernel), inlX3, Or.inl rfl, tyX3_ok, nmX3, rfl, by decide +kernel, rfl⟩
def blkX3 (u : UU) (cA : Nat → ClassId) : va_W := [(u.1 0, .inr (3, [.int 0, .ref (u.1 1), .ref (u.1 2)])), (u.1 1, .inl (cA 0, 6, .inl (fun _ => 0))), (u.1 2, .inl (cA 0, 6, .inl (fun _ => 0)))]
theorem ci_X3_init : CtI SX.2 yX3_init cX3_init 1 1 2 12 3 [.int 0, .null, .null] blkX3 (fun _ => True) := by
  refine cti_of (by decide) rfl (by decide) ?_
  intro p l e s m args below meth c D cA A ls h0 C hin hZ hls hl0
  refine eg_eq (ws' := (h0, .inr (3, [.int 0, .null, .null])) :: []) rfl ?_
  refine eg_aload C rfl hl0 dX3_init_0 ?_
  refine eg_obj C hls (List.mem_of_getElem? (i := 93) (by decide +kernel)) (List.mem_of_getElem? (i := 10) (by decide +kernel)) (List.mem_of_getElem? (i := 11) (by decide +kernel)) dX3_init_1 (by decide) (by decide) ?_
  refine eg_aload C rfl hl0 dX3_init_4 ?_
  refine eg_bipush C dX3_init_5 (v := 6) rfl ?_
  refine eg_newa (t := 0) C (List.mem_of_getElem? (i := 55) (by decide +kernel)) rfl rfl rfl (by decide) (N' := 6) rfl (by decide) (by decide) (by decide) dX3_init_7 (fun q0 => ?_)
  refine eg_eq (ws' := (h0, .inr (3, [.int 0, .null, .null])) :: ([] ++ [(q0, .inl (cA 0, 6, .inl (fun _ => 0)))])) rfl ?_
  refine eg_putF C hin fq_X3_9 (q0 := 0) rfl rfl rfl (Nat.le_of_ble_eq_true rfl) dX3_init_9 ?_
  refine eg_eq (ws' := (h0, .inr (3, [.int 0, .ref q0, .null])) :: ([] ++ [(q0, .inl (cA 0, 6, .inl (fun _ => 0)))])) rfl ?_
  refine eg_aload C rfl hl0 dX3_init_12 ?_
  refine eg_bipush C dX3_init_13 (v := 6) rfl ?_
  refine eg_newa (t := 0) C (List.mem_of_getElem? (i := 55) (by decide +kernel)) rfl rfl rfl (by decide) (N' := 6) rfl (by decide) (by decide) (by decide) dX3_init_15 (fun q1 => ?_)
  refine eg_eq (ws' := (h0, .inr (3, [.int 0, .ref q0, .null])) :: (([] ++ [(q0, .inl (cA 0, 6, .inl (fun _ => 0)))]) ++ [(q1, .inl (cA 0, 6, .inl (fun _ => 0)))])) rfl ?_
  refine eg_putF C hin fq_X3_15 (q0 := 0) rfl rfl rfl (Nat.le_of_ble_eq_true rfl) dX3_init_17 ?_
  refine eg_eq (ws' := (h0, .inr (3, [.int 0, .ref q0, .ref q1])) :: (([] ++ [(q0, .inl (cA 0, 6, .inl (fun _ => 0)))]) ++ [(q1, .inl (cA 0, 6, .inl (fun _ => 0)))])) rfl ?_
  exact eg_ret (adr [h0, q0, q1], (fun _ _ => 0, fun _ => 0)) C rfl trivial (fun H h => P_cons (h 0 _ rfl) (P_cons (h 1 _ rfl) (P_cons (h 2 _ rfl) P_nil))) (fun h => D_map h rfl) dX3_init_20
theorem fz_X0_9 : FP RX0 9 0 1 .int := ⟨RX0, TX0, 8, "RegretPit$Crew", tyX0, rfl, by decide, List.mem_of_getElem? (i := 70) (by decide +kernel), inlX0, Or.inl rfl, tyX0_ok, nmX0, rfl, by decide +kernel⟩
theorem fz_X0_15 : FP RX0 15 0 2 .int := ⟨RX0, TX0, 8, "RegretPit$Crew", tyX0, rfl, by decide, List.mem_of_getElem? (i := 71) (by decide +kernel), inlX0, Or.inl rfl, tyX0_ok, nmX0, rfl, by decide +kernel⟩
theorem fq_X0_18 : FQ RX0 18 0 3 (.array .int) := ⟨RX0, TX0, 8, "RegretPit$Crew", tyX0, rfl, by decide, List.mem_of_getElem? (i := 72) (by decide +kernel), inlX0, Or.inl rfl, tyX0_ok, nmX0, rfl, by decide +kernel, rfl⟩
theorem fq_X0_22 : FQ RX0 22 0 4 (.array .int) := ⟨RX0, TX0, 8, "RegretPit$Crew", tyX0, rfl, by decide, List.mem_of_getElem? (i := 73) (by decide +kernel), inlX0, Or.inl rfl, tyX0_ok, nmX0, rfl, by decide +kernel, rfl⟩
theorem fq_X0_27 : FQ RX0 27 0 5 (.array (.array .int)) := ⟨RX0, TX0, 8, "RegretPit$Crew", tyX0, rfl, by decide, List.mem_of_getElem? (i := 75) (by decide +kernel), inlX0, Or.inl rfl, tyX0_ok, nmX0, rfl, by decide +kernel, rfl⟩
theorem fq_X0_30 : FQ RX0 30 0 6 (.array (.array .int)) := ⟨RX0, TX0, 8, "RegretPit$Crew", tyX0, rfl, by decide, List.mem_of_getElem? (i := 76) (by decide +kernel), inlX0, Or.inl rfl, tyX0_ok, nmX0, rfl, by decide +kernel, rfl⟩
theorem fq_X0_33 : FQ RX0 33 0 7 (.array .int) := ⟨RX0, TX0, 8, "RegretPit$Crew", tyX0, rfl, by decide, List.mem_of_getElem? (i := 77) (by decide +kernel), inlX0, Or.inl rfl, tyX0_ok, nmX0, rfl, by decide +kernel, rfl⟩
def blkX0 (u : UU) (cA : Nat → ClassId) : va_W := [(u.1 0, .inr (0, [.int 0, .int 3, .int 5, .ref (u.1 1), .ref (u.1 2), .ref (u.1 3), .ref (u.1 10), .ref (u.1 17)])), (u.1 1, .inl (cA 0, 6, .inl (fun _ => 0))), (u.1 2, .inl (cA 0, 6, .inl (fun _ => 0))), (u.1 3, .inl (cA 4, 6, .inr (.inr (.inr (.inr (fun j => some (u.1 (4 + j)))))))), (u.1 4, .inl (cA 0, 6, .inl (fun _ => 0))), (u.1 5, .inl (cA 0, 6, .inl (fun _ => 0))), (u.1 6, .inl (cA 0, 6, .inl (fun _ => 0))), (u.1 7, .inl (cA 0, 6, .inl (fun _ => 0))), (u.1 8, .inl (cA 0, 6, .inl (fun _ => 0))), (u.1 9, .inl (cA 0, 6, .inl (fun _ => 0))), (u.1 10, .inl (cA 4, 6, .inr (.inr (.inr (.inr (fun j => some (u.1 (11 + j)))))))), (u.1 11, .inl (cA 0, 64, .inl (fun _ => 0))), (u.1 12, .inl (cA 0, 64, .inl (fun _ => 0))), (u.1 13, .inl (cA 0, 64, .inl (fun _ => 0))), (u.1 14, .inl (cA 0, 64, .inl (fun _ => 0))), (u.1 15, .inl (cA 0, 64, .inl (fun _ => 0))), (u.1 16, .inl (cA 0, 64, .inl (fun _ => 0))), (u.1 17, .inl (cA 0, 6, .inl (fun _ => 0)))]
theorem ci_X0_init : CtI SX.2 yX0_init cX0_init 1 1 17 450 0 [.int 0, .int 0, .int 0, .null, .null, .null, .null, .null] blkX0 (fun _ => True) := by
  refine cti_of (by decide) rfl (by decide) ?_
  intro p l e s m args below meth c D cA A ls h0 C hin hZ hls hl0
  refine eg_eq (ws' := (h0, .inr (0, [.int 0, .int 0, .int 0, .null, .null, .null, .null, .null])) :: []) rfl ?_
  refine eg_aload C rfl hl0 dX0_init_0 ?_
  refine eg_obj C hls (List.mem_of_getElem? (i := 69) (by decide +kernel)) (List.mem_of_getElem? (i := 10) (by decide +kernel)) (List.mem_of_getElem? (i := 11) (by decide +kernel)) dX0_init_1 (by decide) (by decide) ?_
  refine eg_aload C rfl hl0 dX0_init_4 ?_
  refine eg_iconst C dX0_init_5 (v := 3) rfl ?_
  refine eg_put C fz_X0_9 (q0 := 0) rfl rfl rfl (Nat.le_of_ble_eq_true rfl) dX0_init_6 ?_
  refine eg_eq (ws' := (h0, .inr (0, [.int 0, .int 3, .int 0, .null, .null, .null, .null, .null])) :: []) rfl ?_
  refine eg_aload C rfl hl0 dX0_init_9 ?_
  refine eg_iconst C dX0_init_10 (v := 5) rfl ?_
  refine eg_put C fz_X0_15 (q0 := 0) rfl rfl rfl (Nat.le_of_ble_eq_true rfl) dX0_init_11 ?_
  refine eg_eq (ws' := (h0, .inr (0, [.int 0, .int 3, .int 5, .null, .null, .null, .null, .null])) :: []) rfl ?_
  refine eg_aload C rfl hl0 dX0_init_14 ?_
  refine eg_bipush C dX0_init_15 (v := 6) rfl ?_
  refine eg_newa (t := 0) C (List.mem_of_getElem? (i := 55) (by decide +kernel)) rfl rfl rfl (by decide) (N' := 6) rfl (by decide) (by decide) (by decide) dX0_init_17 (fun q0 => ?_)
  refine eg_eq (ws' := (h0, .inr (0, [.int 0, .int 3, .int 5, .null, .null, .null, .null, .null])) :: ([] ++ [(q0, .inl (cA 0, 6, .inl (fun _ => 0)))])) rfl ?_
  refine eg_putF C hin fq_X0_18 (q0 := 0) rfl rfl rfl (Nat.le_of_ble_eq_true rfl) dX0_init_19 ?_
  refine eg_eq (ws' := (h0, .inr (0, [.int 0, .int 3, .int 5, .ref q0, .null, .null, .null, .null])) :: ([] ++ [(q0, .inl (cA 0, 6, .inl (fun _ => 0)))])) rfl ?_
  refine eg_aload C rfl hl0 dX0_init_22 ?_
  refine eg_bipush C dX0_init_23 (v := 6) rfl ?_
  refine eg_newa (t := 0) C (List.mem_of_getElem? (i := 55) (by decide +kernel)) rfl rfl rfl (by decide) (N' := 6) rfl (by decide) (by decide) (by decide) dX0_init_25 (fun q1 => ?_)
  refine eg_eq (ws' := (h0, .inr (0, [.int 0, .int 3, .int 5, .ref q0, .null, .null, .null, .null])) :: (([] ++ [(q0, .inl (cA 0, 6, .inl (fun _ => 0)))]) ++ [(q1, .inl (cA 0, 6, .inl (fun _ => 0)))])) rfl ?_
  refine eg_putF C hin fq_X0_22 (q0 := 0) rfl rfl rfl (Nat.le_of_ble_eq_true rfl) dX0_init_27 ?_
  refine eg_eq (ws' := (h0, .inr (0, [.int 0, .int 3, .int 5, .ref q0, .ref q1, .null, .null, .null])) :: (([] ++ [(q0, .inl (cA 0, 6, .inl (fun _ => 0)))]) ++ [(q1, .inl (cA 0, 6, .inl (fun _ => 0)))])) rfl ?_
  refine eg_aload C rfl hl0 dX0_init_30 ?_
  refine eg_bipush C dX0_init_31 (v := 6) rfl ?_
  refine eg_bipush C dX0_init_33 (v := 6) rfl ?_
  refine eg_mna (t := 4) C (List.mem_of_getElem? (i := 74) (by decide +kernel)) (List.mem_of_getElem? (i := 55) (by decide +kernel)) hZ.1 rfl rfl (by decide) (by decide) (N' := 6) (K' := 6) rfl rfl (by decide) (by decide) (by decide) (by decide) dX0_init_35 (fun q2 r2 => ?_)
  refine eg_eq (ws' := (h0, .inr (0, [.int 0, .int 3, .int 5, .ref q0, .ref q1, .null, .null, .null])) :: (((([] ++ [(q0, .inl (cA 0, 6, .inl (fun _ => 0)))]) ++ [(q1, .inl (cA 0, 6, .inl (fun _ => 0)))]) ++ [(q2, .inl (cA 4, 6, .inr (.inr (.inr (.inr (fun i => if i < 6 then some (r2 i) else none))))))]) ++ [(r2 0, .inl (cA 0, 6, .inl (fun _ => 0))), (r2 1, .inl (cA 0, 6, .inl (fun _ => 0))), (r2 2, .inl (cA 0, 6, .inl (fun _ => 0))), (r2 3, .inl (cA 0, 6, .inl (fun _ => 0))), (r2 4, .inl (cA 0, 6, .inl (fun _ => 0))), (r2 5, .inl (cA 0, 6, .inl (fun _ => 0)))])) rfl ?_
  refine eg_putF C hin fq_X0_27 (q0 := 0) rfl rfl rfl (Nat.le_of_ble_eq_true rfl) dX0_init_39 ?_
  refine eg_eq (ws' := (h0, .inr (0, [.int 0, .int 3, .int 5, .ref q0, .ref q1, .ref q2, .null, .null])) :: (((([] ++ [(q0, .inl (cA 0, 6, .inl (fun _ => 0)))]) ++ [(q1, .inl (cA 0, 6, .inl (fun _ => 0)))]) ++ [(q2, .inl (cA 4, 6, .inr (.inr (.inr (.inr (fun i => if i < 6 then some (r2 i) else none))))))]) ++ [(r2 0, .inl (cA 0, 6, .inl (fun _ => 0))), (r2 1, .inl (cA 0, 6, .inl (fun _ => 0))), (r2 2, .inl (cA 0, 6, .inl (fun _ => 0))), (r2 3, .inl (cA 0, 6, .inl (fun _ => 0))), (r2 4, .inl (cA 0, 6, .inl (fun _ => 0))), (r2 5, .inl (cA 0, 6, .inl (fun _ => 0)))])) rfl ?_
  refine eg_aload C rfl hl0 dX0_init_42 ?_
  refine eg_bipush C dX0_init_43 (v := 6) rfl ?_
  refine eg_bipush C dX0_init_45 (v := 64) rfl ?_
  refine eg_mna (t := 4) C (List.mem_of_getElem? (i := 74) (by decide +kernel)) (List.mem_of_getElem? (i := 55) (by decide +kernel)) hZ.1 rfl rfl (by decide) (by decide) (N' := 6) (K' := 64) rfl rfl (by decide) (by decide) (by decide) (by decide) dX0_init_47 (fun q3 r3 => ?_)
  refine eg_eq (ws' := (h0, .inr (0, [.int 0, .int 3, .int 5, .ref q0, .ref q1, .ref q2, .null, .null])) :: (((((([] ++ [(q0, .inl (cA 0, 6, .inl (fun _ => 0)))]) ++ [(q1, .inl (cA 0, 6, .inl (fun _ => 0)))]) ++ [(q2, .inl (cA 4, 6, .inr (.inr (.inr (.inr (fun i => if i < 6 then some (r2 i) else none))))))]) ++ [(r2 0, .inl (cA 0, 6, .inl (fun _ => 0))), (r2 1, .inl (cA 0, 6, .inl (fun _ => 0))), (r2 2, .inl (cA 0, 6, .inl (fun _ => 0))), (r2 3, .inl (cA 0, 6, .inl (fun _ => 0))), (r2 4, .inl (cA 0, 6, .inl (fun _ => 0))), (r2 5, .inl (cA 0, 6, .inl (fun _ => 0)))]) ++ [(q3, .inl (cA 4, 6, .inr (.inr (.inr (.inr (fun i => if i < 6 then some (r3 i) else none))))))]) ++ [(r3 0, .inl (cA 0, 64, .inl (fun _ => 0))), (r3 1, .inl (cA 0, 64, .inl (fun _ => 0))), (r3 2, .inl (cA 0, 64, .inl (fun _ => 0))), (r3 3, .inl (cA 0, 64, .inl (fun _ => 0))), (r3 4, .inl (cA 0, 64, .inl (fun _ => 0))), (r3 5, .inl (cA 0, 64, .inl (fun _ => 0)))])) rfl ?_
  refine eg_putF C hin fq_X0_30 (q0 := 0) rfl rfl rfl (Nat.le_of_ble_eq_true rfl) dX0_init_51 ?_
  refine eg_eq (ws' := (h0, .inr (0, [.int 0, .int 3, .int 5, .ref q0, .ref q1, .ref q2, .ref q3, .null])) :: (((((([] ++ [(q0, .inl (cA 0, 6, .inl (fun _ => 0)))]) ++ [(q1, .inl (cA 0, 6, .inl (fun _ => 0)))]) ++ [(q2, .inl (cA 4, 6, .inr (.inr (.inr (.inr (fun i => if i < 6 then some (r2 i) else none))))))]) ++ [(r2 0, .inl (cA 0, 6, .inl (fun _ => 0))), (r2 1, .inl (cA 0, 6, .inl (fun _ => 0))), (r2 2, .inl (cA 0, 6, .inl (fun _ => 0))), (r2 3, .inl (cA 0, 6, .inl (fun _ => 0))), (r2 4, .inl (cA 0, 6, .inl (fun _ => 0))), (r2 5, .inl (cA 0, 6, .inl (fun _ => 0)))]) ++ [(q3, .inl (cA 4, 6, .inr (.inr (.inr (.inr (fun i => if i < 6 then some (r3 i) else none))))))]) ++ [(r3 0, .inl (cA 0, 64, .inl (fun _ => 0))), (r3 1, .inl (cA 0, 64, .inl (fun _ => 0))), (r3 2, .inl (cA 0, 64, .inl (fun _ => 0))), (r3 3, .inl (cA 0, 64, .inl (fun _ => 0))), (r3 4, .inl (cA 0, 64, .inl (fun _ => 0))), (r3 5, .inl (cA 0, 64, .inl (fun _ => 0)))])) rfl ?_
  refine eg_aload C rfl hl0 dX0_init_54 ?_
  refine eg_bipush C dX0_init_55 (v := 6) rfl ?_
  refine eg_newa (t := 0) C (List.mem_of_getElem? (i := 55) (by decide +kernel)) rfl rfl rfl (by decide) (N' := 6) rfl (by decide) (by decide) (by decide) dX0_init_57 (fun q4 => ?_)
  refine eg_eq (ws' := (h0, .inr (0, [.int 0, .int 3, .int 5, .ref q0, .ref q1, .ref q2, .ref q3, .null])) :: ((((((([] ++ [(q0, .inl (cA 0, 6, .inl (fun _ => 0)))]) ++ [(q1, .inl (cA 0, 6, .inl (fun _ => 0)))]) ++ [(q2, .inl (cA 4, 6, .inr (.inr (.inr (.inr (fun i => if i < 6 then some (r2 i) else none))))))]) ++ [(r2 0, .inl (cA 0, 6, .inl (fun _ => 0))), (r2 1, .inl (cA 0, 6, .inl (fun _ => 0))), (r2 2, .inl (cA 0, 6, .inl (fun _ => 0))), (r2 3, .inl (cA 0, 6, .inl (fun _ => 0))), (r2 4, .inl (cA 0, 6, .inl (fun _ => 0))), (r2 5, .inl (cA 0, 6, .inl (fun _ => 0)))]) ++ [(q3, .inl (cA 4, 6, .inr (.inr (.inr (.inr (fun i => if i < 6 then some (r3 i) else none))))))]) ++ [(r3 0, .inl (cA 0, 64, .inl (fun _ => 0))), (r3 1, .inl (cA 0, 64, .inl (fun _ => 0))), (r3 2, .inl (cA 0, 64, .inl (fun _ => 0))), (r3 3, .inl (cA 0, 64, .inl (fun _ => 0))), (r3 4, .inl (cA 0, 64, .inl (fun _ => 0))), (r3 5, .inl (cA 0, 64, .inl (fun _ => 0)))]) ++ [(q4, .inl (cA 0, 6, .inl (fun _ => 0)))])) rfl ?_
  refine eg_putF C hin fq_X0_33 (q0 := 0) rfl rfl rfl (Nat.le_of_ble_eq_true rfl) dX0_init_59 ?_
  refine eg_eq (ws' := (h0, .inr (0, [.int 0, .int 3, .int 5, .ref q0, .ref q1, .ref q2, .ref q3, .ref q4])) :: ((((((([] ++ [(q0, .inl (cA 0, 6, .inl (fun _ => 0)))]) ++ [(q1, .inl (cA 0, 6, .inl (fun _ => 0)))]) ++ [(q2, .inl (cA 4, 6, .inr (.inr (.inr (.inr (fun i => if i < 6 then some (r2 i) else none))))))]) ++ [(r2 0, .inl (cA 0, 6, .inl (fun _ => 0))), (r2 1, .inl (cA 0, 6, .inl (fun _ => 0))), (r2 2, .inl (cA 0, 6, .inl (fun _ => 0))), (r2 3, .inl (cA 0, 6, .inl (fun _ => 0))), (r2 4, .inl (cA 0, 6, .inl (fun _ => 0))), (r2 5, .inl (cA 0, 6, .inl (fun _ => 0)))]) ++ [(q3, .inl (cA 4, 6, .inr (.inr (.inr (.inr (fun i => if i < 6 then some (r3 i) else none))))))]) ++ [(r3 0, .inl (cA 0, 64, .inl (fun _ => 0))), (r3 1, .inl (cA 0, 64, .inl (fun _ => 0))), (r3 2, .inl (cA 0, 64, .inl (fun _ => 0))), (r3 3, .inl (cA 0, 64, .inl (fun _ => 0))), (r3 4, .inl (cA 0, 64, .inl (fun _ => 0))), (r3 5, .inl (cA 0, 64, .inl (fun _ => 0)))]) ++ [(q4, .inl (cA 0, 6, .inl (fun _ => 0)))])) rfl ?_
  exact eg_ret (adr [h0, q0, q1, q2, (r2 0), (r2 1), (r2 2), (r2 3), (r2 4), (r2 5), q3, (r3 0), (r3 1), (r3 2), (r3 3), (r3 4), (r3 5), q4], (fun _ _ => 0, fun _ => 0)) C rfl trivial (fun H h => P_cons (h 0 _ rfl) (P_cons (h 1 _ rfl) (P_cons (h 2 _ rfl) (P_cons (at_arr (h 3 _ rfl) (all6 rfl rfl rfl rfl rfl rfl)) (P_cons (h 4 _ rfl) (P_cons (h 5 _ rfl) (P_cons (h 6 _ rfl) (P_cons (h 7 _ rfl) (P_cons (h 8 _ rfl) (P_cons (h 9 _ rfl) (P_cons (at_arr (h 10 _ rfl) (all6 rfl rfl rfl rfl rfl rfl)) (P_cons (h 11 _ rfl) (P_cons (h 12 _ rfl) (P_cons (h 13 _ rfl) (P_cons (h 14 _ rfl) (P_cons (h 15 _ rfl) (P_cons (h 16 _ rfl) (P_cons (h 17 _ rfl) P_nil)))))))))))))))))) (fun h => D_map h rfl) dX0_init_62
theorem fq_X5_9 : FQ RX5 9 5 1 (.array .int) := ⟨RX5, TX5, 7, "RegretPit$Planner", tyX5, rfl, by decide, List.mem_of_getElem? (i := 87) (by decide +kernel), inlX5, Or.inl rfl, tyX5_ok, nmX5, rfl, by decide +kernel, rfl⟩
theorem fq_X5_17 : FQ RX5 17 5 2 (.array (.array .int)) := ⟨RX5, TX5, 7, "RegretPit$Planner", tyX5, rfl, by decide, List.mem_of_getElem? (i := 89) (by decide +kernel), inlX5, Or.inl rfl, tyX5_ok, nmX5, rfl, by decide +kernel, rfl⟩
theorem fq_X5_20 : FQ RX5 20 5 3 (.array .int) := ⟨RX5, TX5, 7, "RegretPit$Planner", tyX5, rfl, by decide, List.mem_of_getElem? (i := 90) (by decide +kernel), inlX5, Or.inl rfl, tyX5_ok, nmX5, rfl, by decide +kernel, rfl⟩
def blkX5 (u : UU) (cA : Nat → ClassId) : va_W := [(u.1 0, .inr (5, [.int 0, .ref (u.1 1), .ref (u.1 2), .ref (u.1 7), .int 0, .int 0, .int 0])), (u.1 1, .inl (cA 0, 3, .inl (fun _ => 0))), (u.1 2, .inl (cA 4, 4, .inr (.inr (.inr (.inr (fun j => some (u.1 (3 + j)))))))), (u.1 3, .inl (cA 0, 6, .inl (fun _ => 0))), (u.1 4, .inl (cA 0, 6, .inl (fun _ => 0))), (u.1 5, .inl (cA 0, 6, .inl (fun _ => 0))), (u.1 6, .inl (cA 0, 6, .inl (fun _ => 0))), (u.1 7, .inl (cA 0, 3, .inl (fun _ => 0)))]
theorem ci_X5_init : CtI SX.2 yX5_init cX5_init 1 1 7 34 5 [.int 0, .null, .null, .null, .int 0, .int 0, .int 0] blkX5 (fun _ => True) := by
  refine cti_of (by decide) rfl (by decide) ?_
  intro p l e s m args below meth c D cA A ls h0 C hin hZ hls hl0
  refine eg_eq (ws' := (h0, .inr (5, [.int 0, .null, .null, .null, .int 0, .int 0, .int 0])) :: []) rfl ?_
  refine eg_aload C rfl hl0 dX5_init_0 ?_
  refine eg_obj C hls (List.mem_of_getElem? (i := 86) (by decide +kernel)) (List.mem_of_getElem? (i := 10) (by decide +kernel)) (List.mem_of_getElem? (i := 11) (by decide +kernel)) dX5_init_1 (by decide) (by decide) ?_
  refine eg_aload C rfl hl0 dX5_init_4 ?_
  refine eg_iconst C dX5_init_5 (v := 3) rfl ?_
  refine eg_newa (t := 0) C (List.mem_of_getElem? (i := 55) (by decide +kernel)) rfl rfl rfl (by decide) (N' := 3) rfl (by decide) (by decide) (by decide) dX5_init_6 (fun q0 => ?_)
  refine eg_eq (ws' := (h0, .inr (5, [.int 0, .null, .null, .null, .int 0, .int 0, .int 0])) :: ([] ++ [(q0, .inl (cA 0, 3, .inl (fun _ => 0)))])) rfl ?_
  refine eg_putF C hin fq_X5_9 (q0 := 0) rfl rfl rfl (Nat.le_of_ble_eq_true rfl) dX5_init_8 ?_
  refine eg_eq (ws' := (h0, .inr (5, [.int 0, .ref q0, .null, .null, .int 0, .int 0, .int 0])) :: ([] ++ [(q0, .inl (cA 0, 3, .inl (fun _ => 0)))])) rfl ?_
  refine eg_aload C rfl hl0 dX5_init_11 ?_
  refine eg_iconst C dX5_init_12 (v := 4) rfl ?_
  refine eg_bipush C dX5_init_13 (v := 6) rfl ?_
  refine eg_mna (t := 4) C (List.mem_of_getElem? (i := 88) (by decide +kernel)) (List.mem_of_getElem? (i := 55) (by decide +kernel)) hZ.1 rfl rfl (by decide) (by decide) (N' := 4) (K' := 6) rfl rfl (by decide) (by decide) (by decide) (by decide) dX5_init_15 (fun q1 r1 => ?_)
  refine eg_eq (ws' := (h0, .inr (5, [.int 0, .ref q0, .null, .null, .int 0, .int 0, .int 0])) :: ((([] ++ [(q0, .inl (cA 0, 3, .inl (fun _ => 0)))]) ++ [(q1, .inl (cA 4, 4, .inr (.inr (.inr (.inr (fun i => if i < 4 then some (r1 i) else none))))))]) ++ [(r1 0, .inl (cA 0, 6, .inl (fun _ => 0))), (r1 1, .inl (cA 0, 6, .inl (fun _ => 0))), (r1 2, .inl (cA 0, 6, .inl (fun _ => 0))), (r1 3, .inl (cA 0, 6, .inl (fun _ => 0)))])) rfl ?_
  refine eg_putF C hin fq_X5_17 (q0 := 0) rfl rfl rfl (Nat.le_of_ble_eq_true rfl) dX5_init_19 ?_
  refine eg_eq (ws' := (h0, .inr (5, [.int 0, .ref q0, .ref q1, .null, .int 0, .int 0, .int 0])) :: ((([] ++ [(q0, .inl (cA 0, 3, .inl (fun _ => 0)))]) ++ [(q1, .inl (cA 4, 4, .inr (.inr (.inr (.inr (fun i => if i < 4 then some (r1 i) else none))))))]) ++ [(r1 0, .inl (cA 0, 6, .inl (fun _ => 0))), (r1 1, .inl (cA 0, 6, .inl (fun _ => 0))), (r1 2, .inl (cA 0, 6, .inl (fun _ => 0))), (r1 3, .inl (cA 0, 6, .inl (fun _ => 0)))])) rfl ?_
  refine eg_aload C rfl hl0 dX5_init_22 ?_
  refine eg_iconst C dX5_init_23 (v := 3) rfl ?_
  refine eg_newa (t := 0) C (List.mem_of_getElem? (i := 55) (by decide +kernel)) rfl rfl rfl (by decide) (N' := 3) rfl (by decide) (by decide) (by decide) dX5_init_24 (fun q2 => ?_)
  refine eg_eq (ws' := (h0, .inr (5, [.int 0, .ref q0, .ref q1, .null, .int 0, .int 0, .int 0])) :: (((([] ++ [(q0, .inl (cA 0, 3, .inl (fun _ => 0)))]) ++ [(q1, .inl (cA 4, 4, .inr (.inr (.inr (.inr (fun i => if i < 4 then some (r1 i) else none))))))]) ++ [(r1 0, .inl (cA 0, 6, .inl (fun _ => 0))), (r1 1, .inl (cA 0, 6, .inl (fun _ => 0))), (r1 2, .inl (cA 0, 6, .inl (fun _ => 0))), (r1 3, .inl (cA 0, 6, .inl (fun _ => 0)))]) ++ [(q2, .inl (cA 0, 3, .inl (fun _ => 0)))])) rfl ?_
  refine eg_putF C hin fq_X5_20 (q0 := 0) rfl rfl rfl (Nat.le_of_ble_eq_true rfl) dX5_init_26 ?_
  refine eg_eq (ws' := (h0, .inr (5, [.int 0, .ref q0, .ref q1, .ref q2, .int 0, .int 0, .int 0])) :: (((([] ++ [(q0, .inl (cA 0, 3, .inl (fun _ => 0)))]) ++ [(q1, .inl (cA 4, 4, .inr (.inr (.inr (.inr (fun i => if i < 4 then some (r1 i) else none))))))]) ++ [(r1 0, .inl (cA 0, 6, .inl (fun _ => 0))), (r1 1, .inl (cA 0, 6, .inl (fun _ => 0))), (r1 2, .inl (cA 0, 6, .inl (fun _ => 0))), (r1 3, .inl (cA 0, 6, .inl (fun _ => 0)))]) ++ [(q2, .inl (cA 0, 3, .inl (fun _ => 0)))])) rfl ?_
  exact eg_ret (adr [h0, q0, q1, (r1 0), (r1 1), (r1 2), (r1 3), q2], (fun _ _ => 0, fun _ => 0)) C rfl trivial (fun H h => P_cons (h 0 _ rfl) (P_cons (h 1 _ rfl) (P_cons (at_arr (h 2 _ rfl) (all4 rfl rfl rfl rfl)) (P_cons (h 3 _ rfl) (P_cons (h 4 _ rfl) (P_cons (h 5 _ rfl) (P_cons (h 6 _ rfl) (P_cons (h 7 _ rfl) P_nil)))))))) (fun h => D_map h rfl) dX5_init_29
