/-! RegretPitModel(). -/
theorem fq_X12_7 : FQ RX12 7 12 1 (.array .byte) := ⟨RX12, TX12, 28, "RegretPitModel", tyX12, rfl, by decide, List.mem_of_getElem? (i := 114) (by decide +kernel), inlX12, Or.inl rfl, tyX12_ok, nmX12, rfl, by decide +kernel, rfl⟩
theorem fq_X12_13 : FQ RX12 13 12 3 (.array .int) := ⟨RX12, TX12, 28, "RegretPitModel", tyX12, rfl, by decide, List.mem_of_getElem? (i := 115) (by decide +kernel), inlX12, Or.inl rfl, tyX12_ok, nmX12, rfl, by decide +kernel, rfl⟩
theorem fq_X12_17 : FQ RX12 17 12 4 (.array .int) := ⟨RX12, TX12, 28, "RegretPitModel", tyX12, rfl, by decide, List.mem_of_getElem? (i := 116) (by decide +kernel), inlX12, Or.inl rfl, tyX12_ok, nmX12, rfl, by decide +kernel, rfl⟩
theorem fq_X12_20 : FQ RX12 20 12 5 (.array .int) := ⟨RX12, TX12, 28, "RegretPitModel", tyX12, rfl, by decide, List.mem_of_getElem? (i := 117) (by decide +kernel), inlX12, Or.inl rfl, tyX12_ok, nmX12, rfl, by decide +kernel, rfl⟩
theorem fq_X12_23 : FQ RX12 23 12 6 (.array .int) := ⟨RX12, TX12, 28, "RegretPitModel", tyX12, rfl, by decide, List.mem_of_getElem? (i := 118) (by decide +kernel), inlX12, Or.inl rfl, tyX12_ok, nmX12, rfl, by decide +kernel, rfl⟩
theorem fq_X12_26 : FQ RX12 26 12 7 (.array .int) := ⟨RX12, TX12, 28, "RegretPitModel", tyX12, rfl, by decide, List.mem_of_getElem? (i := 119) (by decide +kernel), inlX12, Or.inl rfl, tyX12_ok, nmX12, rfl, by decide +kernel, rfl⟩
theorem fq_X12_29 : FQ RX12 29 12 8 (.array .int) := ⟨RX12, TX12, 28, "RegretPitModel", tyX12, rfl, by decide, List.mem_of_getElem? (i := 120) (by decide +kernel), inlX12, Or.inl rfl, tyX12_ok, nmX12, rfl, by decide +kernel, rfl⟩
theorem fq_X12_32 : FQ RX12 32 12 16 (.array .int) := ⟨RX12, TX12, 28, "RegretPitModel", tyX12, rfl, by decide, List.mem_of_getElem? (i := 121) (by decide +kernel), inlX12, Or.inl rfl, tyX12_ok, nmX12, rfl, by decide +kernel, rfl⟩
theorem fq_X12_35 : FQ RX12 35 12 17 (.array .boolean) := ⟨RX12, TX12, 28, "RegretPitModel", tyX12, rfl, by decide, List.mem_of_getElem? (i := 122) (by decide +kernel), inlX12, Or.inl rfl, tyX12_ok, nmX12, rfl, by decide +kernel, rfl⟩
theorem fq_X12_39 : FQ RX12 39 12 18 (.array .int) := ⟨RX12, TX12, 28, "RegretPitModel", tyX12, rfl, by decide, List.mem_of_getElem? (i := 123) (by decide +kernel), inlX12, Or.inl rfl, tyX12_ok, nmX12, rfl, by decide +kernel, rfl⟩
theorem fq_X12_42 : FQ RX12 42 12 19 (.array .int) := ⟨RX12, TX12, 28, "RegretPitModel", tyX12, rfl, by decide, List.mem_of_getElem? (i := 124) (by decide +kernel), inlX12, Or.inl rfl, tyX12_ok, nmX12, rfl, by decide +kernel, rfl⟩
theorem fq_X12_45 : FQ RX12 45 12 20 (.array .int) := ⟨RX12, TX12, 28, "RegretPitModel", tyX12, rfl, by decide, List.mem_of_getElem? (i := 125) (by decide +kernel), inlX12, Or.inl rfl, tyX12_ok, nmX12, rfl, by decide +kernel, rfl⟩
theorem fq_X12_48 : FQ RX12 48 12 21 (.array .int) := ⟨RX12, TX12, 28, "RegretPitModel", tyX12, rfl, by decide, List.mem_of_getElem? (i := 126) (by decide +kernel), inlX12, Or.inl rfl, tyX12_ok, nmX12, rfl, by decide +kernel, rfl⟩
theorem fq_X12_51 : FQ RX12 51 12 22 (.array .int) := ⟨RX12, TX12, 28, "RegretPitModel", tyX12, rfl, by decide, List.mem_of_getElem? (i := 127) (by decide +kernel), inlX12, Or.inl rfl, tyX12_ok, nmX12, rfl, by decide +kernel, rfl⟩
theorem fq_X12_54 : FQ RX12 54 12 23 (.array .int) := ⟨RX12, TX12, 28, "RegretPitModel", tyX12, rfl, by decide, List.mem_of_getElem? (i := 128) (by decide +kernel), inlX12, Or.inl rfl, tyX12_ok, nmX12, rfl, by decide +kernel, rfl⟩
theorem fq_X12_57 : FQ RX12 57 12 25 (.array .int) := ⟨RX12, TX12, 28, "RegretPitModel", tyX12, rfl, by decide, List.mem_of_getElem? (i := 129) (by decide +kernel), inlX12, Or.inl rfl, tyX12_ok, nmX12, rfl, by decide +kernel, rfl⟩
theorem fq_X12_60 : FQ RX12 60 12 26 (.array .int) := ⟨RX12, TX12, 28, "RegretPitModel", tyX12, rfl, by decide, List.mem_of_getElem? (i := 130) (by decide +kernel), inlX12, Or.inl rfl, tyX12_ok, nmX12, rfl, by decide +kernel, rfl⟩
def s0M : St := (fun _ _ => 0, fun _ => 0)
/-- what stands in M at its beginning -/
def M0 (τ : St) : Prop := ∃ τ1, (τ1.2 = s0M.2 ∧ τ1.1 2 1 = 0 ∧ τ1.1 6 1 = 3 ∧ τ1.1 7 1 = 5 ∧ τ1.1 0 2 = 0) ∧ TD 0 τ1 τ ∧ τ.1 0 2 = τ1.1 0 2
def wM_raw (h0 q0 q1 q2 q3 q4 q5 q6 q7 q8 q9 q10 q11 q12 q13 q14 q15 q16 : Nat) (cA : Nat → ClassId) : va_W := (h0, .inr (12, [.long 0, .ref q0, .int 0, .ref q1, .ref q2, .ref q3, .ref q4, .ref q5, .ref q6, .int 0, .int 0, .int 0, .int 0, .int 0, .int 0, .int 0, .ref q7, .ref q8, .ref q9, .ref q10, .ref q11, .ref q12, .ref q13, .ref q14, .int 0, .ref q15, .ref q16, .int 0])) :: ((((((((((((((((([] ++ [(q0, .inl (cA 1, 150, .inl (fun _ => 0)))]) ++ [(q1, .inl (cA 0, 2, .inl (fun _ => 0)))]) ++ [(q2, .inl (cA 0, 12, .inl (fun _ => 0)))]) ++ [(q3, .inl (cA 0, 6, .inl (fun _ => 0)))]) ++ [(q4, .inl (cA 0, 72, .inl (fun _ => 0)))]) ++ [(q5, .inl (cA 0, 2, .inl (fun _ => 0)))]) ++ [(q6, .inl (cA 0, 2, .inl (fun _ => 0)))]) ++ [(q7, .inl (cA 0, 465, .inl (fun _ => 0)))]) ++ [(q8, .inl (cA 2, 2, .inl (fun _ => 0)))]) ++ [(q9, .inl (cA 0, 24, .inl (fun _ => 0)))]) ++ [(q10, .inl (cA 0, 36, .inl (fun _ => 0)))]) ++ [(q11, .inl (cA 0, 3, .inl (fun _ => 0)))]) ++ [(q12, .inl (cA 0, 6, .inl (fun _ => 0)))]) ++ [(q13, .inl (cA 0, 6, .inl (fun _ => 0)))]) ++ [(q14, .inl (cA 0, 6, .inl (fun _ => 0)))]) ++ [(q15, .inl (cA 0, 6, .inl (fun _ => 0)))]) ++ [(q16, .inl (cA 0, 6, .inl (fun _ => 0)))])
def wM_ad (h0 q0 q1 q2 q3 q4 q5 q6 q7 q8 q9 q10 q11 q12 q13 q14 q15 q16 : Nat) (cA : Nat → ClassId) : Nat → Nat := adr [h0, q0, q1, q2, q3, q4, q5, q6, q7, q8, q9, q10, q11, q12, q13, q14, q15, q16]
def wM_tgt (h0 q0 q1 q2 q3 q4 q5 q6 q7 q8 q9 q10 q11 q12 q13 q14 q15 q16 : Nat) (cA : Nat → ClassId) : va_W := [(h0, .inr (12, [.long 0, .ref q0, .int 0, .ref q1, .ref q2, .ref q3, .ref q4, .ref q5, .ref q6, .int 0, .int 0, .int 0, .int 0, .int 0, .int 0, .int 0, .ref q7, .ref q8, .ref q9, .ref q10, .ref q11, .ref q12, .ref q13, .ref q14, .int 0, .ref q15, .ref q16, .int 0])), (q0, .inl (cA 1, 150, .inl (fun _ => 0))), (q1, .inl (cA 0, 2, .inl (fun _ => 0))), (q2, .inl (cA 0, 12, .inl (fun _ => 0))), (q3, .inl (cA 0, 6, .inl (fun _ => 0))), (q4, .inl (cA 0, 72, .inl (fun _ => 0))), (q5, .inl (cA 0, 2, .inl (fun _ => 0))), (q6, .inl (cA 0, 2, .inl (fun _ => 0))), (q7, .inl (cA 0, 465, .inl (fun _ => 0))), (q8, .inl (cA 2, 2, .inl (fun _ => 0))), (q9, .inl (cA 0, 24, .inl (fun _ => 0))), (q10, .inl (cA 0, 36, .inl (fun _ => 0))), (q11, .inl (cA 0, 3, .inl (fun _ => 0))), (q12, .inl (cA 0, 6, .inl (fun _ => 0))), (q13, .inl (cA 0, 6, .inl (fun _ => 0))), (q14, .inl (cA 0, 6, .inl (fun _ => 0))), (q15, .inl (cA 0, 6, .inl (fun _ => 0))), (q16, .inl (cA 0, 6, .inl (fun _ => 0)))]
set_option maxRecDepth 100000 in
set_option maxHeartbeats 4000000 in
theorem wM_1 (h0 q0 q1 q2 q3 q4 q5 q6 q7 q8 q9 q10 q11 q12 q13 q14 q15 q16 : Nat) (cA : Nat → ClassId) : wd SM.1 (wM_ad h0 q0 q1 q2 q3 q4 q5 q6 q7 q8 q9 q10 q11 q12 q13 q14 q15 q16 cA) cA s0M = wM_tgt h0 q0 q1 q2 q3 q4 q5 q6 q7 q8 q9 q10 q11 q12 q13 q14 q15 q16 cA := rfl
theorem wM_2 (h0 q0 q1 q2 q3 q4 q5 q6 q7 q8 q9 q10 q11 q12 q13 q14 q15 q16 : Nat) (cA : Nat → ClassId) : wM_raw h0 q0 q1 q2 q3 q4 q5 q6 q7 q8 q9 q10 q11 q12 q13 q14 q15 q16 cA = wM_tgt h0 q0 q1 q2 q3 q4 q5 q6 q7 q8 q9 q10 q11 q12 q13 q14 q15 q16 cA := by
  simp only [wM_raw, wM_tgt, List.nil_append, List.cons_append, List.append_assoc]
theorem wM_eq (h0 q0 q1 q2 q3 q4 q5 q6 q7 q8 q9 q10 q11 q12 q13 q14 q15 q16 : Nat) (cA : Nat → ClassId) : wM_raw h0 q0 q1 q2 q3 q4 q5 q6 q7 q8 q9 q10 q11 q12 q13 q14 q15 q16 cA = [] ++ wd SM.1 (wM_ad h0 q0 q1 q2 q3 q4 q5 q6 q7 q8 q9 q10 q11 q12 q13 q14 q15 q16 cA) cA s0M := by rw [List.nil_append, wM_1, wM_2]
set_option maxRecDepth 100000 in
set_option maxHeartbeats 4000000 in
theorem ci_X12_init : CtI SM.2 yX12_init cX12_init 1 3 17 806 12 [.long 0, .null, .int 0, .null, .null, .null, .null, .null, .null, .int 0, .int 0, .int 0, .int 0, .int 0, .int 0, .int 0, .null, .null, .null, .null, .null, .null, .null, .null, .int 0, .null, .null, .int 0] (fun u cA => wd SM.1 u.1 cA u.2) (fun u => M0 u.2) := by
  refine cti_of (by decide) rfl (by decide) ?_
  intro p l e s m args below meth c D cA A ls h0 C hin hZ hls hl0
  refine eg_eq (ws' := (h0, .inr (12, [.long 0, .null, .int 0, .null, .null, .null, .null, .null, .null, .int 0, .int 0, .int 0, .int 0, .int 0, .int 0, .int 0, .null, .null, .null, .null, .null, .null, .null, .null, .int 0, .null, .null, .int 0])) :: []) rfl ?_
  refine eg_aload C rfl hl0 dX12_init_0 ?_
  refine eg_obj C hls (List.mem_of_getElem? (i := 112) (by decide +kernel)) (List.mem_of_getElem? (i := 10) (by decide +kernel)) (List.mem_of_getElem? (i := 11) (by decide +kernel)) dX12_init_1 (by decide) (by decide) ?_
  refine eg_aload C rfl hl0 dX12_init_4 ?_
  refine eg_sipush C dX12_init_5 (v := 150) rfl ?_
  refine eg_newa (t := 1) C (List.mem_of_getElem? (i := 113) (by decide +kernel)) rfl rfl rfl (by decide) (N' := 150) rfl (by decide) (by decide) (by decide) dX12_init_8 (fun q0 => ?_)
  refine eg_eq (ws' := (h0, .inr (12, [.long 0, .null, .int 0, .null, .null, .null, .null, .null, .null, .int 0, .int 0, .int 0, .int 0, .int 0, .int 0, .int 0, .null, .null, .null, .null, .null, .null, .null, .null, .int 0, .null, .null, .int 0])) :: ([] ++ [(q0, .inl (cA 1, 150, .inl (fun _ => 0)))])) rfl ?_
  refine eg_putF C hin fq_X12_7 (q0 := 0) rfl rfl rfl (Nat.le_of_ble_eq_true rfl) dX12_init_10 ?_
  refine eg_eq (ws' := (h0, .inr (12, [.long 0, .ref q0, .int 0, .null, .null, .null, .null, .null, .null, .int 0, .int 0, .int 0, .int 0, .int 0, .int 0, .int 0, .null, .null, .null, .null, .null, .null, .null, .null, .int 0, .null, .null, .int 0])) :: ([] ++ [(q0, .inl (cA 1, 150, .inl (fun _ => 0)))])) rfl ?_
  generalize hB1 : (([] ++ [(q0, .inl (cA 1, 150, .inl (fun _ => 0)))]) : va_W) = B1
  refine eg_aload C rfl hl0 dX12_init_13 ?_
  refine eg_iconst C dX12_init_14 (v := 2) rfl ?_
  refine eg_newa (t := 0) C (List.mem_of_getElem? (i := 55) (by decide +kernel)) rfl rfl rfl (by decide) (N' := 2) rfl (by decide) (by decide) (by decide) dX12_init_15 (fun q1 => ?_)
  refine eg_eq (ws' := (h0, .inr (12, [.long 0, .ref q0, .int 0, .null, .null, .null, .null, .null, .null, .int 0, .int 0, .int 0, .int 0, .int 0, .int 0, .int 0, .null, .null, .null, .null, .null, .null, .null, .null, .int 0, .null, .null, .int 0])) :: (B1 ++ [(q1, .inl (cA 0, 2, .inl (fun _ => 0)))])) rfl ?_
  refine eg_putF C hin fq_X12_13 (q0 := 0) rfl rfl rfl (Nat.le_of_ble_eq_true rfl) dX12_init_17 ?_
  refine eg_eq (ws' := (h0, .inr (12, [.long 0, .ref q0, .int 0, .ref q1, .null, .null, .null, .null, .null, .int 0, .int 0, .int 0, .int 0, .int 0, .int 0, .int 0, .null, .null, .null, .null, .null, .null, .null, .null, .int 0, .null, .null, .int 0])) :: (B1 ++ [(q1, .inl (cA 0, 2, .inl (fun _ => 0)))])) rfl ?_
  generalize hB2 : ((B1 ++ [(q1, .inl (cA 0, 2, .inl (fun _ => 0)))]) : va_W) = B2
  refine eg_aload C rfl hl0 dX12_init_20 ?_
  refine eg_bipush C dX12_init_21 (v := 12) rfl ?_
  refine eg_newa (t := 0) C (List.mem_of_getElem? (i := 55) (by decide +kernel)) rfl rfl rfl (by decide) (N' := 12) rfl (by decide) (by decide) (by decide) dX12_init_23 (fun q2 => ?_)
  refine eg_eq (ws' := (h0, .inr (12, [.long 0, .ref q0, .int 0, .ref q1, .null, .null, .null, .null, .null, .int 0, .int 0, .int 0, .int 0, .int 0, .int 0, .int 0, .null, .null, .null, .null, .null, .null, .null, .null, .int 0, .null, .null, .int 0])) :: (B2 ++ [(q2, .inl (cA 0, 12, .inl (fun _ => 0)))])) rfl ?_
  refine eg_putF C hin fq_X12_17 (q0 := 0) rfl rfl rfl (Nat.le_of_ble_eq_true rfl) dX12_init_25 ?_
  refine eg_eq (ws' := (h0, .inr (12, [.long 0, .ref q0, .int 0, .ref q1, .ref q2, .null, .null, .null, .null, .int 0, .int 0, .int 0, .int 0, .int 0, .int 0, .int 0, .null, .null, .null, .null, .null, .null, .null, .null, .int 0, .null, .null, .int 0])) :: (B2 ++ [(q2, .inl (cA 0, 12, .inl (fun _ => 0)))])) rfl ?_
  generalize hB3 : ((B2 ++ [(q2, .inl (cA 0, 12, .inl (fun _ => 0)))]) : va_W) = B3
  refine eg_aload C rfl hl0 dX12_init_28 ?_
  refine eg_bipush C dX12_init_29 (v := 6) rfl ?_
  refine eg_newa (t := 0) C (List.mem_of_getElem? (i := 55) (by decide +kernel)) rfl rfl rfl (by decide) (N' := 6) rfl (by decide) (by decide) (by decide) dX12_init_31 (fun q3 => ?_)
  refine eg_eq (ws' := (h0, .inr (12, [.long 0, .ref q0, .int 0, .ref q1, .ref q2, .null, .null, .null, .null, .int 0, .int 0, .int 0, .int 0, .int 0, .int 0, .int 0, .null, .null, .null, .null, .null, .null, .null, .null, .int 0, .null, .null, .int 0])) :: (B3 ++ [(q3, .inl (cA 0, 6, .inl (fun _ => 0)))])) rfl ?_
  refine eg_putF C hin fq_X12_20 (q0 := 0) rfl rfl rfl (Nat.le_of_ble_eq_true rfl) dX12_init_33 ?_
  refine eg_eq (ws' := (h0, .inr (12, [.long 0, .ref q0, .int 0, .ref q1, .ref q2, .ref q3, .null, .null, .null, .int 0, .int 0, .int 0, .int 0, .int 0, .int 0, .int 0, .null, .null, .null, .null, .null, .null, .null, .null, .int 0, .null, .null, .int 0])) :: (B3 ++ [(q3, .inl (cA 0, 6, .inl (fun _ => 0)))])) rfl ?_
  generalize hB4 : ((B3 ++ [(q3, .inl (cA 0, 6, .inl (fun _ => 0)))]) : va_W) = B4
  refine eg_aload C rfl hl0 dX12_init_36 ?_
  refine eg_bipush C dX12_init_37 (v := 72) rfl ?_
  refine eg_newa (t := 0) C (List.mem_of_getElem? (i := 55) (by decide +kernel)) rfl rfl rfl (by decide) (N' := 72) rfl (by decide) (by decide) (by decide) dX12_init_39 (fun q4 => ?_)
  refine eg_eq (ws' := (h0, .inr (12, [.long 0, .ref q0, .int 0, .ref q1, .ref q2, .ref q3, .null, .null, .null, .int 0, .int 0, .int 0, .int 0, .int 0, .int 0, .int 0, .null, .null, .null, .null, .null, .null, .null, .null, .int 0, .null, .null, .int 0])) :: (B4 ++ [(q4, .inl (cA 0, 72, .inl (fun _ => 0)))])) rfl ?_
  refine eg_putF C hin fq_X12_23 (q0 := 0) rfl rfl rfl (Nat.le_of_ble_eq_true rfl) dX12_init_41 ?_
  refine eg_eq (ws' := (h0, .inr (12, [.long 0, .ref q0, .int 0, .ref q1, .ref q2, .ref q3, .ref q4, .null, .null, .int 0, .int 0, .int 0, .int 0, .int 0, .int 0, .int 0, .null, .null, .null, .null, .null, .null, .null, .null, .int 0, .null, .null, .int 0])) :: (B4 ++ [(q4, .inl (cA 0, 72, .inl (fun _ => 0)))])) rfl ?_
  generalize hB5 : ((B4 ++ [(q4, .inl (cA 0, 72, .inl (fun _ => 0)))]) : va_W) = B5
  refine eg_aload C rfl hl0 dX12_init_44 ?_
  refine eg_iconst C dX12_init_45 (v := 2) rfl ?_
  refine eg_newa (t := 0) C (List.mem_of_getElem? (i := 55) (by decide +kernel)) rfl rfl rfl (by decide) (N' := 2) rfl (by decide) (by decide) (by decide) dX12_init_46 (fun q5 => ?_)
  refine eg_eq (ws' := (h0, .inr (12, [.long 0, .ref q0, .int 0, .ref q1, .ref q2, .ref q3, .ref q4, .null, .null, .int 0, .int 0, .int 0, .int 0, .int 0, .int 0, .int 0, .null, .null, .null, .null, .null, .null, .null, .null, .int 0, .null, .null, .int 0])) :: (B5 ++ [(q5, .inl (cA 0, 2, .inl (fun _ => 0)))])) rfl ?_
  refine eg_putF C hin fq_X12_26 (q0 := 0) rfl rfl rfl (Nat.le_of_ble_eq_true rfl) dX12_init_48 ?_
  refine eg_eq (ws' := (h0, .inr (12, [.long 0, .ref q0, .int 0, .ref q1, .ref q2, .ref q3, .ref q4, .ref q5, .null, .int 0, .int 0, .int 0, .int 0, .int 0, .int 0, .int 0, .null, .null, .null, .null, .null, .null, .null, .null, .int 0, .null, .null, .int 0])) :: (B5 ++ [(q5, .inl (cA 0, 2, .inl (fun _ => 0)))])) rfl ?_
  generalize hB6 : ((B5 ++ [(q5, .inl (cA 0, 2, .inl (fun _ => 0)))]) : va_W) = B6
  refine eg_aload C rfl hl0 dX12_init_51 ?_
  refine eg_iconst C dX12_init_52 (v := 2) rfl ?_
  refine eg_newa (t := 0) C (List.mem_of_getElem? (i := 55) (by decide +kernel)) rfl rfl rfl (by decide) (N' := 2) rfl (by decide) (by decide) (by decide) dX12_init_53 (fun q6 => ?_)
  refine eg_eq (ws' := (h0, .inr (12, [.long 0, .ref q0, .int 0, .ref q1, .ref q2, .ref q3, .ref q4, .ref q5, .null, .int 0, .int 0, .int 0, .int 0, .int 0, .int 0, .int 0, .null, .null, .null, .null, .null, .null, .null, .null, .int 0, .null, .null, .int 0])) :: (B6 ++ [(q6, .inl (cA 0, 2, .inl (fun _ => 0)))])) rfl ?_
  refine eg_putF C hin fq_X12_29 (q0 := 0) rfl rfl rfl (Nat.le_of_ble_eq_true rfl) dX12_init_55 ?_
  refine eg_eq (ws' := (h0, .inr (12, [.long 0, .ref q0, .int 0, .ref q1, .ref q2, .ref q3, .ref q4, .ref q5, .ref q6, .int 0, .int 0, .int 0, .int 0, .int 0, .int 0, .int 0, .null, .null, .null, .null, .null, .null, .null, .null, .int 0, .null, .null, .int 0])) :: (B6 ++ [(q6, .inl (cA 0, 2, .inl (fun _ => 0)))])) rfl ?_
  generalize hB7 : ((B6 ++ [(q6, .inl (cA 0, 2, .inl (fun _ => 0)))]) : va_W) = B7
  refine eg_aload C rfl hl0 dX12_init_58 ?_
  refine eg_sipush C dX12_init_59 (v := 465) rfl ?_
  refine eg_newa (t := 0) C (List.mem_of_getElem? (i := 55) (by decide +kernel)) rfl rfl rfl (by decide) (N' := 465) rfl (by decide) (by decide) (by decide) dX12_init_62 (fun q7 => ?_)
  refine eg_eq (ws' := (h0, .inr (12, [.long 0, .ref q0, .int 0, .ref q1, .ref q2, .ref q3, .ref q4, .ref q5, .ref q6, .int 0, .int 0, .int 0, .int 0, .int 0, .int 0, .int 0, .null, .null, .null, .null, .null, .null, .null, .null, .int 0, .null, .null, .int 0])) :: (B7 ++ [(q7, .inl (cA 0, 465, .inl (fun _ => 0)))])) rfl ?_
  refine eg_putF C hin fq_X12_32 (q0 := 0) rfl rfl rfl (Nat.le_of_ble_eq_true rfl) dX12_init_64 ?_
  refine eg_eq (ws' := (h0, .inr (12, [.long 0, .ref q0, .int 0, .ref q1, .ref q2, .ref q3, .ref q4, .ref q5, .ref q6, .int 0, .int 0, .int 0, .int 0, .int 0, .int 0, .int 0, .ref q7, .null, .null, .null, .null, .null, .null, .null, .int 0, .null, .null, .int 0])) :: (B7 ++ [(q7, .inl (cA 0, 465, .inl (fun _ => 0)))])) rfl ?_
  generalize hB8 : ((B7 ++ [(q7, .inl (cA 0, 465, .inl (fun _ => 0)))]) : va_W) = B8
  refine eg_aload C rfl hl0 dX12_init_67 ?_
  refine eg_iconst C dX12_init_68 (v := 2) rfl ?_
  refine eg_newa (t := 2) C (List.mem_of_getElem? (i := 26) (by decide +kernel)) rfl rfl rfl (by decide) (N' := 2) rfl (by decide) (by decide) (by decide) dX12_init_69 (fun q8 => ?_)
  refine eg_eq (ws' := (h0, .inr (12, [.long 0, .ref q0, .int 0, .ref q1, .ref q2, .ref q3, .ref q4, .ref q5, .ref q6, .int 0, .int 0, .int 0, .int 0, .int 0, .int 0, .int 0, .ref q7, .null, .null, .null, .null, .null, .null, .null, .int 0, .null, .null, .int 0])) :: (B8 ++ [(q8, .inl (cA 2, 2, .inl (fun _ => 0)))])) rfl ?_
  refine eg_putF C hin fq_X12_35 (q0 := 0) rfl rfl rfl (Nat.le_of_ble_eq_true rfl) dX12_init_71 ?_
  refine eg_eq (ws' := (h0, .inr (12, [.long 0, .ref q0, .int 0, .ref q1, .ref q2, .ref q3, .ref q4, .ref q5, .ref q6, .int 0, .int 0, .int 0, .int 0, .int 0, .int 0, .int 0, .ref q7, .ref q8, .null, .null, .null, .null, .null, .null, .int 0, .null, .null, .int 0])) :: (B8 ++ [(q8, .inl (cA 2, 2, .inl (fun _ => 0)))])) rfl ?_
  generalize hB9 : ((B8 ++ [(q8, .inl (cA 2, 2, .inl (fun _ => 0)))]) : va_W) = B9
  refine eg_aload C rfl hl0 dX12_init_74 ?_
  refine eg_bipush C dX12_init_75 (v := 24) rfl ?_
  refine eg_newa (t := 0) C (List.mem_of_getElem? (i := 55) (by decide +kernel)) rfl rfl rfl (by decide) (N' := 24) rfl (by decide) (by decide) (by decide) dX12_init_77 (fun q9 => ?_)
  refine eg_eq (ws' := (h0, .inr (12, [.long 0, .ref q0, .int 0, .ref q1, .ref q2, .ref q3, .ref q4, .ref q5, .ref q6, .int 0, .int 0, .int 0, .int 0, .int 0, .int 0, .int 0, .ref q7, .ref q8, .null, .null, .null, .null, .null, .null, .int 0, .null, .null, .int 0])) :: (B9 ++ [(q9, .inl (cA 0, 24, .inl (fun _ => 0)))])) rfl ?_
  refine eg_putF C hin fq_X12_39 (q0 := 0) rfl rfl rfl (Nat.le_of_ble_eq_true rfl) dX12_init_79 ?_
  refine eg_eq (ws' := (h0, .inr (12, [.long 0, .ref q0, .int 0, .ref q1, .ref q2, .ref q3, .ref q4, .ref q5, .ref q6, .int 0, .int 0, .int 0, .int 0, .int 0, .int 0, .int 0, .ref q7, .ref q8, .ref q9, .null, .null, .null, .null, .null, .int 0, .null, .null, .int 0])) :: (B9 ++ [(q9, .inl (cA 0, 24, .inl (fun _ => 0)))])) rfl ?_
  generalize hB10 : ((B9 ++ [(q9, .inl (cA 0, 24, .inl (fun _ => 0)))]) : va_W) = B10
  refine eg_aload C rfl hl0 dX12_init_82 ?_
  refine eg_bipush C dX12_init_83 (v := 36) rfl ?_
  refine eg_newa (t := 0) C (List.mem_of_getElem? (i := 55) (by decide +kernel)) rfl rfl rfl (by decide) (N' := 36) rfl (by decide) (by decide) (by decide) dX12_init_85 (fun q10 => ?_)
  refine eg_eq (ws' := (h0, .inr (12, [.long 0, .ref q0, .int 0, .ref q1, .ref q2, .ref q3, .ref q4, .ref q5, .ref q6, .int 0, .int 0, .int 0, .int 0, .int 0, .int 0, .int 0, .ref q7, .ref q8, .ref q9, .null, .null, .null, .null, .null, .int 0, .null, .null, .int 0])) :: (B10 ++ [(q10, .inl (cA 0, 36, .inl (fun _ => 0)))])) rfl ?_
  refine eg_putF C hin fq_X12_42 (q0 := 0) rfl rfl rfl (Nat.le_of_ble_eq_true rfl) dX12_init_87 ?_
  refine eg_eq (ws' := (h0, .inr (12, [.long 0, .ref q0, .int 0, .ref q1, .ref q2, .ref q3, .ref q4, .ref q5, .ref q6, .int 0, .int 0, .int 0, .int 0, .int 0, .int 0, .int 0, .ref q7, .ref q8, .ref q9, .ref q10, .null, .null, .null, .null, .int 0, .null, .null, .int 0])) :: (B10 ++ [(q10, .inl (cA 0, 36, .inl (fun _ => 0)))])) rfl ?_
  generalize hB11 : ((B10 ++ [(q10, .inl (cA 0, 36, .inl (fun _ => 0)))]) : va_W) = B11
  refine eg_aload C rfl hl0 dX12_init_90 ?_
  refine eg_iconst C dX12_init_91 (v := 3) rfl ?_
  refine eg_newa (t := 0) C (List.mem_of_getElem? (i := 55) (by decide +kernel)) rfl rfl rfl (by decide) (N' := 3) rfl (by decide) (by decide) (by decide) dX12_init_92 (fun q11 => ?_)
  refine eg_eq (ws' := (h0, .inr (12, [.long 0, .ref q0, .int 0, .ref q1, .ref q2, .ref q3, .ref q4, .ref q5, .ref q6, .int 0, .int 0, .int 0, .int 0, .int 0, .int 0, .int 0, .ref q7, .ref q8, .ref q9, .ref q10, .null, .null, .null, .null, .int 0, .null, .null, .int 0])) :: (B11 ++ [(q11, .inl (cA 0, 3, .inl (fun _ => 0)))])) rfl ?_
  refine eg_putF C hin fq_X12_45 (q0 := 0) rfl rfl rfl (Nat.le_of_ble_eq_true rfl) dX12_init_94 ?_
  refine eg_eq (ws' := (h0, .inr (12, [.long 0, .ref q0, .int 0, .ref q1, .ref q2, .ref q3, .ref q4, .ref q5, .ref q6, .int 0, .int 0, .int 0, .int 0, .int 0, .int 0, .int 0, .ref q7, .ref q8, .ref q9, .ref q10, .ref q11, .null, .null, .null, .int 0, .null, .null, .int 0])) :: (B11 ++ [(q11, .inl (cA 0, 3, .inl (fun _ => 0)))])) rfl ?_
  generalize hB12 : ((B11 ++ [(q11, .inl (cA 0, 3, .inl (fun _ => 0)))]) : va_W) = B12
  refine eg_aload C rfl hl0 dX12_init_97 ?_
  refine eg_bipush C dX12_init_98 (v := 6) rfl ?_
  refine eg_newa (t := 0) C (List.mem_of_getElem? (i := 55) (by decide +kernel)) rfl rfl rfl (by decide) (N' := 6) rfl (by decide) (by decide) (by decide) dX12_init_100 (fun q12 => ?_)
  refine eg_eq (ws' := (h0, .inr (12, [.long 0, .ref q0, .int 0, .ref q1, .ref q2, .ref q3, .ref q4, .ref q5, .ref q6, .int 0, .int 0, .int 0, .int 0, .int 0, .int 0, .int 0, .ref q7, .ref q8, .ref q9, .ref q10, .ref q11, .null, .null, .null, .int 0, .null, .null, .int 0])) :: (B12 ++ [(q12, .inl (cA 0, 6, .inl (fun _ => 0)))])) rfl ?_
  refine eg_putF C hin fq_X12_48 (q0 := 0) rfl rfl rfl (Nat.le_of_ble_eq_true rfl) dX12_init_102 ?_
  refine eg_eq (ws' := (h0, .inr (12, [.long 0, .ref q0, .int 0, .ref q1, .ref q2, .ref q3, .ref q4, .ref q5, .ref q6, .int 0, .int 0, .int 0, .int 0, .int 0, .int 0, .int 0, .ref q7, .ref q8, .ref q9, .ref q10, .ref q11, .ref q12, .null, .null, .int 0, .null, .null, .int 0])) :: (B12 ++ [(q12, .inl (cA 0, 6, .inl (fun _ => 0)))])) rfl ?_
  generalize hB13 : ((B12 ++ [(q12, .inl (cA 0, 6, .inl (fun _ => 0)))]) : va_W) = B13
  refine eg_aload C rfl hl0 dX12_init_105 ?_
  refine eg_bipush C dX12_init_106 (v := 6) rfl ?_
  refine eg_newa (t := 0) C (List.mem_of_getElem? (i := 55) (by decide +kernel)) rfl rfl rfl (by decide) (N' := 6) rfl (by decide) (by decide) (by decide) dX12_init_108 (fun q13 => ?_)
  refine eg_eq (ws' := (h0, .inr (12, [.long 0, .ref q0, .int 0, .ref q1, .ref q2, .ref q3, .ref q4, .ref q5, .ref q6, .int 0, .int 0, .int 0, .int 0, .int 0, .int 0, .int 0, .ref q7, .ref q8, .ref q9, .ref q10, .ref q11, .ref q12, .null, .null, .int 0, .null, .null, .int 0])) :: (B13 ++ [(q13, .inl (cA 0, 6, .inl (fun _ => 0)))])) rfl ?_
  refine eg_putF C hin fq_X12_51 (q0 := 0) rfl rfl rfl (Nat.le_of_ble_eq_true rfl) dX12_init_110 ?_
  refine eg_eq (ws' := (h0, .inr (12, [.long 0, .ref q0, .int 0, .ref q1, .ref q2, .ref q3, .ref q4, .ref q5, .ref q6, .int 0, .int 0, .int 0, .int 0, .int 0, .int 0, .int 0, .ref q7, .ref q8, .ref q9, .ref q10, .ref q11, .ref q12, .ref q13, .null, .int 0, .null, .null, .int 0])) :: (B13 ++ [(q13, .inl (cA 0, 6, .inl (fun _ => 0)))])) rfl ?_
  generalize hB14 : ((B13 ++ [(q13, .inl (cA 0, 6, .inl (fun _ => 0)))]) : va_W) = B14
  refine eg_aload C rfl hl0 dX12_init_113 ?_
  refine eg_bipush C dX12_init_114 (v := 6) rfl ?_
  refine eg_newa (t := 0) C (List.mem_of_getElem? (i := 55) (by decide +kernel)) rfl rfl rfl (by decide) (N' := 6) rfl (by decide) (by decide) (by decide) dX12_init_116 (fun q14 => ?_)
  refine eg_eq (ws' := (h0, .inr (12, [.long 0, .ref q0, .int 0, .ref q1, .ref q2, .ref q3, .ref q4, .ref q5, .ref q6, .int 0, .int 0, .int 0, .int 0, .int 0, .int 0, .int 0, .ref q7, .ref q8, .ref q9, .ref q10, .ref q11, .ref q12, .ref q13, .null, .int 0, .null, .null, .int 0])) :: (B14 ++ [(q14, .inl (cA 0, 6, .inl (fun _ => 0)))])) rfl ?_
  refine eg_putF C hin fq_X12_54 (q0 := 0) rfl rfl rfl (Nat.le_of_ble_eq_true rfl) dX12_init_118 ?_
  refine eg_eq (ws' := (h0, .inr (12, [.long 0, .ref q0, .int 0, .ref q1, .ref q2, .ref q3, .ref q4, .ref q5, .ref q6, .int 0, .int 0, .int 0, .int 0, .int 0, .int 0, .int 0, .ref q7, .ref q8, .ref q9, .ref q10, .ref q11, .ref q12, .ref q13, .ref q14, .int 0, .null, .null, .int 0])) :: (B14 ++ [(q14, .inl (cA 0, 6, .inl (fun _ => 0)))])) rfl ?_
  generalize hB15 : ((B14 ++ [(q14, .inl (cA 0, 6, .inl (fun _ => 0)))]) : va_W) = B15
  refine eg_aload C rfl hl0 dX12_init_121 ?_
  refine eg_bipush C dX12_init_122 (v := 6) rfl ?_
  refine eg_newa (t := 0) C (List.mem_of_getElem? (i := 55) (by decide +kernel)) rfl rfl rfl (by decide) (N' := 6) rfl (by decide) (by decide) (by decide) dX12_init_124 (fun q15 => ?_)
  refine eg_eq (ws' := (h0, .inr (12, [.long 0, .ref q0, .int 0, .ref q1, .ref q2, .ref q3, .ref q4, .ref q5, .ref q6, .int 0, .int 0, .int 0, .int 0, .int 0, .int 0, .int 0, .ref q7, .ref q8, .ref q9, .ref q10, .ref q11, .ref q12, .ref q13, .ref q14, .int 0, .null, .null, .int 0])) :: (B15 ++ [(q15, .inl (cA 0, 6, .inl (fun _ => 0)))])) rfl ?_
  refine eg_putF C hin fq_X12_57 (q0 := 0) rfl rfl rfl (Nat.le_of_ble_eq_true rfl) dX12_init_126 ?_
  refine eg_eq (ws' := (h0, .inr (12, [.long 0, .ref q0, .int 0, .ref q1, .ref q2, .ref q3, .ref q4, .ref q5, .ref q6, .int 0, .int 0, .int 0, .int 0, .int 0, .int 0, .int 0, .ref q7, .ref q8, .ref q9, .ref q10, .ref q11, .ref q12, .ref q13, .ref q14, .int 0, .ref q15, .null, .int 0])) :: (B15 ++ [(q15, .inl (cA 0, 6, .inl (fun _ => 0)))])) rfl ?_
  generalize hB16 : ((B15 ++ [(q15, .inl (cA 0, 6, .inl (fun _ => 0)))]) : va_W) = B16
  refine eg_aload C rfl hl0 dX12_init_129 ?_
  refine eg_bipush C dX12_init_130 (v := 6) rfl ?_
  refine eg_newa (t := 0) C (List.mem_of_getElem? (i := 55) (by decide +kernel)) rfl rfl rfl (by decide) (N' := 6) rfl (by decide) (by decide) (by decide) dX12_init_132 (fun q16 => ?_)
  refine eg_eq (ws' := (h0, .inr (12, [.long 0, .ref q0, .int 0, .ref q1, .ref q2, .ref q3, .ref q4, .ref q5, .ref q6, .int 0, .int 0, .int 0, .int 0, .int 0, .int 0, .int 0, .ref q7, .ref q8, .ref q9, .ref q10, .ref q11, .ref q12, .ref q13, .ref q14, .int 0, .ref q15, .null, .int 0])) :: (B16 ++ [(q16, .inl (cA 0, 6, .inl (fun _ => 0)))])) rfl ?_
  refine eg_putF C hin fq_X12_60 (q0 := 0) rfl rfl rfl (Nat.le_of_ble_eq_true rfl) dX12_init_134 ?_
  refine eg_eq (ws' := (h0, .inr (12, [.long 0, .ref q0, .int 0, .ref q1, .ref q2, .ref q3, .ref q4, .ref q5, .ref q6, .int 0, .int 0, .int 0, .int 0, .int 0, .int 0, .int 0, .ref q7, .ref q8, .ref q9, .ref q10, .ref q11, .ref q12, .ref q13, .ref q14, .int 0, .ref q15, .ref q16, .int 0])) :: (B16 ++ [(q16, .inl (cA 0, 6, .inl (fun _ => 0)))])) rfl ?_
  generalize hB17 : ((B16 ++ [(q16, .inl (cA 0, 6, .inl (fun _ => 0)))]) : va_W) = B17
  subst hB17 hB16 hB15 hB14 hB13 hB12 hB11 hB10 hB9 hB8 hB7 hB6 hB5 hB4 hB3 hB2 hB1
  refine eg_eq (wM_eq h0 q0 q1 q2 q3 q4 q5 q6 q7 q8 q9 q10 q11 q12 q13 q14 q15 q16 cA) ?_
  have had : wM_ad h0 q0 q1 q2 q3 q4 q5 q6 q7 q8 q9 q10 q11 q12 q13 q14 q15 q16 cA 0 = h0 := rfl
  generalize wM_ad h0 q0 q1 q2 q3 q4 q5 q6 q7 q8 q9 q10 q11 q12 q13 q14 q15 q16 cA = ad at had ⊢
  subst had
  refine eg_aload C rfl hl0 dX12_init_137 ?_
  refine eg_Vv (sd := SM) (c0 := 0) (As := []) (post := fun τ1 => τ1.2 = s0M.2 ∧ τ1.1 2 1 = 0 ∧ τ1.1 6 1 = 3 ∧ τ1.1 7 1 = 5 ∧ τ1.1 0 2 = 0) C C.2.2.2.2.2.2.2.2 hls (c_X12_plain _ _ (m_plain (fun τ' e1 e2 e3 e4 e5 e6 e7 e8 e9 e10 e11 e12 => ⟨e1, e7, e9, e11, e3 2 (by omega) (by omega)⟩))) wv_X12_63_X12_plain rfl (by decide) rfl ⟨by decide, by decide⟩ rfl (Nat.le_of_ble_eq_true rfl) rfl dX12_init_138 ⟨by decide, by decide⟩ (fun τ1 hτ1 => ?_)
  refine eg_aload C rfl hl0 dX12_init_141 ?_
  refine eg_Vv (sd := SM) (c0 := 0) (As := []) (post := fun τ => M0 τ) C C.2.2.2.2.2.2.2.2 hls (c_X12_takeDraft _ _ (m_takeDraft2 (N := 0) (by omega) hτ1.2.1 (fun τ' h1 h2 => ⟨τ1, hτ1, h1, h2⟩))) wv_X12_66_X12_takeDraft rfl (by decide) rfl ⟨by decide, by decide⟩ rfl (Nat.le_of_ble_eq_true rfl) rfl dX12_init_142 ⟨by decide, by decide⟩ (fun τ hτ => ?_)
  exact eg_ret (ad, τ) C rfl hτ (fun H h => h) (fun h => h) dX12_init_145
