/-! The law's start. -/
theorem wi_X11_init : CWc yX11_init cX11_init 1 none 0 := ⟨List.mem_of_getElem? (i := 8) (by decide +kernel), List.mem_of_getElem? (i := 2) (by decide +kernel), by decide +kernel, by decide⟩
theorem wi_X12_init : CWc yX12_init cX12_init 1 none 0 := ⟨List.mem_of_getElem? (i := 111) (by decide +kernel), List.mem_of_getElem? (i := 5) (by decide +kernel), by decide +kernel, by decide⟩
theorem arr_known {s : State} {args : Array Value} {ty : FieldType} (h : (Cond.arrayClass ty).before args s = true) (hn : ∀ C, ty ≠ .object C) : ∃ cA, ArrOfT s cA ty ∧ va_RA s cA ty := by
  obtain ⟨cA, k, comp, h1, h2, h3⟩ := Cond.arrayClass_spec h
  refine ⟨cA, fun N z => ⟨(fun k h => by cases h), k, h2, comp, h3⟩, ?_⟩
  cases ty with
  | object C => exact absurd rfl (hn C)
  | _ => exact h1
theorem arr_knownO {s : State} {C : String} (h : va_AO C s) : ∃ cA, ArrOfT s cA (.object C) ∧ va_RA s cA (.object C) := by
  obtain ⟨comp, cA, k, h1, h2, h3, h4, h5⟩ := Cond.arrayOver_spec h
  exact ⟨cA, fun N z => ⟨(fun k h => by cases h), k, h3, comp, h4⟩, k, comp, h3, h4, h1, h5⟩
theorem arr_knownA {s : State} {ty : FieldType} (h : va_AOA ty s) : ∃ cA, ArrOfT s cA (.array ty) ∧ va_RA s cA (.array ty) := by
  obtain ⟨comp, cA, k, h1, h3, h4, h5⟩ := Cond.arrayOver_specA h
  exact ⟨cA, fun N z => ⟨(fun k h => by cases h), k, h3, comp, h4⟩, h5⟩
set_option maxRecDepth 100000 in
set_option maxHeartbeats 4000000 in
theorem whole_start {p : Program} {e : Env} {s : State} {m : MethodId} {below : List Frame} {meth : Method} {c : Code} (l : Launch) {b L : Nat} {xs : Nat → Int32} (hL : L ≤ 256) (C0 : lw_At p s m meth c b L xs) : W p l e room_1 s m #[Value.ref b] below meth c s.heap [] 0 0 (lw_Z below #[Value.ref b] s) (entryFrame m ([Value.ref b] : List Value).toArray 4) := by
  obtain ⟨hx, hb, hr, hml, hown, hts, hX, hbl, hlocks, hgv⟩ := id C0
  have htw : ∀ w ∈ wsL_law, w.before #[Value.ref b] s = true := fun w hw => hts w (in_all w hw)
  have hZ : ZZ s := zz_of hts
  obtain ⟨k0, i0, hk0⟩ := u_known (C := RX0) (T := TX0) (N := 8) (n := 8) htw inlX0 (htw _ (List.mem_of_getElem? (i := 17) (by decide +kernel)))
  obtain ⟨k1, i1, hk1⟩ := u_known (C := RX1) (T := TX1) (N := 1) (n := 1) htw inlX1 (htw _ (List.mem_of_getElem? (i := 52) (by decide +kernel)))
  obtain ⟨k2, i2, hk2⟩ := u_known (C := RX2) (T := TX2) (N := 1) (n := 1) htw inlX2 (htw _ (List.mem_of_getElem? (i := 37) (by decide +kernel)))
  obtain ⟨k3, i3, hk3⟩ := u_known (C := RX3) (T := TX3) (N := 3) (n := 3) htw inlX3 (htw _ (List.mem_of_getElem? (i := 33) (by decide +kernel)))
  obtain ⟨k4, i4, hk4⟩ := u_known (C := RX4) (T := TX4) (N := 6) (n := 6) htw inlX4 (htw _ (List.mem_of_getElem? (i := 22) (by decide +kernel)))
  obtain ⟨k5, i5, hk5⟩ := u_known (C := RX5) (T := TX5) (N := 7) (n := 7) htw inlX5 (htw _ (List.mem_of_getElem? (i := 29) (by decide +kernel)))
  obtain ⟨k6, i6, hk6⟩ := u_known (C := RX6) (T := TX6) (N := 1) (n := 1) htw inlX6 (htw _ (List.mem_of_getElem? (i := 43) (by decide +kernel)))
  obtain ⟨k7, i7, hk7⟩ := u_known (C := RX7) (T := TX7) (N := 1) (n := 1) htw inlX7 (htw _ (List.mem_of_getElem? (i := 46) (by decide +kernel)))
  obtain ⟨k8, i8, hk8⟩ := u_known (C := RX8) (T := TX8) (N := 1) (n := 1) htw inlX8 (htw _ (List.mem_of_getElem? (i := 49) (by decide +kernel)))
  obtain ⟨k9, i9, hk9⟩ := u_known (C := RX9) (T := TX9) (N := 1) (n := 1) htw inlX9 (htw _ (List.mem_of_getElem? (i := 40) (by decide +kernel)))
  obtain ⟨k10, i10, hk10⟩ := u_known (C := RX10) (T := TX10) (N := 9) (n := 9) htw inlX10 (htw _ (List.mem_of_getElem? (i := 13) (by decide +kernel)))
  obtain ⟨k11, i11, hk11⟩ := u_known (C := RX11) (T := TX11) (N := 18) (n := 18) htw inlX11 (htw _ (List.mem_of_getElem? (i := 1) (by decide +kernel)))
  obtain ⟨k12, i12, hk12⟩ := u_known (C := RX12) (T := TX12) (N := 28) (n := 28) htw inlX12 (htw _ (List.mem_of_getElem? (i := 4) (by decide +kernel)))
  obtain ⟨D, hKc⟩ : ∃ D : va_G, ∀ (k : Nat) (q : vw_C), vwCl[k]? = some q → u_Kn s q.1 q.2.1 q.2.2 (D.1 k) (D.2 k) := by
    refine ⟨(fun k => if k = 0 then k0 else if k = 1 then k1 else if k = 2 then k2 else if k = 3 then k3 else if k = 4 then k4 else if k = 5 then k5 else if k = 6 then k6 else if k = 7 then k7 else if k = 8 then k8 else if k = 9 then k9 else if k = 10 then k10 else if k = 11 then k11 else k12, fun k => if k = 0 then i0 else if k = 1 then i1 else if k = 2 then i2 else if k = 3 then i3 else if k = 4 then i4 else if k = 5 then i5 else if k = 6 then i6 else if k = 7 then i7 else if k = 8 then i8 else if k = 9 then i9 else if k = 10 then i10 else if k = 11 then i11 else i12), ?_⟩
    intro k q hq
    match k, hq with
    | 0, hq => cases hq; exact hk0
    | 1, hq => cases hq; exact hk1
    | 2, hq => cases hq; exact hk2
    | 3, hq => cases hq; exact hk3
    | 4, hq => cases hq; exact hk4
    | 5, hq => cases hq; exact hk5
    | 6, hq => cases hq; exact hk6
    | 7, hq => cases hq; exact hk7
    | 8, hq => cases hq; exact hk8
    | 9, hq => cases hq; exact hk9
    | 10, hq => cases hq; exact hk10
    | 11, hq => cases hq; exact hk11
    | 12, hq => cases hq; exact hk12
    | k + 13, hq => exact absurd hq (by simp)
  obtain ⟨a0, ha0⟩ := arr_known (ty := .int) (htw _ (List.mem_of_getElem? (i := 55) (by decide +kernel))) (fun _ h => by cases h)
  obtain ⟨a1, ha1⟩ := arr_known (ty := .boolean) (htw _ (List.mem_of_getElem? (i := 26) (by decide +kernel))) (fun _ h => by cases h)
  obtain ⟨a5, ha5⟩ := arr_known (ty := .byte) (htw _ (List.mem_of_getElem? (i := 113) (by decide +kernel))) (fun _ h => by cases h)
  obtain ⟨a2, ha2⟩ := arr_knownO hZ.2.1
  obtain ⟨a3, ha3⟩ := arr_knownO hZ.2.2.1
  obtain ⟨a4, ha4⟩ := arr_knownA hZ.1
  have hKX : va_K D vwCl (tyk (fun t => if t = 0 then a0 else if t = 1 then a1 else if t = 2 then a2 else if t = 3 then a3 else a4) SX.2) s := ⟨hKc, fun k q hq => by
    match k, hq with
    | 0, hq => cases hq; exact ha0
    | 1, hq => cases hq; exact ha1
    | 2, hq => cases hq; exact ha2
    | 3, hq => cases hq; exact ha3
    | 4, hq => cases hq; exact ha4
    | k + 5, hq => cases hq⟩
  have hKM : va_K D vwCl (tyk (fun t => if t = 0 then a0 else if t = 1 then a5 else a1) SM.2) s := ⟨hKc, fun k q hq => by
    match k, hq with
    | 0, hq => cases hq; exact ha0
    | 1, hq => cases hq; exact ha5
    | 2, hq => cases hq; exact ha1
    | k + 3, hq => cases hq⟩
  generalize (fun t => if t = 0 then a0 else if t = 1 then a1 else if t = 2 then a2 else if t = 3 then a3 else a4) = cX at hKX
  generalize (fun t => if t = 0 then a0 else if t = 1 then a5 else a1) = cM at hKM
  have C : Cx SX.2 RL cL_law 4 ret p s m #[Value.ref b] meth c D cX (fun q => s.heap.size ≤ q) := ⟨hx, hb, hr, hml, hown, htw, hlocks, fun _ h => h, hKX⟩
  have HC : LC p s m meth c b L xs D cX cM := ⟨C, hKM, hX, hbl, hL⟩
  have hl := lv_entry ([.ref b]) (n := 4) (Nat.le_of_ble_eq_true rfl)
  rw [lg_entry_eq]
  generalize (lg_sl ([.ref b]) ++ List.replicate (4 - (lg_sl ([.ref b])).length) Slot.unset).toArray = ls at hl ⊢
  have hl : lv_has ls 4 [(0, .ref b)] := hl
  have start : Eg p l e room_1 s m #[Value.ref b] below meth c (lw_Z below #[Value.ref b] s) ls D (fun q => s.heap.size ≤ q) 0 [] [] 0 0 := by
    refine eg_new (ci := 11) (ty0 := tyX11) (fs := [.null, .null, .null, .null, .null, .null, .null, .null, .null, .null, .null, .null, .null, .null, .null, .null, .int 0, .int 0]) C rfl inlX11 tyX11_ok (List.mem_of_getElem? (i := 0) (by decide +kernel)) (List.mem_of_getElem? (i := 1) (by decide +kernel)) (List.mem_of_getElem? (i := 2) (by decide +kernel)) (by decide +kernel) (by decide) (by decide) dL_law_0 (fun q1 => ?_)
    refine eg_dup C dL_law_3 rfl ?_
    refine eg_callI (ws := []) C hKX hZ hl.1 ci_X11_init (List.mem_of_getElem? (i := 6) (by decide +kernel)) wi_X11_init (List.mem_of_getElem? (i := 7) (by decide +kernel)) rfl ⟨by decide, by decide⟩ (Nat.le_of_ble_eq_true rfl) ⟨by decide, by decide⟩ dL_law_4 (fun u hu hp => ?_)
    obtain ⟨aX, σ⟩ := u
    subst hu
    have hp : σ = s0X := hp
    subst hp
    intro H locs hP hD hS
    refine lv_astore_n (lv' := [(1, .ref (aX 0)), (0, .ref b)]) C.1 C.2.1 dL_law_7 rfl hl (by decide) rfl (fun ls hl => ?_)
    have k2 : Eg p l e room_1 s m #[Value.ref b] below meth c (lw_Z below #[Value.ref b] s) ls D (fun q => s.heap.size ≤ q) 8 [] (wd SX.1 aX cX s0X) (0 + 1 + 77) (0 + 18 + 2051) := by
      refine eg_new (ci := 12) (ty0 := tyX12) (fs := [.long 0, .null, .int 0, .null, .null, .null, .null, .null, .null, .int 0, .int 0, .int 0, .int 0, .int 0, .int 0, .int 0, .null, .null, .null, .null, .null, .null, .null, .null, .int 0, .null, .null, .int 0]) C rfl inlX12 tyX12_ok (List.mem_of_getElem? (i := 3) (by decide +kernel)) (List.mem_of_getElem? (i := 4) (by decide +kernel)) (List.mem_of_getElem? (i := 5) (by decide +kernel)) (by decide +kernel) (by decide) (by decide) dL_law_8 (fun q2 => ?_)
      refine eg_dup C dL_law_11 rfl ?_
      refine eg_callI C hKM hZ hl.1 ci_X12_init (List.mem_of_getElem? (i := 109) (by decide +kernel)) wi_X12_init (List.mem_of_getElem? (i := 110) (by decide +kernel)) rfl ⟨by decide, by decide⟩ (Nat.le_of_ble_eq_true rfl) ⟨by decide, by decide⟩ dL_law_12 (fun u hu hp => ?_)
      obtain ⟨aM, τ⟩ := u
      subst hu
      have hp : M0 τ := hp
      intro H locs hP hD hS
      refine lv_astore_n (lv' := [(2, .ref (aM 0)), (1, .ref (aX 0)), (0, .ref b)]) C.1 C.2.1 dL_law_15 rfl hl (by decide) rfl (fun ls hl => ?_)
      refine lv_iconst (v := 0) C.1 C.2.1 dL_law_16 rfl ?_
      refine lv_istore_n (lv' := [(3, .int 0), (2, .ref (aM 0)), (1, .ref (aX 0)), (0, .ref b)]) C.1 C.2.1 dL_law_17 rfl hl (by decide) rfl (fun ls hl => ?_)
      exact l_loop HC (L + 1) 0 ls s0X τ (by omega) (Nat.zero_le _) hl (rl0 hp) H locs (P_swap hP) (D_swap hD) hS
    exact k2 H locs hP hD hS
  exact start s.heap [] (fun k q h => by simp at h) ⟨fun i j p q h => by simp at h, fun k q h => by simp at h⟩ va_S.rf
