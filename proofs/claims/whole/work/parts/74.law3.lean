/-! The law's loop, and its start. -/
theorem and31 (x : Int32) : ∃ k, k < 32 ∧ x &&& 31 = nI k := by
  have h : (x &&& 31).toBitVec.toNat ≤ 31 := by
    rw [Int32.toBitVec_and, BitVec.toNat_and]
    exact Nat.le_trans Nat.and_le_right (by decide)
  refine ⟨(x &&& 31).toBitVec.toNat, by omega, ?_⟩
  apply Int32.toBitVec_inj.mp
  apply BitVec.eq_of_toNat_eq
  show _ = (Int32.ofNat _).toBitVec.toNat
  rw [Int32.toBitVec_ofNat', BitVec.toNat_ofNat, Nat.mod_eq_of_lt (by omega)]
set_option maxRecDepth 100000 in
set_option maxHeartbeats 4000000 in
theorem l_switch {p : Program} {l : Launch} {e : Env} {s : State} {m : MethodId} {below : List Frame} {meth : Method} {c : Code} {b L : Nat} {xs : Nat → Int32} {D : va_G} {cX cM : Nat → ClassId} {ls : Array Slot} {i : Nat} {aM aX : Nat → Nat} {σ τ : St} (HC : LC p s m meth c b L xs D cX cM) (hl : lv_has ls 4 [(3, .int (nI i)), (2, .ref (aM 0)), (1, .ref (aX 0)), (0, .ref b)]) (hi : i + 4 ≤ L) (hR : Rl σ τ) (kk : ∀ σ' τ', Rl σ' τ' → LE p l e s m below meth c b D ls 949 [] (wd SM.1 aM cM τ' ++ wd SX.1 aX cX σ')) (k : Nat) (hk : k < 32) : LE p l e s m below meth c b D ls 32 [.int (nI k)] (wd SM.1 aM cM τ ++ wd SX.1 aX cX σ) := by
  match k, hk with
  | 0, _ => exact fun H locs hP hD hS => lv_tableIn HC.1.1 HC.1.2.1 dL_law_32 (by decide) (by decide) (off := 136) (by decide) (by decide) (l_type HC hl hi hR kk H locs hP hD hS)
  | 1, _ => exact fun H locs hP hD hS => lv_tableIn HC.1.1 HC.1.2.1 dL_law_32 (by decide) (by decide) (off := 159) (by decide) (by decide) (l_clear HC hl hi hR kk H locs hP hD hS)
  | 2, _ => exact fun H locs hP hD hS => lv_tableIn HC.1.1 HC.1.2.1 dL_law_32 (by decide) (by decide) (off := 172) (by decide) (by decide) (l_pit HC hl hi hR kk H locs hP hD hS)
  | 3, _ => exact fun H locs hP hD hS => lv_tableIn HC.1.1 HC.1.2.1 dL_law_32 (by decide) (by decide) (off := 185) (by decide) (by decide) (l_man HC hl hi hR kk H locs hP hD hS)
  | 4, _ => exact fun H locs hP hD hS => lv_tableIn HC.1.1 HC.1.2.1 dL_law_32 (by decide) (by decide) (off := 218) (by decide) (by decide) (l_beside HC hl hi hR kk H locs hP hD hS)
  | 5, _ => exact fun H locs hP hD hS => lv_tableIn HC.1.1 HC.1.2.1 dL_law_32 (by decide) (by decide) (off := 251) (by decide) (by decide) (l_week HC hl hi hR kk H locs hP hD hS)
  | 6, _ => exact fun H locs hP hD hS => lv_tableIn HC.1.1 HC.1.2.1 dL_law_32 (by decide) (by decide) (off := 274) (by decide) (by decide) (l_quarrel HC hl hi hR kk H locs hP hD hS)
  | 7, _ => exact fun H locs hP hD hS => lv_tableIn HC.1.1 HC.1.2.1 dL_law_32 (by decide) (by decide) (off := 317) (by decide) (by decide) (l_forgives HC hl hi hR kk H locs hP hD hS)
  | 8, _ => exact fun H locs hP hD hS => lv_tableIn HC.1.1 HC.1.2.1 dL_law_32 (by decide) (by decide) (off := 340) (by decide) (by decide) (l_buys HC hl hi hR kk H locs hP hD hS)
  | 9, _ => exact fun H locs hP hD hS => lv_tableIn HC.1.1 HC.1.2.1 dL_law_32 (by decide) (by decide) (off := 363) (by decide) (by decide) (l_undo HC hl hi hR kk H locs hP hD hS)
  | 10, _ => exact fun H locs hP hD hS => lv_tableIn HC.1.1 HC.1.2.1 dL_law_32 (by decide) (by decide) (off := 376) (by decide) (by decide) (l_now HC hl hi hR kk H locs hP hD hS)
  | 11, _ => exact fun H locs hP hD hS => lv_tableIn HC.1.1 HC.1.2.1 dL_law_32 (by decide) (by decide) (off := 399) (by decide) (by decide) (l_yieldOf HC hl hi hR kk H locs hP hD hS)
  | 12, _ => exact fun H locs hP hD hS => lv_tableIn HC.1.1 HC.1.2.1 dL_law_32 (by decide) (by decide) (off := 422) (by decide) (by decide) (l_best HC hl hi hR kk H locs hP hD hS)
  | 13, _ => exact fun H locs hP hD hS => lv_tableIn HC.1.1 HC.1.2.1 dL_law_32 (by decide) (by decide) (off := 445) (by decide) (by decide) (l_plan HC hl hi hR kk H locs hP hD hS)
  | 14, _ => exact fun H locs hP hD hS => lv_tableIn HC.1.1 HC.1.2.1 dL_law_32 (by decide) (by decide) (off := 488) (by decide) (by decide) (l_lean HC hl hi hR kk H locs hP hD hS)
  | 15, _ => exact fun H locs hP hD hS => lv_tableIn HC.1.1 HC.1.2.1 dL_law_32 (by decide) (by decide) (off := 521) (by decide) (by decide) (l_still HC hl hi hR kk H locs hP hD hS)
  | 16, _ => exact fun H locs hP hD hS => lv_tableIn HC.1.1 HC.1.2.1 dL_law_32 (by decide) (by decide) (off := 564) (by decide) (by decide) (l_temper HC hl hi hR kk H locs hP hD hS)
  | 17, _ => exact fun H locs hP hD hS => lv_tableIn HC.1.1 HC.1.2.1 dL_law_32 (by decide) (by decide) (off := 587) (by decide) (by decide) (l_mates HC hl hi hR kk H locs hP hD hS)
  | 18, _ => exact fun H locs hP hD hS => lv_tableIn HC.1.1 HC.1.2.1 dL_law_32 (by decide) (by decide) (off := 610) (by decide) (by decide) (l_lights HC hl hi hR kk H locs hP hD hS)
  | 19, _ => exact fun H locs hP hD hS => lv_tableIn HC.1.1 HC.1.2.1 dL_law_32 (by decide) (by decide) (off := 643) (by decide) (by decide) (l_forget HC hl hi hR kk H locs hP hD hS)
  | 20, _ => exact fun H locs hP hD hS => lv_tableIn HC.1.1 HC.1.2.1 dL_law_32 (by decide) (by decide) (off := 656) (by decide) (by decide) (l_whose HC hl hi hR kk H locs hP hD hS)
  | 21, _ => exact fun H locs hP hD hS => lv_tableIn HC.1.1 HC.1.2.1 dL_law_32 (by decide) (by decide) (off := 669) (by decide) (by decide) (l_sold HC hl hi hR kk H locs hP hD hS)
  | 22, _ => exact fun H locs hP hD hS => lv_tableIn HC.1.1 HC.1.2.1 dL_law_32 (by decide) (by decide) (off := 702) (by decide) (by decide) (l_tells HC hl hi hR kk H locs hP hD hS)
  | 23, _ => exact fun H locs hP hD hS => lv_tableIn HC.1.1 HC.1.2.1 dL_law_32 (by decide) (by decide) (off := 735) (by decide) (by decide) (l_fit HC hl hi hR kk H locs hP hD hS)
  | 24, _ => exact fun H locs hP hD hS => lv_tableIn HC.1.1 HC.1.2.1 dL_law_32 (by decide) (by decide) (off := 758) (by decide) (by decide) (l_below HC hl hi hR kk H locs hP hD hS)
  | 25, _ => exact fun H locs hP hD hS => lv_tableIn HC.1.1 HC.1.2.1 dL_law_32 (by decide) (by decide) (off := 801) (by decide) (by decide) (l_mark HC hl hi hR kk H locs hP hD hS)
  | 26, _ => exact fun H locs hP hD hS => lv_tableIn HC.1.1 HC.1.2.1 dL_law_32 (by decide) (by decide) (off := 834) (by decide) (by decide) (l_keep HC hl hi hR kk H locs hP hD hS)
  | 27, _ => exact fun H locs hP hD hS => lv_tableIn HC.1.1 HC.1.2.1 dL_law_32 (by decide) (by decide) (off := 857) (by decide) (by decide) (l_back HC hl hi hR kk H locs hP hD hS)
  | 28, _ => exact fun H locs hP hD hS => lv_tableIn HC.1.1 HC.1.2.1 dL_law_32 (by decide) (by decide) (off := 880) (by decide) (by decide) (l_count HC hl hi hR kk H locs hP hD hS)
  | 29, _ => exact fun H locs hP hD hS => lv_tableIn HC.1.1 HC.1.2.1 dL_law_32 (by decide) (by decide) (off := 903) (by decide) (by decide) (l_trace HC hl hi hR kk H locs hP hD hS)
  | 30, _ => exact fun H locs hP hD hS => lv_tableOut HC.1.1 HC.1.2.1 dL_law_32 (Or.inr (by decide)) (tgt := 949) (by decide) (kk σ τ hR H locs hP hD hS)
  | 31, _ => exact fun H locs hP hD hS => lv_tableOut HC.1.1 HC.1.2.1 dL_law_32 (Or.inr (by decide)) (tgt := 949) (by decide) (kk σ τ hR H locs hP hD hS)
  | k + 32, h => exact absurd h (by omega)
set_option maxRecDepth 100000 in
set_option maxHeartbeats 4000000 in
theorem l_loop {p : Program} {l : Launch} {e : Env} {s : State} {m : MethodId} {below : List Frame} {meth : Method} {c : Code} {b L : Nat} {xs : Nat → Int32} {D : va_G} {cX cM : Nat → ClassId} {aM aX : Nat → Nat} (HC : LC p s m meth c b L xs D cX cM) : ∀ (n i : Nat) (ls : Array Slot) (σ τ : St), L - i < n → i ≤ L → lv_has ls 4 [(3, .int (nI i)), (2, .ref (aM 0)), (1, .ref (aX 0)), (0, .ref b)] → Rl σ τ → LE p l e s m below meth c b D ls 18 [] (wd SM.1 aM cM τ ++ wd SX.1 aX cX σ) := by
  intro n
  induction n with
  | zero => intro i ls σ τ h; omega
  | succ n ih =>
    intro i ls σ τ hn hi hl hR H locs hP hD hS
    have C := HC.1
    have hL := HC.2.2.2.2
    refine lv_iload_n C.1 C.2.1 dL_law_18 rfl (lv_at hl 0 rfl) (lv_aload_n C.1 C.2.1 dL_law_19 rfl (lv_at hl 3 rfl) (va_slen C.1 C.2.1 HC.2.2.1 HC.2.2.2.1 (Nat.not_le.mpr HC.2.2.2.1) hS dL_law_20 (lv_iconst (v := 4) C.1 C.2.1 dL_law_21 rfl (lv_isub C.1 C.2.1 dL_law_22 (lv_icmp_gt C.1 C.2.1 dL_law_23 (tgt := 955) (by decide) (fun _ => ?_) (fun w => ?_))))))
    · refine lv_iconst (v := 1) C.1 C.2.1 dL_law_955 rfl ?_
      refine va_forget (fun q hq => hS.2.2 q hq) ?_
      refine W.widen (k := 600000) (n := 7302250) (by decide) (by decide) ?_
      exact lw_ret C.1 C.2.1 C.2.2.1 C.2.2.2.2.2.2.1 dL_law_956
    · have hi4 : i + 4 ≤ L := by
        have e1 := nI_toInt (n := i) (by omega)
        have e2 := nI_toInt (n := L) (by omega)
        have e3 : (4 : Int32).toInt = 4 := by decide
        have e4 : (nI L - 4).toInt = (L : Int) - 4 := by rw [fb_subI (by omega) (by omega)]; omega
        have w2 : ¬ (nI L - 4).toInt < (nI i).toInt := fun z => w (Int32.lt_iff_toInt_lt.mpr z)
        omega
      obtain ⟨k, hk, ek⟩ := and31 (xs i)
      refine lv_aload_n C.1 C.2.1 dL_law_26 rfl (lv_at hl 3 rfl) (lv_iload_n C.1 C.2.1 dL_law_27 rfl (lv_at hl 0 rfl) (va_sld C.1 C.2.1 HC.2.2.1 HC.2.2.2.1 (Nat.not_le.mpr HC.2.2.2.1) hS (vp_in_nI (by omega) (by omega)) dL_law_28 (lv_bipush (v := 31) C.1 C.2.1 dL_law_29 rfl (lv_iand C.1 C.2.1 dL_law_31 ?_))))
      rw [nI_clamp (by omega), ek]
      refine l_switch HC hl hi4 hR (fun σ' τ' hR' H1 locs1 hP1 hD1 hS1 => ?_) k hk H locs hP hD hS
      refine lv_iinc (k := 0) (v := nI (i + 4)) (lv' := [(3, .int (nI (i + 4))), (2, .ref (aM 0)), (1, .ref (aX 0)), (0, .ref b)]) C.1 C.2.1 dL_law_949 hl rfl (by rw [← nI_add]; rfl) (by decide) rfl (fun ls' hl' => ?_)
      exact lv_goto C.1 C.2.1 dL_law_952 (tgt := 18) (by decide) (ih (i + 4) ls' σ' τ' (by omega) hi4 hl' hR' H1 locs1 hP1 hD1 hS1)
