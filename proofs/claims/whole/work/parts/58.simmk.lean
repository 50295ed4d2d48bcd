/-! PIT: two men, of the model. -/
theorem isN_of {t : Nat → Nat} {n p s : Nat} (hs : s ≤ 6) (hK : tK t n p = 2) (h : tV t n p < s) : isN t n p 0 (nI s - 1) := ⟨hK, Nat.zero_le _, ((man_iff (a := nI (tV t n p)) rfl hs).mpr ⟨_, h, rfl⟩).2⟩
theorem m_nearF {a v2 s0 : Int32} {τ : St} {post : St → Prop} (h13 : ¬ τ.1 0 13 = -9) (h : post τ) : f_X12_readNear_J49 a post v2 s0 τ := by
  rw [f_X12_readNear_J49]
  exact m_dueF h13 (fun r => m_numF h13 (fun r2 => ⟨fun _ => h, fun z => absurd z h13⟩))
theorem m_two {t : Nat → Nat} {n q s : Nat} {a : Int32} {τ : St} {post : St → Prop} (ht : TM t n τ) (hq : q ≤ n) (hs : s ≤ 6) (h2 : τ.1 2 1 = nI s) (hk : MK t n q τ) (h13 : τ.1 0 13 = -9)
    (hF1 : ¬ isN t n q 0 (nI s - 1) → ∀ τ', MF τ τ' → τ'.1 0 13 = nI (ts t n q) → post τ')
    (hF2 : isN t n q 0 (nI s - 1) → ¬ (isN t n (te t n q) 0 (nI s - 1) ∧ tV t n q ≠ tV t n (te t n q)) → ∀ τ', MF τ τ' → τ'.1 0 13 = nI (ts t n (te t n q)) → post τ')
    (hF3 : isN t n q 0 (nI s - 1) → isN t n (te t n q) 0 (nI s - 1) → tV t n q ≠ tV t n (te t n q) → ¬ isN t n (te t n (te t n q)) 0 9 → ∀ τ', MF τ τ' → τ'.1 0 13 = nI (ts t n (te t n (te t n q))) → post τ')
    (hG : isN t n q 0 (nI s - 1) → isN t n (te t n q) 0 (nI s - 1) → tV t n q ≠ tV t n (te t n q) → isN t n (te t n (te t n q)) 0 9 → ∀ τ', MU τ τ' → τ'.1 0 13 = -9 → MK t n (te t n (te t n (te t n q))) τ' → post (st_up (st_up τ' 5 (36 + (6 * tV t n q + tV t n (te t n q))) (if a = 0 then nI (tV t n (te t n (te t n q))) else -nI (tV t n (te t n (te t n q))))) 5 (36 + (6 * tV t n (te t n q) + tV t n q)) (if a = 0 then nI (tV t n (te t n (te t n q))) else -nI (tV t n (te t n (te t n q)))))) : f_X12_readNear a τ post := by
  have hn := ht.1
  have hq1 := (te_le (t := t) ht.1 hq).2
  have hq2 := (te_le (t := t) ht.1 hq1).2
  have hts := (ts_spec (t := t) hn hq).2.2.1
  have hts1 := (ts_spec (t := t) hn hq1).2.2.1
  have hts2 := (ts_spec (t := t) hn hq2).2.2.1
  rw [f_X12_readNear, h2]
  refine m_num (lo := 0) ht hq (by omega) hk h13 (fun n1 τ1 hu u13 uk => ?_) (fun n1 τ1 hu u13 r => ?_)
  · have l1 := isN_lt hn hq hs n1
    have c2 : τ1.1 2 1 = nI s := by rw [hu.2.1 2 (by decide)]; exact h2
    have bad : ¬ (isN t n (te t n q) 0 (nI s - 1) ∧ tV t n q ≠ tV t n (te t n q)) → f_X12_readNear_J48 a post (nI (tV t n q)) τ1 := by
      intro w
      rw [f_X12_readNear_J48, f_X12_readNear_J49]
      refine m_due0 uk u13 (fun τ' hv v13 r => ?_)
      have g := ng9 (by omega) v13
      exact m_numF g (fun r2 => ⟨fun _ => hF2 n1 w τ' (MF.rf.u (hu.tr hv)) v13, fun z => absurd z g⟩)
    refine ⟨fun z => bad (fun w => z (uk.sort.mpr w.1.1)), fun z => ?_⟩
    have hK := uk.sort.mp z
    have hV := tV_2 hn hq1 hK
    rw [c2, (uk.2.2.2.2.1 hK).2]
    refine ⟨fun z2 => bad (fun w => ?_), fun z2 => ⟨fun z3 => bad (fun w => w.2 ?_), fun z3 => ?_⟩⟩
    · have := isN_lt hn hq1 hs w.1
      have := (nI_leI (by omega) (by omega)).mp z2
      omega
    · exact (nI_ij (by omega) (by omega) z3).symm
    · have l2 : tV t n (te t n q) < s := Nat.lt_of_not_le fun w => z2 ((nI_leI (by omega) (by omega)).mpr w)
      have n2 : isN t n (te t n q) 0 (nI s - 1) := isN_of hs hK l2
      have hne : tV t n q ≠ tV t n (te t n q) := fun e => z3 (by rw [e])
      rw [f_X12_readNear_J49]
      refine m_due1 (ht.u hu) hq1 uk (by omega) u13 (fun τ2 hv v13 vk => ?_)
      rw [(uk.2.2.2.2.1 hK).2]
      refine m_num (lo := 0) (ht.u (hu.tr hv)) hq2 (by omega) vk v13 (fun n3 τ3 hw w13 wk => ?_) (fun n3 τ3 hw w13 r => ?_)
      · refine ⟨fun z => absurd w13 z, fun _ => ?_⟩
        have hG := hG n1 n2 hne n3 τ3 ((hu.tr hv).tr hw) w13 wk
        have e1 : ((36 : Int32) + 6 * nI (tV t n q)) + nI (tV t n (te t n q)) = nI (36 + (6 * tV t n q + tV t n (te t n q))) := by
          rw [nl 36, nl 6, pk_mul, nI_add, nI_add, Nat.add_assoc]
        have e2 : ((36 : Int32) + 6 * nI (tV t n (te t n q))) + nI (tV t n q) = nI (36 + (6 * tV t n (te t n q) + tV t n q)) := by
          rw [nl 36, nl 6, pk_mul, nI_add, nI_add, Nat.add_assoc]
        by_cases ca : a = 0
        · rw [if_pos ca] at hG
          refine ⟨fun _ => ?_, fun w => absurd ca w⟩
          rw [f_X12_readNear_J96, e1, e2, nI_clamp (by omega), nI_clamp (by omega)]
          refine ⟨vp_in_nI (by omega) (by omega), fun _ => ?_, fun w => absurd ca w⟩
          rintro _ rfl
          exact ⟨vp_in_nI (by omega) (by omega), hG⟩
        · rw [if_neg ca] at hG
          refine ⟨fun w => absurd w ca, fun _ => ?_⟩
          rw [f_X12_readNear_J96, e1, e2, nI_clamp (by omega), nI_clamp (by omega)]
          refine ⟨vp_in_nI (by omega) (by omega), fun w => absurd w ca, fun _ => ?_⟩
          rintro _ rfl
          exact ⟨vp_in_nI (by omega) (by omega), hG⟩
      · have g := ng9 (by omega) w13
        exact ⟨fun _ => hF3 n1 n2 hne n3 τ3 (MF.rf.u ((hu.tr hv).tr hw)) w13, fun z => absurd z g⟩
  · have g := ng9 (by omega) u13
    have hf := hF1 n1 τ1 (MF.rf.u hu) u13
    refine ⟨fun _ => ?_, fun _ => ⟨fun _ => ?_, fun _ => ⟨fun _ => ?_, fun _ => m_nearF g hf⟩⟩⟩
    · rw [f_X12_readNear_J48]; exact m_nearF g hf
    · rw [f_X12_readNear_J48]; exact m_nearF g hf
    · rw [f_X12_readNear_J48]; exact m_nearF g hf
