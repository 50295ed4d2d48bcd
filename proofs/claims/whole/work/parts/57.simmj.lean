/-! PIT: the rows that the model reads. -/
theorem ng9 {f : Nat} (hf : f < 2 ^ 31) {x : Int32} (h : x = nI f) : ¬ x = -9 := fun e => by
  have : (-9 : Int32) < 0 := by decide
  rw [← e, h] at this
  exact nI_pos hf this
theorem m_cage {t : Nat → Nat} {n q : Nat} {τ : St} {post : St → Prop} (ht : TM t n τ) (hq : q ≤ n) (hk : MK t n q τ) (h13 : τ.1 0 13 = -9)
    (hF : ¬ isN t n q 1 6 → ∀ τ', MF τ τ' → τ'.1 0 13 = nI (ts t n q) → post τ')
    (hG : isN t n q 1 6 → ∀ τ', MU τ τ' → τ'.1 0 13 = -9 → MK t n (te t n q) τ' → post (st_up (st_up τ' 6 1 (nI (tV t n q))) 0 14 1)) : f_X12_readRow 99 τ post := by
  rw [f_X12_readRow]
  refine ⟨fun _ => ?_, fun e => absurd e (by decide), fun e => absurd e (by decide), fun e => absurd e (by decide), fun e => absurd rfl e⟩
  refine m_num (lo := 1) ht hq (by omega) hk h13 (fun n1 τ' hu u13 uk => ?_) (fun n1 τ' hu u13 r => ?_)
  · rintro _ rfl
    exact hG n1 τ' hu u13 uk
  · rintro _ rfl
    exact hF n1 _ ((MF.rf.u hu).tr (MF.up6.tr (MF.up0 (by omega)))) u13
theorem m_shale {t : Nat → Nat} {n q : Nat} {τ : St} {post : St → Prop} (ht : TM t n τ) (hq : q ≤ n) (hk : MK t n q τ) (h13 : τ.1 0 13 = -9)
    (hF : ¬ isN t n q 0 50 → ∀ τ', MF τ τ' → τ'.1 0 13 = nI (ts t n q) → post τ')
    (hG : isN t n q 0 50 → ∀ τ', MU τ τ' → τ'.1 0 13 = -9 → MK t n (te t n q) τ' → post (st_up (st_up τ' 7 1 (nI (tV t n q))) 0 15 1)) : f_X12_readRow 115 τ post := by
  rw [f_X12_readRow]
  refine ⟨fun e => absurd e (by decide), fun e => absurd e (by decide), fun e => absurd e (by decide), fun e => absurd e (by decide), fun _ _ _ _ => ?_⟩
  refine m_num (lo := 0) ht hq (by omega) hk h13 (fun n1 τ' hu u13 uk => ?_) (fun n1 τ' hu u13 r => ?_)
  · rintro _ rfl
    exact hG n1 τ' hu u13 uk
  · rintro _ rfl
    exact hF n1 _ ((MF.rf.u hu).tr (MF.up7.tr (MF.up0 (by omega)))) u13
theorem m_manR {t : Nat → Nat} {n q s : Nat} {τ : St} {post : St → Prop} (ht : TM t n τ) (hq : q ≤ n) (hs : s < 6) (h2 : τ.1 2 1 = nI s) (hk : MK t n q τ) (h13 : τ.1 0 13 = -9)
    (hF1 : ¬ isN t n q 0 99 → ∀ τ', MF τ τ' → τ'.1 0 13 = nI (ts t n q) → post τ')
    (hF2 : isN t n q 0 99 → ¬ isN t n (te t n q) 0 9 → ∀ τ', MF τ τ' → τ'.1 0 13 = nI (ts t n (te t n q)) → post τ')
    (hG : isN t n q 0 99 → isN t n (te t n q) 0 9 → ∀ τ', MU (st_up τ 4 s (nI (tV t n q))) τ' → τ'.1 0 13 = -9 → MK t n (te t n (te t n q)) τ' → post (st_up (st_up τ' 3 (6 + s) (nI (tV t n (te t n q)))) 2 1 (nI (s + 1)))) : f_X12_readRow 109 τ post := by
  have hn := ht.1
  have hq1 := (te_le (t := t) ht.1 hq).2
  have hts := (ts_spec (t := t) hn hq).2.2.1
  rw [f_X12_readRow]
  refine ⟨fun e => absurd e (by decide), fun e => absurd e (by decide), fun _ => ?_, fun e => absurd e (by decide), fun _ _ e => absurd rfl e⟩
  rw [h2, nI_clamp (by omega)]
  refine m_num (lo := 0) ht hq (by omega) hk h13 (fun n1 τ1 hu u13 uk => ⟨vp_in_nI hs (by omega), ?_⟩) (fun n1 τ1 hu u13 r => ⟨vp_in_nI hs (by omega), ?_⟩)
  · have c2 : (st_up τ1 4 s (nI (tV t n q))).1 2 1 = nI s := (show τ1.1 2 1 = _ by rw [hu.2.1 2 (by decide)]; exact h2)
    rw [c2, nl 6, nI_add, nI_clamp (by omega)]
    have k4 : MK t n (te t n q) (st_up τ1 4 s (nI (tV t n q))) := uk
    have t4 : TM t n (st_up τ1 4 s (nI (tV t n q))) := ⟨hn, (ht.u hu).2.1, (ht.u hu).2.2⟩
    have hcom : MU (st_up τ 4 s (nI (tV t n q))) (st_up τ1 4 s (nI (tV t n q))) := ⟨hu.1, fun c hc => by
      by_cases e : c = 4
      · subst e
        rw [st_up, st_up, st_row_self, st_row_self, hu.2.1 4 (by decide)]
      · rw [st_up_ne _ e, st_up_ne _ e]; exact hu.2.1 c hc, fun i hi => hu.2.2 i hi⟩
    refine m_num (lo := 0) t4 hq1 (by omega) k4 u13 (fun n2 τ2 hv v13 vk => ⟨vp_in_nI (by omega) (by omega), ?_⟩) (fun n2 τ2 hv v13 r => ⟨vp_in_nI (by omega) (by omega), ?_⟩)
    · rintro _ rfl
      have c3 : (st_up τ2 3 (6 + s) (nI (tV t n (te t n q)))).1 2 1 = nI s := (show τ2.1 2 1 = _ by rw [hv.2.1 2 (by decide)]; exact c2)
      rw [c3, nI_1]
      exact hG n1 n2 τ2 (hcom.tr hv) v13 vk
    · rintro _ rfl
      exact hF2 n1 n2 _ ((((MF.rf.u hu).tr MF.up4).u hv).tr ((MF.up3 (by omega)).tr MF.up2)) v13
  · have c2 : (st_up τ1 4 s r).1 2 1 = nI s := (show τ1.1 2 1 = _ by rw [hu.2.1 2 (by decide)]; exact h2)
    rw [c2, nl 6, nI_add, nI_clamp (by omega)]
    refine m_numF (ng9 (by omega) (show (st_up τ1 4 s r).1 0 13 = nI (ts t n q) from u13)) (fun r2 => ⟨vp_in_nI (by omega) (by omega), ?_⟩)
    rintro _ rfl
    exact hF1 n1 _ (((MF.rf.u hu).tr MF.up4).tr ((MF.up3 (by omega)).tr MF.up2)) u13
