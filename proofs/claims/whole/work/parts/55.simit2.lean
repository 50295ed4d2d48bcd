/-! PIT: a man, two men. -/
theorem x_man {t : Nat → Nat} {n p s : Nat} {σ : St} {post : St → Prop} (ht : TX t n σ) (hp : p ≤ n) (hs : s ≤ 6) (h0 : σ.1 3 0 = nI s) (h2 : σ.1 1 2 = nI (ts t n p)) (h3 : σ.1 1 3 = nI (te t n p))
    (hF : ∀ σ' f, XF σ σ' → σ'.1 1 6 = 1 → σ'.1 1 2 = nI f → (¬ s < 6 ∧ f = ts t n p) ∨ (s < 6 ∧ ¬ isN t n (te t n p) 0 99 ∧ f = ts t n (te t n p)) ∨ (s < 6 ∧ isN t n (te t n p) 0 99 ∧ ¬ isN t n (te t n (te t n p)) 0 9 ∧ f = ts t n (te t n (te t n p))) → post σ')
    (hG : s < 6 → isN t n (te t n p) 0 99 → isN t n (te t n (te t n p)) 0 9 → ∀ σ', XU σ σ' → σ'.1 1 6 = 0 → σ'.1 1 3 = nI (te t n (te t n (te t n p))) → post (st_up (st_up (st_up σ' 4 s (nI (tV t n (te t n p)))) 5 s (nI (tV t n (te t n (te t n p))))) 3 0 (nI (s + 1)))) : f_X10_readsMan σ post := by
  have hq1 := (te_le (t := t) ht.1 hp).2
  have hq2 := (te_le (t := t) ht.1 hq1).2
  rw [f_X10_readsMan, h0]
  refine ⟨fun w => ?_, fun w => ?_⟩
  · have hs6 : s < 6 := (nI_ltI (b := 6) (by omega) (by omega)).mp w
    rw [f_X10_readsMan_J15]
    refine ⟨Or.inl rfl, ?_⟩
    have u0 : XU σ (st_up σ 1 6 0) := XU.up (by omega)
    refine x_num (lo := 0) (ht.u u0) hq1 (by omega) (by rw [st_up_nat _ (by omega)]; exact h3) (st_up_at _ _ _ _) (fun n1 σ3 v1 a6 a3 a2 => ?_) (fun n1 σ3 v1 a6 a2 r => ?_)
    · refine x_num (lo := 0) (ht.u (u0.tr v1)) hq2 (by omega) a3 a6 (fun n2 σ5 v2 b6 b3 b2 => ?_) (fun n2 σ5 v2 b6 b2 r => ?_)
      · refine ⟨fun z => absurd b6 z, fun _ => ?_⟩
        have uu := (u0.tr v1).tr v2
        have c0 : σ5.1 3 0 = nI s := by rw [uu.2.1 3 (by decide)]; exact h0
        rw [c0, nI_clamp (by omega)]
        refine ⟨pk_in s 6 hs6, ?_⟩
        rintro _ rfl
        have c1 : (st_up σ5 4 s (nI (tV t n (te t n p)))).1 3 0 = nI s := c0
        rw [c1, nI_clamp (by omega)]
        refine ⟨pk_in s 6 hs6, ?_⟩
        rintro _ rfl
        have c2 : (st_up (st_up σ5 4 s (nI (tV t n (te t n p)))) 5 s (nI (tV t n (te t n (te t n p))))).1 3 0 = nI s := c0
        rw [c2, nI_1]
        exact hG hs6 n1 n2 σ5 uu b6 b3
      · exact ⟨fun _ => hF σ5 _ (XF.rf.u ((u0.tr v1).tr v2)) b6 b2 (Or.inr (Or.inr ⟨hs6, n1, n2, rfl⟩)), fun z => by rw [b6] at z; exact absurd z (by decide)⟩
    · refine x_numF (by rw [a6]; decide) (fun r => ⟨fun _ => hF σ3 _ (XF.rf.u (u0.tr v1)) a6 a2 (Or.inr (Or.inl ⟨hs6, n1, rfl⟩)), fun z => by rw [a6] at z; exact absurd z (by decide)⟩)
  · have hs6 : ¬ s < 6 := fun z => w ((nI_ltI (b := 6) (by omega) (by omega)).mpr z)
    rw [f_X10_readsMan_J15]
    refine ⟨Or.inr rfl, ?_⟩
    have g6 : ¬ (st_up σ 1 6 1).1 1 6 = 0 := by rw [st_up_at]; decide
    refine x_numF g6 (fun r => x_numF g6 (fun r => ⟨fun _ => ?_, fun z => absurd z g6⟩))
    exact hF _ (ts t n p) (XF.up1 (by omega)) (st_up_at _ _ _ _) (by rw [st_up_nat _ (by omega)]; exact h2) (Or.inl ⟨hs6, rfl⟩)
theorem x_twoF {a v3 v4 : Int32} {σ : St} {post : St → Prop} (h : post (st_up σ 1 6 1)) : f_X10_readsTwo_J39 a post v3 v4 σ := by
  rw [f_X10_readsTwo_J39, f_X10_readsTwo_J44]
  have g6 : ¬ (st_up σ 1 6 1).1 1 6 = 0 := by rw [st_up_at]; decide
  exact ⟨Or.inr rfl, x_numF g6 (fun r => ⟨fun _ => h, fun z => absurd z g6⟩)⟩
theorem isN_lt {t : Nat → Nat} {n p s : Nat} (hn : n ≤ 150) (hp : p ≤ n) (hs : s ≤ 6) (h : isN t n p 0 (nI s - 1)) : tV t n p < s := by
  have hv := tV_2 hn hp h.1
  obtain ⟨m, hm, e⟩ := (man_iff (a := nI (tV t n p)) rfl hs).mp ⟨nI_pos' (by omega), h.2.2⟩
  have := nI_ij (by omega) (by omega) e
  omega
theorem x_two {t : Nat → Nat} {n p s : Nat} {a : Int32} {σ : St} {post : St → Prop} (ht : TX t n σ) (hp : p ≤ n) (hs : s ≤ 6) (h0 : σ.1 3 0 = nI s) (h6 : σ.1 1 6 = 0) (h3 : σ.1 1 3 = nI (te t n p))
    (hF : ∀ σ' f, XF σ σ' → σ'.1 1 6 = 1 → σ'.1 1 2 = nI f → ((¬ isN t n (te t n p) 0 (nI s - 1) ∧ f = ts t n (te t n p)) ∨ (isN t n (te t n p) 0 (nI s - 1) ∧ ¬ (isN t n (te t n (te t n p)) 0 (nI s - 1) ∧ tV t n (te t n p) ≠ tV t n (te t n (te t n p))) ∧ f = ts t n (te t n (te t n p))) ∨ (isN t n (te t n p) 0 (nI s - 1) ∧ isN t n (te t n (te t n p)) 0 (nI s - 1) ∧ tV t n (te t n p) ≠ tV t n (te t n (te t n p)) ∧ ¬ isN t n (te t n (te t n (te t n p))) 0 9 ∧ f = ts t n (te t n (te t n (te t n p))))) → post σ')
    (hG : isN t n (te t n p) 0 (nI s - 1) → isN t n (te t n (te t n p)) 0 (nI s - 1) → tV t n (te t n p) ≠ tV t n (te t n (te t n p)) → isN t n (te t n (te t n (te t n p))) 0 9 → ∀ σ', XU σ σ' → σ'.1 1 6 = 0 → σ'.1 1 3 = nI (te t n (te t n (te t n (te t n p)))) → post (st_up (st_up σ' (7 + tV t n (te t n p)) (tV t n (te t n (te t n p))) (a * nI (tV t n (te t n (te t n (te t n p)))))) (7 + tV t n (te t n (te t n p))) (tV t n (te t n p)) (a * nI (tV t n (te t n (te t n (te t n p))))))) : f_X10_readsTwo a σ post := by
  have hq1 := (te_le (t := t) ht.1 hp).2
  have hq2 := (te_le (t := t) ht.1 hq1).2
  have hq3 := (te_le (t := t) ht.1 hq2).2
  rw [f_X10_readsTwo, h0]
  refine x_num (lo := 0) ht hq1 (by omega) h3 h6 (fun n1 σ1 v1 a6 a3 a2 => ?_) (fun n1 σ1 v1 a6 a2 r => ?_)
  · have e0 : σ1.1 3 0 = nI s := by rw [v1.2.1 3 (by decide)]; exact h0
    rw [e0]
    refine x_num (lo := 0) (ht.u v1) hq2 (by omega) a3 a6 (fun n2 σ2 v2 b6 b3 b2 => ?_) (fun n2 σ2 v2 b6 b2 r => ?_)
    · have l1 := isN_lt ht.1 hq1 hs n1
      have l2 := isN_lt ht.1 hq2 hs n2
      refine ⟨fun z => absurd b6 z, fun _ => ⟨fun z => ?_, fun z => x_twoF ?_⟩⟩
      · have hne : tV t n (te t n p) ≠ tV t n (te t n (te t n p)) := fun e => z (by rw [e])
        rw [f_X10_readsTwo_J44]
        refine ⟨Or.inl rfl, ?_⟩
        have u0 : XU σ2 (st_up σ2 1 6 0) := XU.up (by omega)
        refine x_num (lo := 0) (ht.u ((v1.tr v2).tr u0)) hq3 (by omega) (by rw [st_up_nat _ (by omega)]; exact b3) (st_up_at _ _ _ _) (fun n3 σ3 v3 c6 c3 c2 => ?_) (fun n3 σ3 v3 c6 c2 r => ?_)
        · refine ⟨fun z => absurd c6 z, fun _ => ?_⟩
          rw [nI_clamp (by omega), nI_clamp (by omega)]
          refine ⟨vp_in_nI (by omega) (by omega), vp_in_nI (by omega) (by omega), vp_in_nI (by omega) (by omega), ?_⟩
          rintro _ rfl
          exact ⟨vp_in_nI (by omega) (by omega), hG n1 n2 hne n3 σ3 (((v1.tr v2).tr u0).tr v3) c6 c3⟩
        · exact ⟨fun _ => hF σ3 _ (XF.rf.u (((v1.tr v2).tr u0).tr v3)) c6 c2 (Or.inr (Or.inr ⟨n1, n2, hne, n3, rfl⟩)), fun z => by rw [c6] at z; exact absurd z (by decide)⟩
      · have he : tV t n (te t n p) = tV t n (te t n (te t n p)) := nI_ij (by omega) (by omega) z
        exact hF _ _ (XF.rf.u ((v1.tr v2).tr (XU.up (by omega)))) (st_up_at _ _ _ _) (by rw [st_up_nat _ (by omega)]; exact b2) (Or.inr (Or.inl ⟨n1, fun w => w.2 he, rfl⟩))
    · refine ⟨fun _ => x_twoF ?_, fun z => by rw [b6] at z; exact absurd z (by decide)⟩
      exact hF _ _ (XF.rf.u ((v1.tr v2).tr (XU.up (by omega)))) (st_up_at _ _ _ _) (by rw [st_up_nat _ (by omega)]; exact b2) (Or.inr (Or.inl ⟨n1, fun w => n2 w.1, rfl⟩))
  · refine x_numF (by rw [a6]; decide) (fun r => ⟨fun _ => x_twoF ?_, fun z => by rw [a6] at z; exact absurd z (by decide)⟩)
    exact hF _ _ (XF.rf.u (v1.tr (XU.up (by omega)))) (st_up_at _ _ _ _) (by rw [st_up_nat _ (by omega)]; exact a2) (Or.inl ⟨n1, rfl⟩)
