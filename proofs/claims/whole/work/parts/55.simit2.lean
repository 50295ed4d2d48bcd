/-! PIT: a man, two men. -/
theorem x_man {t : Nat → Nat} {n p s : Nat} {σ : St} {post : St → Prop} (ht : TX t n σ) (hp : p ≤ n) (hs : s ≤ 6) (h0 : σ.1 3 0 = nI s) (h2 : σ.1 1 2 = nI (ts t n p)) (h3 : σ.1 1 3 = nI (te t n p))
    (hF : ∀ σ' f, XF σ σ' → σ'.1 1 6 = 1 → σ'.1 1 2 = nI f → (¬ s < 6 ∧ f = ts t n p) ∨ (s < 6 ∧ ¬ isN t n (te t n p) 0 99 ∧ f = ts t n (te t n p)) ∨ (s < 6 ∧ isN t n (te t n p) 0 99 ∧ ¬ isN t n (te t n (te t n p)) 0 9 ∧ f = ts t n (te t n (te t n p))) → post σ')
    (hG : s < 6 → isN t n (te t n p) 0 99 → isN t n (te t n (te t n p)) 0 9 → ∀ σ', XU σ σ' → σ'.1 1 6 = 0 → σ'.1 1 3 = nI (te t n (te t n (te t n p))) → post (st_up (st_up (st_up σ' 4 s (nI (tV t n (te t n p)))) 5 s (nI (tV t n (te t n (te t n p))))) 3 0 (nI (s + 1)))) : f_X10_readsMan σ post := by
  have hq1 := (te_le (t := t) ht.1 hp).2
  have hq2 := (te_le (t := t) ht.1 hq1).2
  rw [f_X10_readsMan, h0]
  refine ⟨fun w => ?_, fun w => ?_⟩
  · have hs6 : s < 6 := (nI_ltI (b := 6) (by omega) (by omega)).mp w
    rw [f_X10_readsMan_J15]
    refine ⟨Or.inl rfl, ?_⟩
    have u0 : XU σ (st_up σ 1 6 0) := XU.up (by omega)
    refine x_num (lo := 0) (ht.u u0) hq1 (by omega) (by rw [st_up_nat _ (by omega)]; exact h3) (st_up_at _ _ _ _) (fun n1 σ3 v1 a6 a3 a2 => ?_) (fun n1 σ3 v1 a6 a2 r => ?_)
    · refine x_num (lo := 0) (ht.u (u0.tr v1)) hq2 (by omega) a3 a6 (fun n2 σ5 v2 b6 b3 b2 => ?_) (fun n2 σ5 v2 b6 b2 r => ?_)
      · refine ⟨fun z => absurd b6 z, fun _ => ?_⟩
        have uu := (u0.tr v1).tr v2
        have c0 : σ5.1 3 0 = nI s := by rw [uu.2.1 3 (by decide)]; exact h0
        rw [c0, nI_clamp (by omega)]
        refine ⟨pk_in s 6 hs6, ?_⟩
        rintro _ rfl
        have c1 : (st_up σ5 4 s (nI (tV t n (te t n p)))).1 3 0 = nI s := c0
        rw [c1, nI_clamp (by omega)]
        refine ⟨pk_in s 6 hs6, ?_⟩
        rintro _ rfl
        have c2 : (st_up (st_up σ5 4 s (nI (tV t n (te t n p)))) 5 s (nI (tV t n (te t n (te t n p))))).1 3 0 = nI s := c0
        rw [c2, nI_1]
        exact hG hs6 n1 n2 σ5 uu b6 b3
      · exact ⟨fun _ => hF σ5 _ (XF.rf.u ((u0.tr v1).tr v2)) b6 b2 (Or.inr (Or.inr ⟨hs6, n1, n2, rfl⟩)), fun z => by rw [b6] at z; exact absurd z (by decide)⟩
    · refine x_numF (by rw [a6]; decide) (fun r => ⟨fun _ => hF σ3 _ (XF.rf.u (u0.tr v1)) a6 a2 (Or.inr (Or.inl ⟨hs6, n1, rfl⟩)), fun z => by rw [a6] at z; exact absurd z (by decide)⟩)
  · have hs6 : ¬ s < 6 := fun z => w ((nI_ltI (b := 6) (by omega) (by omega)).mpr z)
    rw [f_X10_readsMan_J15]
    refine ⟨Or.inr rfl, ?_⟩
    have g6 : ¬ (st_up σ 1 6 1).1 1 6 = 0 := by rw [st_up_at]; decide
    refine x_numF g6 (fun r => x_numF g6 (fun r => ⟨fun _ => ?_, fun z => absurd z g6⟩))
    exact hF _ (ts t n p) (XF.up1 (by omega)) (st_up_at _ _ _ _) (by rw [st_up_nat _ (by omega)]; exact h2) (Or.inl ⟨hs6, rfl⟩)
