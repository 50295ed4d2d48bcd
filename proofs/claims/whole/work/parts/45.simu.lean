/-! PIT: X reads a token. -/
theorem spB_iff {t : Nat → Nat} {n j : Nat} : spB t n j = true ↔ j < n ∧ t j = 32 := by
  rw [spB, Bool.and_eq_true, decide_eq_true_eq, decide_eq_true_eq]
theorem kdB_iff {t : Nat → Nat} {n k j : Nat} : kdB t n k j = true ↔ j < n ∧ kd t n j = k := by
  rw [kdB, Bool.and_eq_true, decide_eq_true_eq, decide_eq_true_eq]
theorem kd_le (t : Nat → Nat) (n j : Nat) : kd t n j ≤ 4 := by
  rw [kd]; split
  · split
    · omega
    · split
      · omega
      · split <;> omega
  · omega
theorem kd_0 {t : Nat → Nat} {n j : Nat} : kd t n j = 0 ↔ ¬ j < n := by
  rw [kd]; split
  · rename_i h
    refine ⟨fun e => ?_, fun e => absurd h e⟩
    split at e
    · omega
    · split at e
      · omega
      · split at e <;> omega
  · rename_i h
    exact ⟨fun _ => h, fun _ => rfl⟩
theorem kd_1 {t : Nat → Nat} {n j : Nat} (h : kd t n j = 1) : j < n ∧ 97 ≤ t j ∧ t j ≤ 122 := by
  have hj : j < n := Classical.byContradiction fun w => by rw [kd_0.mpr w] at h; omega
  rw [kd, if_pos hj] at h
  by_cases c : 97 ≤ t j ∧ t j ≤ 122
  · exact ⟨hj, c⟩
  · rw [if_neg c] at h
    split at h
    · omega
    · split at h <;> omega
theorem kd_2 {t : Nat → Nat} {n j : Nat} (h : kd t n j = 2) : j < n ∧ 48 ≤ t j ∧ t j ≤ 57 := by
  have hj : j < n := Classical.byContradiction fun w => by rw [kd_0.mpr w] at h; omega
  rw [kd, if_pos hj] at h
  by_cases c : 97 ≤ t j ∧ t j ≤ 122
  · rw [if_pos c] at h; omega
  · rw [if_neg c] at h
    by_cases c2 : 48 ≤ t j ∧ t j ≤ 57
    · exact ⟨hj, c2⟩
    · rw [if_neg c2] at h
      split at h <;> omega
theorem x_value {t : Nat → Nat} {n p k : Nat} {σ0 σ : St} {post : St → Prop} (ht : TX t n σ) (hp : p ≤ n) (hk : kd t n (ts t n p) = k) (h12 : k = 1 ∨ k = 2) (hx : XT σ0 σ) (h2 : σ.1 1 2 = nI (ts t n p)) (h3 : σ.1 1 3 = nI (te t n p)) (h4 : σ.1 1 4 = nI k)
    (h : ∀ σ', XT σ0 σ' → XK t n p σ' → post σ') : f_X10_readsToken_J134 post σ := by
  obtain ⟨t1, t2, t3⟩ := id ht
  obtain ⟨e1, e2, e3, e4⟩ := te_spec (t := t) t1 hp hk h12
  rw [f_X10_readsToken_J134, h3, h2, pk_sub (by omega), f_X10_readsValue, h4, h2, nI_clamp (by omega)]
  have hsn : ts t n p < n := by omega
  obtain ⟨t4, t5⟩ := t3 _ hsn
  have u5 : ∀ x, XT σ0 (st_up σ 1 5 x) := fun x => hx.tr (XT.up (by omega))
  have u4 : ∀ x, XT σ0 (st_up σ 1 4 x) := fun x => hx.tr (XT.up (by omega))
  have r52 : ∀ x, (st_up σ 1 5 x).1 1 2 = nI (ts t n p) := fun x => by rw [st_up_nat _ (by omega)]; exact h2
  have r53 : ∀ x, (st_up σ 1 5 x).1 1 3 = nI (te t n p) := fun x => by rw [st_up_nat _ (by omega)]; exact h3
  have r54 : ∀ x, (st_up σ 1 5 x).1 1 4 = nI k := fun x => by rw [st_up_nat _ (by omega)]; exact h4
  have r42 : ∀ x, (st_up σ 1 4 x).1 1 2 = nI (ts t n p) := fun x => by rw [st_up_nat _ (by omega)]; exact h2
  rcases h12 with rfl | rfl
  · have hV : tV t n p = t (ts t n p) := by rw [tV, if_pos hk]
    refine ⟨fun w => absurd rfl w, fun _ => ⟨fun w => ?_, fun w => ?_⟩⟩
    · have hl : te t n p - ts t n p ≠ 1 := fun e => w (by rw [e]; rfl)
      have hK : tK t n p = 4 := by rw [tK, if_pos hk, if_neg hl]
      refine h _ (u5 _) ⟨r52 _, fun z => absurd hK z, fun z => by omega, fun z => by omega, fun z => by omega, fun z => by omega, fun _ => Or.inr ⟨r54 _, st_up_at _ _ _ _⟩⟩
    · have hl : te t n p - ts t n p = 1 := nI_ij (by omega) (by omega) w
      have hK : tK t n p = 1 := by rw [tK, if_pos hk, if_pos hl]
      refine ⟨pk_in (ts t n p) 150 (by omega), h _ (u5 _) ⟨r52 _, fun _ => r53 _, fun z => by omega, fun _ => ⟨r54 _, ?_⟩, fun z => by omega, fun z => by omega, fun z => by omega⟩⟩
      rw [st_up_at, t5, hV]
  · have hd := kd_2 hk
    refine ⟨fun _ => ⟨fun w => ⟨fun w2 => ?_, fun w2 => ?_⟩, fun w => ?_⟩, fun w => absurd w (by decide)⟩
    · have hl : te t n p - ts t n p ≠ 1 := fun e => w (by rw [e]; rfl)
      have hl2 : te t n p - ts t n p ≠ 2 := fun e => w2 (by rw [e]; rfl)
      have hK : tK t n p = 4 := by rw [tK, if_neg (by omega), if_pos hk, if_neg hl, if_neg (by omega)]
      exact h _ (u4 _) ⟨r42 _, fun z => absurd hK z, fun z => by omega, fun z => by omega, fun z => by omega, fun z => by omega, fun _ => Or.inl (st_up_at _ _ _ _)⟩
    · have hl : te t n p - ts t n p ≠ 1 := fun e => w (by rw [e]; rfl)
      have hl2 : te t n p - ts t n p = 2 := nI_ij (by omega) (by omega) w2
      refine ⟨pk_in (ts t n p) 150 (by omega), ?_⟩
      rw [t5]
      refine ⟨fun w3 => ?_, fun w3 => ⟨pk_in (ts t n p) 150 (by omega), ?_⟩⟩
      · have h48 : t (ts t n p) = 48 := nI_ij (b := 48) (by omega) (by omega) w3
        have hK : tK t n p = 4 := by rw [tK, if_neg (by omega), if_pos hk, if_neg hl, if_neg (by omega)]
        exact h _ (u4 _) ⟨r42 _, fun z => absurd hK z, fun z => by omega, fun z => by omega, fun z => by omega, fun z => by omega, fun _ => Or.inl (st_up_at _ _ _ _)⟩
      · have h48 : t (ts t n p) ≠ 48 := fun e => w3 (by rw [e]; rfl)
        have hK : tK t n p = 2 := by rw [tK, if_neg (by omega), if_pos hk, if_neg hl, if_pos ⟨hl2, h48⟩]
        have hV : tV t n p = 10 * (t (ts t n p) - 48) + (t (ts t n p + 1) - 48) := by rw [tV, if_neg (by omega), if_neg hl]
        have hd2 := kd_2 (kdB_iff.mp (e4 (ts t n p + 1) (by omega) (by omega))).2
        rw [nI_1, nI_clamp (by omega), (t3 _ hd2.1).2]
        refine ⟨pk_in (ts t n p + 1) 150 (by omega), h _ (u5 _) ⟨r52 _, fun _ => r53 _, fun z => by omega, fun z => by omega, fun _ => ⟨r54 _, ?_⟩, fun z => by omega, fun z => by omega⟩⟩
        rw [st_up_at, hV, nl 48, pk_sub (by omega), nl 10, pk_mul, nI_add, pk_sub (by omega)]
        congr 1
        omega
    · have hl : te t n p - ts t n p = 1 := nI_ij (by omega) (by omega) w
      have hK : tK t n p = 2 := by rw [tK, if_neg (by omega), if_pos hk, if_pos hl]
      have hV : tV t n p = t (ts t n p) - 48 := by rw [tV, if_neg (by omega), if_pos hl]
      refine ⟨pk_in (ts t n p) 150 (by omega), h _ (u5 _) ⟨r52 _, fun _ => r53 _, fun z => by omega, fun z => by omega, fun _ => ⟨r54 _, ?_⟩, fun z => by omega, fun z => by omega⟩⟩
      rw [st_up_at, t5, hV, nl 48, pk_sub (by omega)]
theorem x_run {t : Nat → Nat} {n p k : Nat} {σ0 : St} {k134 post : St → Prop} (hp : p ≤ n) (ht0 : TX t n σ0) (hk : kd t n (ts t n p) = k) (h12 : k = 1 ∨ k = 2)
    (h : ∀ σ, XT σ0 σ → σ.1 1 2 = nI (ts t n p) → σ.1 1 3 = nI (te t n p) → σ.1 1 4 = nI k → k134 σ) : ∀ σ, XT σ0 σ → σ.1 1 2 = nI (ts t n p) → σ.1 1 3 = nI (ts t n p) → σ.1 1 4 = nI k → ∃ i, f_X10_readsToken_L95 k134 post i σ := by
  intro σ hx h2 h3 h4
  obtain ⟨e1, e2, e3, e4⟩ := te_spec (t := t) ht0.1 hp hk h12
  have hn := ht0.1
  refine (floop (P := fun i j => ∀ σ, XT σ0 σ → σ.1 1 2 = nI (ts t n p) → σ.1 1 3 = nI (ts t n p + j) → σ.1 1 4 = nI k → f_X10_readsToken_L95 k134 post i σ) (te t n p - ts t n p) (fun i σ hx h2 h3 h4 => ?_) (fun i j hj ih σ hx h2 h3 h4 => ?_)).imp (fun i hi => hi σ hx h2 h3 h4)
  · rw [show ts t n p + (te t n p - ts t n p) = te t n p by omega] at h3
    rw [f_X10_readsToken_L95, h3, (ht0.t hx).2.1]
    refine ⟨fun _ => h σ hx h2 h3 h4, fun q => x_signAt (ht0.t hx) (by omega) ⟨fun _ => h σ hx h2 h3 h4, fun w => ?_⟩⟩
    have hlt : te t n p < n := Nat.lt_of_not_le fun z => q (nI_le z (by omega))
    rw [h4] at w
    have := nI_ij (by have := kd_le t n (te t n p); omega) (by omega) w
    rw [kdB_iff.mpr ⟨hlt, this⟩] at e1
    cases e1
  · have hb := kdB_iff.mp (e4 (ts t n p + j) (by omega) (by omega))
    rw [f_X10_readsToken_L95, h3, (ht0.t hx).2.1]
    refine br_f (nI_ge hb.1 (by omega)) (x_signAt (ht0.t hx) (by omega) ?_)
    rw [hb.2, h4]
    refine ⟨fun w => absurd rfl w, fun _ => ih _ (hx.tr (XT.up (by omega))) ?_ ?_ ?_⟩
    · rw [st_up_nat _ (by omega)]; exact h2
    · rw [st_up_at, h3, nI_1]; rfl
    · rw [st_up_nat _ (by omega)]; exact h4
theorem x_tok {t : Nat → Nat} {n p : Nat} {σ : St} {post : St → Prop} (ht : TX t n σ) (hp : p ≤ n) (h3 : σ.1 1 3 = nI p) (h : ∀ σ', XT σ σ' → XK t n p σ' → post σ') : f_X10_readsToken σ post := by
  have hn := ht.1
  obtain ⟨s1, s2, s3, s4⟩ := ts_spec (t := t) hn hp
  rw [f_X10_readsToken]
  have hJ : ∀ σ1, XT σ σ1 → σ1.1 1 3 = nI (ts t n p) → f_X10_readsToken_J38 post σ1 := by
    intro σ1 hx h3
    rw [f_X10_readsToken_J38, st_up_at, h3]
    have hx2 : XT σ (st_up σ1 1 2 (nI (ts t n p))) := hx.tr (XT.up (by omega))
    refine x_signAt (ht.t hx2) (by omega) ?_
    rw [st_up_at]
    generalize hk : kd t n (ts t n p) = k
    have hk4 := kd_le t n (ts t n p)
    have hx3 : XT σ (st_up (st_up σ1 1 2 (nI (ts t n p))) 1 4 (nI k)) := hx2.tr (XT.up (by omega))
    have h2' : (st_up (st_up σ1 1 2 (nI (ts t n p))) 1 4 (nI k)).1 1 2 = nI (ts t n p) := by
      rw [st_up_nat _ (by omega), st_up_at]
    have h3' : (st_up (st_up σ1 1 2 (nI (ts t n p))) 1 4 (nI k)).1 1 3 = nI (ts t n p) := by
      rw [st_up_nat _ (by omega), st_up_nat _ (by omega)]; exact h3
    have h4' : (st_up (st_up σ1 1 2 (nI (ts t n p))) 1 4 (nI k)).1 1 4 = nI k := st_up_at _ _ _ _
    have hrun : (k = 1 ∨ k = 2) → ∃ i, f_X10_readsToken_L95 (fun σ13 => f_X10_readsToken_J134 post σ13) post i (st_up (st_up σ1 1 2 (nI (ts t n p))) 1 4 (nI k)) := fun h12 => x_run hp ht hk h12 (fun σ2 hx h2 h3 h4 => x_value (ht.t hx) hp hk h12 hx h2 h3 h4 h) _ hx3 h2' h3' h4'
    refine ⟨fun w3 => ⟨fun w1 => hrun (Or.inl (nI_ij (b := 1) (by omega) (by omega) w1)), fun w1 => ⟨fun w2 => ?_, fun w2 => hrun (Or.inr (nI_ij (b := 2) (by omega) (by omega) w2))⟩⟩, fun w3 => ?_⟩
    · have k1 : k ≠ 1 := fun e => w1 (by rw [e]; rfl)
      have k2 : k ≠ 2 := fun e => w2 (by rw [e]; rfl)
      have k3 : k ≠ 3 := fun e => w3 (by rw [e]; rfl)
      have hK : tK t n p = k := by rw [tK, if_neg (by omega), if_neg (by omega), hk]
      have hE : te t n p = ts t n p := by rw [te, if_neg (by omega), if_neg (by omega)]
      refine h _ hx3 ⟨h2', fun _ => by rw [hE]; exact h3', fun z => ?_, fun z => by omega, fun z => by omega, fun z => by omega, fun z => Or.inl ?_⟩
      · rw [h4', ← hK, z]; rfl
      · rw [h4', ← hK, z]; rfl
    · rintro _ rfl
      have k3 : k = 3 := nI_ij (b := 3) (by omega) (by omega) w3
      have hK : tK t n p = 3 := by rw [tK, if_neg (by omega), if_neg (by omega), hk, k3]
      have hE : te t n p = ts t n p + 1 := by rw [te, if_pos (by omega)]
      refine h _ (hx3.tr (XT.up (by omega))) ⟨?_, fun _ => ?_, fun z => by omega, fun z => by omega, fun z => by omega, fun z => ?_, fun z => by omega⟩
      · rw [st_up_nat _ (by omega)]; exact h2'
      · rw [st_up_at, h3', hE, nI_1]
      · rw [st_up_nat _ (by omega), h4', k3]; rfl
  refine (floop (P := fun i j => ∀ σ1, XT σ σ1 → σ1.1 1 3 = nI (p + j) → f_X10_readsToken_L0 (fun σ4 => f_X10_readsToken_J38 post σ4) post i σ1) (ts t n p - p) (fun i σ1 hx h3 => ?_) (fun i j hj ih σ1 hx h3 => ?_)).imp (fun i hi => hi σ XT.rf h3)
  · rw [show p + (ts t n p - p) = ts t n p by omega] at h3
    rw [f_X10_readsToken_L0, h3, (ht.t hx).2.1, nI_clamp (by omega)]
    refine ⟨fun _ => hJ σ1 hx h3, fun q => ?_⟩
    have hlt : ts t n p < n := Nat.lt_of_not_le fun z => q (nI_le z (by omega))
    refine ⟨pk_in (ts t n p) 150 (by omega), fun _ => hJ σ1 hx h3, fun w => ?_⟩
    obtain ⟨u1, u2⟩ := (ht.t hx).2.2 _ hlt
    rw [u2] at w
    have := nI_ij (b := 32) (by omega) (by omega) w
    rw [spB_iff.mpr ⟨hlt, this⟩] at s1
    cases s1
  · have hb := spB_iff.mp (s4 (p + j) (by omega) (by omega))
    obtain ⟨u1, u2⟩ := (ht.t hx).2.2 _ hb.1
    rw [f_X10_readsToken_L0, h3, (ht.t hx).2.1, nI_clamp (by omega), u2, hb.2, nI_1]
    refine br_f (nI_ge hb.1 (by omega)) ⟨pk_in (p + j) 150 (by omega), fun w => absurd rfl w, fun _ => ih _ (hx.tr (XT.up (by omega))) ?_⟩
    rw [st_up_at]; rfl
