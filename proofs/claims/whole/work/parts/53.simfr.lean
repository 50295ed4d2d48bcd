/-! PIT: what reading may change. -/
def XF (σ0 σ : St) : Prop := σ.2 = σ0.2 ∧ (∀ c, c ≠ 1 → (c < 3 ∨ 20 < c) → σ.1 c = σ0.1 c) ∧ σ.1 1 0 = σ0.1 1 0
def MF (τ0 τ : St) : Prop := τ.2 = τ0.2 ∧ (∀ c, c = 1 ∨ 8 ≤ c → τ.1 c = τ0.1 c) ∧ (∀ i, i < 9 ∨ 15 < i → τ.1 0 i = τ0.1 0 i) ∧ τ.1 2 0 = τ0.1 2 0 ∧ (∀ i, i < 6 → τ.1 3 i = τ0.1 3 i) ∧ (∀ i, i < 36 → τ.1 5 i = τ0.1 5 i) ∧ τ.1 6 0 = τ0.1 6 0 ∧ τ.1 7 0 = τ0.1 7 0
theorem XF.u {σ0 σ σ' : St} (h : XF σ0 σ) (hu : XU σ σ') : XF σ0 σ' := ⟨hu.1.trans h.1, fun c c1 c2 => (hu.2.1 c c1).trans (h.2.1 c c1 c2), (hu.2.2 0 (by omega)).trans h.2.2⟩
theorem MF.u {τ0 τ τ' : St} (h : MF τ0 τ) (hu : MU τ τ') : MF τ0 τ' := by
  obtain ⟨a1, a2, a3, a4, a5, a6, a7, a8⟩ := h
  refine ⟨hu.1.trans a1, fun c hc => (hu.2.1 c (by omega)).trans (a2 c hc), fun i hi => (hu.2.2 i (by omega)).trans (a3 i hi), ?_, ?_, ?_, ?_, ?_⟩
  · rw [hu.2.1 2 (by decide)]; exact a4
  · rw [hu.2.1 3 (by decide)]; exact a5
  · rw [hu.2.1 5 (by decide)]; exact a6
  · rw [hu.2.1 6 (by decide)]; exact a7
  · rw [hu.2.1 7 (by decide)]; exact a8
theorem Rl_F {σ σ' τ τ' : St} (hx : XF σ σ') (hm : MF τ τ') (h : Rl σ τ) : Rl σ' τ' := by
  obtain ⟨N, hc, hn, hi, hl, ht, htx, htr, hp⟩ := h
  obtain ⟨x1, x2, x3⟩ := hx
  obtain ⟨m1, m2, m3, m4, m5, m6, m7, m8⟩ := hm
  refine ⟨N, RC_A (σ := σ) (τ := τ) (fun c _ _ => x2 c (by omega) (by omega)) m4 m7 m8 m5 m6 hc, ?_, ?_, ?_, ?_, ?_, ?_, ?_⟩
  · unfold RN
    rw [x2 40 (by omega) (by omega), x2 41 (by omega) (by omega), x2 42 (by omega) (by omega), x2 39 (by omega) (by omega), m2 8 (by omega)]; exact hn
  · unfold RI
    rw [m2 9 (by omega), x2 52 (by omega) (by omega), x2 46 (by omega) (by omega), x2 47 (by omega) (by omega), x2 48 (by omega) (by omega), x2 44 (by omega) (by omega), x2 49 (by omega) (by omega), x2 50 (by omega) (by omega), x2 51 (by omega) (by omega), x2 45 (by omega) (by omega), m2 8 (by omega)]; exact hi
  · unfold RLt
    rw [x2 0 (by omega) (by omega), m3 24 (by omega), m2 14 (by omega), m2 15 (by omega), x2 72 (by omega) (by omega), x2 73 (by omega) (by omega)]; exact hl
  · unfold RT
    rw [x2 0 (by omega) (by omega), m3 27 (by omega), m2 16 (by omega), m2 17 (by omega), x2 74 (by omega) (by omega), x2 75 (by omega) (by omega)]; exact ht
  · unfold RX
    rw [x3, x2 2 (by omega) (by omega), m3 2 (by omega), m2 1 (by omega)]; exact htx
  · unfold RTr
    rw [x1, m1]; exact htr
  · have hN := hc.1
    unfold RP at hp ⊢
    rw [x2 53 (by omega) (by omega), x2 23 (by omega) (by omega), x2 21 (by omega) (by omega), x2 56 (by omega) (by omega), x2 54 (by omega) (by omega)]
    rcases hp with hp | ⟨w, v, h1, h2, h3, h4, h5, h6⟩
    · exact Or.inl hp
    · refine Or.inr ⟨w, v, h1, h2, h3, h4, h5, ?_⟩
      have hd : dfs N (xne σ') (σ.1 23) (σ.1 21 2) (σ.1 21 1) (nI v) (σ.1 56) w (σ.1 56) 0 [] (-1, []) = dfs N (xne σ) (σ.1 23) (σ.1 21 2) (σ.1 21 1) (nI v) (σ.1 56) w (σ.1 56) 0 [] (-1, []) := dfs_cong (fun a ha b _ => by rw [xne, x2 (25 + a) (by omega) (by omega)]) (fun _ _ => rfl) (fun _ _ => rfl) _ _ _ _ _ _ (fun _ _ => rfl)
      unfold PlanOK at h6 ⊢
      rw [hd]; exact h6
