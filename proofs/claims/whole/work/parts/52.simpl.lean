/-! PIT: the empty draft. -/
theorem x_empties {σ : St} {post : St → Prop} (h : ∀ σ', σ'.2 = σ.2 → (∀ c, c ≠ 3 → (c < 7 ∨ 12 < c) → σ'.1 c = σ.1 c) → σ'.1 3 0 = 0 → σ'.1 3 1 = 3 → σ'.1 3 2 = 5 → (∀ a, a < 6 → ∀ b, b < 6 → σ'.1 (7 + a) b = 0) → post σ') : f_X0_empties σ post := by
  rw [f_X0_empties]
  rintro _ rfl _ rfl
  refine (floop (P := fun n j => ∀ σ1 : St, (σ1.2 = σ.2 ∧ (∀ c, c ≠ 3 → (c < 7 ∨ 12 < c) → σ1.1 c = σ.1 c) ∧ σ1.1 3 0 = 0 ∧ σ1.1 3 1 = 3 ∧ σ1.1 3 2 = 5 ∧ ∀ a, a < j → ∀ b, b < 6 → σ1.1 (7 + a) b = 0) → f_X0_empties_L17 post n (nI j) σ1) 6 (fun n σ1 hz => ?_) (fun n j hj ih σ1 hz => ?_)).imp (fun n hn => hn _ ⟨rfl, fun c c3 _ => by rw [st_up_ne _ c3, st_up_ne _ c3, st_up_ne _ c3], rfl, rfl, rfl, fun a ha => absurd ha (by omega)⟩)
  · obtain ⟨z1, z2, z3, z4, z5, z6⟩ := hz
    rw [f_X0_empties_L17]
    exact br_t (le_t (nl 6) rfl (by omega) (by omega)) (h σ1 z1 z2 z3 z4 z5 z6)
  · obtain ⟨z1, z2, z3, z4, z5, z6⟩ := hz
    rw [f_X0_empties_L17]
    refine br_f (le_f (nl 6) rfl hj (by omega)) ⟨pk_in j 6 hj, ?_⟩
    rw [nI_clamp (by omega), nI_1]
    refine x_fill (by decide) (ih _ ⟨z1, fun c c3 c7 => ?_, ?_, ?_, ?_, fun a ha b hb => ?_⟩)
    · rw [st_row_ne _ _ (by omega)]; exact z2 c c3 c7
    · rw [st_row_ne _ _ (by omega)]; exact z3
    · rw [st_row_ne _ _ (by omega)]; exact z4
    · rw [st_row_ne _ _ (by omega)]; exact z5
    · by_cases e : a = j
      · subst e; rw [st_row_self, fl_lt hb]
      · rw [st_row_ne _ _ (by omega)]; exact z6 a (by omega) b hb
theorem m_plain {τ : St} {post : St → Prop} (h : ∀ τ', τ'.2 = τ.2 → (∀ c, c ≠ 0 → c ≠ 2 → c ≠ 5 → c ≠ 6 → c ≠ 7 → τ'.1 c = τ.1 c) → (∀ i, i ≠ 14 → i ≠ 15 → τ'.1 0 i = τ.1 0 i) → τ'.1 0 14 = 0 → τ'.1 0 15 = 0 → τ'.1 2 0 = τ.1 2 0 → τ'.1 2 1 = 0 → τ'.1 6 0 = τ.1 6 0 → τ'.1 6 1 = 3 → τ'.1 7 0 = τ.1 7 0 → τ'.1 7 1 = 5 → (∀ i, i < 36 → τ'.1 5 i = τ.1 5 i ∧ τ'.1 5 (36 + i) = 0) → post τ') : f_X12_plain τ post := by
  rw [f_X12_plain]
  rintro _ rfl _ rfl _ rfl _ rfl
  have key : ∀ τ1 : St, (τ1.2 = τ.2 ∧ (∀ c, c ≠ 0 → c ≠ 2 → c ≠ 5 → c ≠ 6 → c ≠ 7 → τ1.1 c = τ.1 c) ∧ (∀ i, i ≠ 14 → i ≠ 15 → τ1.1 0 i = τ.1 0 i) ∧ τ1.1 0 14 = 0 ∧ τ1.1 0 15 = 0 ∧ τ1.1 2 0 = τ.1 2 0 ∧ τ1.1 2 1 = 0 ∧ τ1.1 6 0 = τ.1 6 0 ∧ τ1.1 6 1 = 3 ∧ τ1.1 7 0 = τ.1 7 0 ∧ τ1.1 7 1 = 5 ∧ τ1.1 5 = τ.1 5) → ∃ n, f_X12_plain_L33 post n 0 τ1 := by
    rintro τ1 ⟨a1, a2, a3, a4, a5, a6, a7, a8, a9, a10, a11, a12⟩
    refine (floop (P := fun n j => ∀ g : Nat → Int32, (∀ i, i < 36 → g i = τ.1 5 i) → (∀ i, i < j → g (36 + i) = 0) → f_X12_plain_L33 post n (nI j) (st_row τ1 5 g)) 36 (fun n g g1 g2 => ?_) (fun n j hj ih g g1 g2 => ?_)).imp (fun n hn => by
      have := hn (τ1.1 5) (fun i _ => by rw [a12]) (fun i hi => absurd hi (by omega))
      rw [st_row_id] at this
      exact this)
    · rw [f_X12_plain_L33]
      refine br_t (le_t (nl 36) rfl (by omega) (by omega)) (h _ a1 (fun c c0 c2 c5 c6 c7 => ?_) (fun i i1 i2 => a3 i i1 i2) a4 a5 a6 a7 a8 a9 a10 a11 (fun i hi => ?_))
      · rw [st_row_ne _ _ c5]; exact a2 c c0 c2 c5 c6 c7
      · rw [st_row_self]; exact ⟨g1 i hi, g2 i hi⟩
    · rw [f_X12_plain_L33]
      refine br_f (le_f (nl 36) rfl hj (by omega)) ?_
      rw [nl 36, nI_add, nI_clamp (by omega), st_up_row, nI_1]
      refine ⟨pk_in (36 + j) 72 (by omega), ih _ (fun i hi => ?_) (fun i hi => ?_)⟩
      · rw [pk_un (by omega)]; exact g1 i hi
      · by_cases e : i = j
        · rw [e, pk_us]
        · rw [pk_un (by omega)]; exact g2 i (by omega)
  refine key _ ⟨rfl, fun c c0 c2 c5 c6 c7 => ?_, fun i i1 i2 => ?_, rfl, rfl, rfl, rfl, rfl, rfl, rfl, rfl, rfl⟩
  · rw [st_up_ne _ c0, st_up_ne _ c0, st_up_ne _ c7, st_up_ne _ c6, st_up_ne _ c2]
  · rw [st_up_nat _ i2, st_up_nat _ i1]; rfl
