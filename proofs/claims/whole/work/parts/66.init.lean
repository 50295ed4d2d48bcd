/-! takeDraft keeps the length of the text. -/
theorem m_takeDraft2 {N : Nat} {τ : St} {post : St → Prop} (hN : N ≤ 6) (hx : τ.1 2 1 = nI N) (h : ∀ τ', TD N τ τ' → τ'.1 0 2 = τ.1 0 2 → post τ') : f_X12_takeDraft τ post := by
  rw [f_X12_takeDraft]
  rintro _ rfl _ rfl
  have q0 : ∀ τ1 : St, (τ1.2 = τ.2 ∧ τ1.1 2 0 = nI N ∧ τ1.1 6 0 = τ.1 6 1 ∧ τ1.1 7 0 = τ.1 7 1 ∧ τ1.1 3 = τ.1 3 ∧ τ1.1 4 = τ.1 4 ∧ τ1.1 5 = τ.1 5 ∧ τ1.1 0 2 = τ.1 0 2) → ∃ n23 : Nat, f_X12_takeDraft_L38 (fun σ6 => ∃ n22 : Nat, f_X12_takeDraft_L67 (fun σ9 => ∃ n21 : Nat, f_X12_takeDraft_L88 (fun σ16 => ∀ σ17 : St, σ17 = (st_up σ16 8 14 0) → (∀ σ18 : St, σ18 = (st_up σ17 0 24 0) → (∀ σ19 : St, σ19 = (st_up σ18 0 27 0) → (∀ σ20 : St, σ20 = (st_up σ19 9 0 0) → (post (st_up σ20 9 1 0)))))) post n21 0 σ9) post n22 0 σ6) post n23 0 τ1 := by
    rintro τ1 ⟨a1, a2, a3, a4, a5, a6, a7, a8⟩
    refine (floop (P := fun n j => f_X12_takeDraft_L38 _ post n (nI j) (st_row τ1 5 (fl' (fun i => τ.1 5 (36 + i)) (τ.1 5) j))) 36 (fun n => ?_) (fun n j hj ih => ?_)).imp (fun n hn => by rw [fl_0, ← a7, st_row_id] at hn; exact hn)
    · rw [f_X12_takeDraft_L38]
      refine br_t (le_t (nl 36) rfl (by omega) (by omega)) ?_
      have g5 : ∀ i, i < 36 → (st_row τ1 5 (fl' (fun i => τ.1 5 (36 + i)) (τ.1 5) 36)).1 5 i = τ.1 5 (36 + i) := fun i hi => by rw [st_row_self, fl_lt hi]
      have b2 : (st_row τ1 5 (fl' (fun i => τ.1 5 (36 + i)) (τ.1 5) 36)).1 2 0 = nI N := a2
      have b6 : (st_row τ1 5 (fl' (fun i => τ.1 5 (36 + i)) (τ.1 5) 36)).1 6 0 = τ.1 6 1 := a3
      have b7 : (st_row τ1 5 (fl' (fun i => τ.1 5 (36 + i)) (τ.1 5) 36)).1 7 0 = τ.1 7 1 := a4
      have b3 : (st_row τ1 5 (fl' (fun i => τ.1 5 (36 + i)) (τ.1 5) 36)).1 3 = τ.1 3 := a5
      have b4 : (st_row τ1 5 (fl' (fun i => τ.1 5 (36 + i)) (τ.1 5) 36)).1 4 = τ.1 4 := a6
      have bb : (st_row τ1 5 (fl' (fun i => τ.1 5 (36 + i)) (τ.1 5) 36)).2 = τ.2 := a1
      have b0 : (st_row τ1 5 (fl' (fun i => τ.1 5 (36 + i)) (τ.1 5) 36)).1 0 2 = τ.1 0 2 := a8
      generalize st_row τ1 5 (fl' (fun i => τ.1 5 (36 + i)) (τ.1 5) 36) = τ2 at g5 b2 b6 b7 b3 b4 bb b0
      refine (floop (P := fun n j => f_X12_takeDraft_L67 _ post n (nI j) (st_row τ2 8 (fl' (fun _ => 0) (τ2.1 8) j))) 14 (fun n => ?_) (fun n j hj ih => ?_)).imp (fun n hn => by rw [fl_0, st_row_id] at hn; exact hn)
      · rw [f_X12_takeDraft_L67]
        refine br_t (le_t (nl 14) rfl (by omega) (by omega)) ?_
        refine (floop (P := fun n j => ∀ τ3 : St, (τ3.2 = τ.2 ∧ (∀ c, c ≠ 3 → c ≠ 8 → τ3.1 c = τ2.1 c) ∧ (∀ m, m < j → τ3.1 3 m = τ.1 3 (6 + m) ∧ τ3.1 8 m = τ.1 4 m) ∧ (∀ i, 6 ≤ i → τ3.1 3 i = τ.1 3 i) ∧ ∀ i, j ≤ i → i < 14 → τ3.1 8 i = 0) → f_X12_takeDraft_L88 _ post n (nI j) τ3) N (fun n τ3 hz => ?_) (fun n j hj ih τ3 hz => ?_)).imp (fun n hn => hn _ ⟨bb, fun c _ c8 => st_row_ne _ _ c8, fun m hm => absurd hm (by omega), fun i _ => by rw [st_row_ne _ _ (by decide), b3], fun i _ hi => by rw [st_row_self, fl_lt hi]⟩)
        · obtain ⟨z1, z2, z3, z4, z5⟩ := hz
          rw [f_X12_takeDraft_L88]
          refine br_t (le_t (by rw [z2 2 (by decide) (by decide)]; exact b2) rfl (Nat.le_refl _) (by omega)) ?_
          rintro _ rfl _ rfl _ rfl _ rfl
          refine h _ ⟨z1, ?_, ?_, ?_, fun i hi => ?_, fun m hm => ⟨?_, ?_⟩, fun i h1 h2 => ?_, rfl, rfl, rfl, rfl⟩ (show τ3.1 0 2 = _ by rw [z2 0 (by decide) (by decide)]; exact b0)
          · exact (show τ3.1 2 0 = _ by rw [z2 2 (by decide) (by decide)]; exact b2)
          · exact (show τ3.1 6 0 = _ by rw [z2 6 (by decide) (by decide)]; exact b6)
          · exact (show τ3.1 7 0 = _ by rw [z2 7 (by decide) (by decide)]; exact b7)
          · exact (show τ3.1 5 i = _ by rw [z2 5 (by decide) (by decide)]; exact g5 i hi)
          · exact (z3 m hm).1
          · have e : (st_up τ3 8 14 0).1 8 m = τ3.1 8 m := st_up_nat _ (by omega)
            exact e.trans (z3 m hm).2
          · by_cases c : i = 14
            · subst c; rfl
            · have e : (st_up τ3 8 14 0).1 8 i = τ3.1 8 i := st_up_nat _ c
              exact e.trans (z5 i h1 (by omega))
        · obtain ⟨z1, z2, z3, z4, z5⟩ := hz
          rw [f_X12_takeDraft_L88]
          refine br_f (le_f (by rw [z2 2 (by decide) (by decide)]; exact b2) rfl hj (by omega)) ?_
          rw [nl 6, nI_add, Int32.zero_add, nI_clamp (by omega), nI_clamp (by omega), nI_1]
          refine ⟨pk_in (6 + j) 12 (by omega), pk_in j 12 (by omega), pk_in j 6 (by omega), ?_⟩
          rintro _ rfl
          refine ⟨pk_in j 465 (by omega), ih _ ⟨z1, fun c c3 c8 => ?_, fun m hm => ?_, fun i hi => ?_, fun i h1 h2 => ?_⟩⟩
          · rw [st_up_ne _ c8, st_up_ne _ c3]; exact z2 c c3 c8
          · by_cases e : m = j
            · subst e
              refine ⟨?_, ?_⟩
              · rw [st_up_ne _ (by decide), st_up_at]; exact z4 _ (by omega)
              · rw [st_up_at, st_up_ne _ (by decide), z2 4 (by decide) (by decide), b4]
            · rw [st_up_ne (c := 8) (c' := 3) _ (by decide), st_up_nat _ e, st_up_nat _ e, st_up_ne (c := 3) (c' := 8) _ (by decide)]
              exact z3 m (by omega)
          · rw [st_up_ne _ (by decide), st_up_nat _ (by omega)]; exact z4 i hi
          · rw [st_up_nat _ (by omega), st_up_ne _ (by decide)]; exact z5 i (by omega) h2
      · rw [f_X12_takeDraft_L67]
        refine br_f (le_f (nl 14) rfl hj (by omega)) ⟨pk_in j 465 (by omega), ?_⟩
        have e := fl_succ (fun _ => 0) (τ2.1 8) j
        rw [nI_clamp (by omega), st_up_row, nI_1, e]
        exact ih
    · rw [f_X12_takeDraft_L38]
      refine br_f (le_f (nl 36) rfl hj (by omega)) ?_
      have e := fl_succ (fun i => τ.1 5 (36 + i)) (τ.1 5) j
      rw [nl 36, nI_add, nI_clamp (by omega), nI_clamp (by omega), st_up_row, st_row_self, fl_ge (by omega), e, nI_1]
      exact ⟨pk_in (36 + j) 72 (by omega), pk_in j 72 (by omega), ih⟩
  exact q0 _ ⟨rfl, hx, rfl, rfl, rfl, rfl, rfl, rfl⟩
