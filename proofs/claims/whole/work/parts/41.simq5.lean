/-! PLAN of the model. -/
def MS (N w C : Nat) (τ : St) : Prop := N ≤ 6 ∧ 1 ≤ w ∧ w ≤ 3 ∧ C ≤ 6 ∧ τ.1 2 0 = nI N ∧ τ.1 6 0 = nI C ∧ ∀ m, m < N → τ.1 5 (6 * m + m) = 0
def MQ5 (w : Nat) (τ : St) (b : Int32 × List Int32) (τ1 : St) : Prop := τ1.2 = τ.2 ∧ (∀ c, c ≠ 11 → c ≠ 12 → τ1.1 c = τ.1 c) ∧ (b.1 = -1 ∨ ∀ i, i < w → τ1.1 12 i = b.2.getD i 0)
abbrev mdfs (N v : Nat) (τ : St) := dfs N (mne τ) (τ.1 3) (τ.1 7 0) (τ.1 6 0) (nI v) (τ.1 8)
theorem MQ5.row {w : Nat} {τ τ1 : St} {b : Int32 × List Int32} {g : Nat → Int32} (h : MQ5 w τ b τ1) : MQ5 w τ b (st_row τ1 11 g) := ⟨h.1, fun c c1 c2 => by rw [st_row_ne _ _ c1]; exact h.2.1 c c1 c2, by rw [st_row_ne _ _ (by decide)]; exact h.2.2⟩
theorem MQ5.ms {N w C : Nat} {τ τ1 : St} {b : Int32 × List Int32} (h : MQ5 w τ b τ1) (hm : MS N w C τ) : MS N w C τ1 := by
  obtain ⟨m1, m2, m3, m4, m5, m6, m7⟩ := hm
  exact ⟨m1, m2, m3, m4, by rw [h.2.1 2 (by decide) (by decide)]; exact m5, by rw [h.2.1 6 (by decide) (by decide)]; exact m6, by rw [h.2.1 5 (by decide) (by decide)]; exact m7⟩
theorem m_isFull {N q v : Nat} {τ : St} {post : Int32 → St → Prop} (hN : N ≤ 6) (hx : τ.1 2 0 = nI N) (hq : q ≤ 3) (h1 : holdB N (nI v) (τ.1 8) (fun m => τ.1 11 (6 * q + m)) = true → post 1 τ) (h0 : ¬ holdB N (nI v) (τ.1 8) (fun m => τ.1 11 (6 * q + m)) = true → post 0 τ) : f_X12_isFull (nI q) (nI v) τ post := by
  rw [f_X12_isFull]
  refine floop (P := fun n j => f_X12_isFull_L5 (nI q) (nI v) post n (if allB (fun m => decide (τ.1 8 m < nI v ∨ ¬ τ.1 11 (6 * q + m) < nI v)) j = true then 1 else 0) (nI j) τ) N (fun n => ?_) (fun n j hj ih => ?_)
  · rw [f_X12_isFull_L5]
    refine br_t (le_t hx rfl (Nat.le_refl _) (by omega)) ?_
    by_cases c : allB (fun m => decide (τ.1 8 m < nI v ∨ ¬ τ.1 11 (6 * q + m) < nI v)) N = true
    · rw [if_pos c]
      refine ⟨Or.inr rfl, h1 (holdB_iff.mpr (fun m hm => ?_))⟩
      exact of_decide_eq_true (allB_iff.mp c m hm)
    · rw [if_neg c]
      refine ⟨Or.inl rfl, h0 (fun w => c (allB_iff.mpr (fun m hm => decide_eq_true ?_)))⟩
      exact holdB_iff.mp w m hm
  · rw [f_X12_isFull_L5]
    refine br_f (le_f hx rfl hj (by omega)) ?_
    rw [allB] at ih
    rw [nI_1]
    by_cases c : allB (fun m => decide (τ.1 8 m < nI v ∨ ¬ τ.1 11 (6 * q + m) < nI v)) j = true
    · rw [if_pos c]
      rw [c, Bool.true_and] at ih
      refine br_f (by decide) ?_
      rw [Int32.zero_add, nI_clamp (by omega), nl 6, pk_mul, nI_add, nI_clamp (by omega)]
      refine ⟨pk_in j 465 (by omega), fun w => ?_, fun w => ⟨pk_in (6 * q + j) 36 (by omega), fun w2 => ?_, fun w2 => ?_⟩⟩
      · rw [if_pos (decide_eq_true (Or.inl w))] at ih; exact ih
      · rw [if_neg (fun e => (of_decide_eq_true e).elim w (fun z => z w2))] at ih; exact ih
      · rw [if_pos (decide_eq_true (Or.inr w2))] at ih; exact ih
    · rw [if_neg c]
      rw [if_neg (fun w => c ((Bool.and_eq_true _ _).mp w).1)] at ih
      exact br_t rfl ih
theorem isS_0 {N C : Nat} (hC : C ≤ 6) : isS N (nI C) (nI 0) := ⟨0, Nat.pow_pos (by omega), rfl, by rw [bc_0]; exact nI_pos (by omega)⟩
theorem pw1 {N : Nat} : 0 < 2 ^ N := Nat.pow_pos (by omega)
/-- three tries laid down -/
theorem MQ5.tries {w : Nat} {τ τ1 : St} {b : Int32 × List Int32} {acc x y z : Int32} {way : List Int32} (hw : w ≤ 3) (h : MQ5 w τ b τ1) (hway : ∀ i, i < w → way.getD i 0 = [x, y, z].getD i 0) : MQ5 w τ (acc, way) (st_up (st_up (st_up τ1 12 0 x) 12 1 y) 12 2 z) := by
  refine ⟨h.1, fun c c1 c2 => ?_, Or.inr (fun i hi => ?_)⟩
  · rw [st_up_ne _ c2, st_up_ne _ c2, st_up_ne _ c2]; exact h.2.1 c c1 c2
  · rw [hway i hi]
    match i, (show i < 3 by omega) with
    | 0, _ => rfl
    | 1, _ => rfl
    | 2, _ => rfl
theorem m_L200 {N w v C : Nat} {τ : St} {a3 v6 v7 v8 v9 v10 : Int32} {way : List Int32} {b : Int32 × List Int32} {k323 : Int32 → Int32 → Int32 → Int32 → Int32 → Int32 → St → Prop} {post : Int32 → St → Prop} (hs : MS N w C τ) (hw2 : w ≤ 2 → ∀ i, i < w → way.getD i 0 = [v6, v9, 0].getD i 0) (hw3 : w = 3 → way = [v6, v9]) {τ1 : St} (hq : MQ5 w τ b τ1)
    (h : ∀ τ2, MQ5 w τ (mdfs N v τ (w - 2) (fun m => τ1.1 11 (12 + m)) (v7 + v10) way b) τ2 → (∀ i, i < 18 → τ2.1 11 i = τ1.1 11 i) → k323 (nI (2 ^ N)) (mdfs N v τ (w - 2) (fun m => τ1.1 11 (12 + m)) (v7 + v10) way b).1 v6 v7 v8 v9 τ2) :
    ∃ n, f_X12_plan_L200 (nI w) (nI v) a3 k323 post n (nI (2 ^ N)) b.1 v6 v7 v8 v9 v10 1 0 τ1 := by
  obtain ⟨m1, m2, m3, m4, m5, m6, m7⟩ := id hs
  have hp := pw6 m1
  have hp0 := pw1 (N := N)
  generalize hx2 : (fun m => τ1.1 11 (12 + m)) = x2 at h
  by_cases c3 : w = 3
  · rw [show w - 2 = 0 + 1 by omega, mdfs, dfs] at h
    generalize hS : (fun (k : Nat) (b : Int32 × List Int32) => if decide (τ.1 6 0 < bc (nI k)) = false ∧ holdB N (nI v) (τ.1 8) (lrow N (mne τ) (τ.1 3) (nI k) x2) = true then dfs N (mne τ) (τ.1 3) (τ.1 7 0) (τ.1 6 0) (nI v) (τ.1 8) 0 (lrow N (mne τ) (τ.1 3) (nI k) x2) ((v7 + v10) + brs N (mne τ) (τ.1 7 0) (nI k) x2) (way ++ [nI k]) b else b) = S at h
    have hSn : ∀ k b, ¬ (¬ τ.1 6 0 < bc (nI k) ∧ holdB N (nI v) (τ.1 8) (lrow N (mne τ) (τ.1 3) (nI k) x2) = true) → S k b = b := fun k b q => by
      rw [← hS]
      exact if_neg (fun w => q ⟨of_decide_eq_false w.1, w.2⟩)
    have hSy : ∀ k b, ¬ τ.1 6 0 < bc (nI k) → holdB N (nI v) (τ.1 8) (lrow N (mne τ) (τ.1 3) (nI k) x2) = true → S k b = if b.1 < (v7 + v10) + brs N (mne τ) (τ.1 7 0) (nI k) x2 then ((v7 + v10) + brs N (mne τ) (τ.1 7 0) (nI k) x2, way ++ [nI k]) else b := fun k b q1 q2 => by
      rw [← hS]
      exact if_pos ⟨decide_eq_false q1, q2⟩
    refine (floop (P := fun n k => ∀ τ2, MQ5 w τ (fo S k b) τ2 → (∀ i, i < 18 → τ2.1 11 i = τ1.1 11 i) → f_X12_plan_L200 (nI w) (nI v) a3 k323 post n (nI (2 ^ N)) (fo S k b).1 v6 v7 v8 v9 v10 1 (nI k) τ2) (2 ^ N) (fun n τ2 hq2 hr2 => ?_) (fun n k hk ih τ2 hq2 hr2 => ?_)).imp (fun n hn => hn τ1 hq (fun _ _ => rfl))
    · rw [f_X12_plan_L200]
      exact br_t (le_t rfl rfl (Nat.le_refl _) (by omega)) (h τ2 hq2 hr2)
    · rw [f_X12_plan_L200]
      refine br_f (le_f rfl rfl hk (by omega)) (br_f (by decide) ?_)
      rw [fo] at ih
      generalize fo S k b = bk at ih hq2
      obtain ⟨n1, n2, n3, n4, n5, n6, n7⟩ := hq2.ms hs
      refine m_isShift n5 n1 (fun q => ⟨fun w => absurd w (by decide), fun _ => ?_⟩) (fun q => ⟨fun _ => ?_, fun w => absurd rfl w⟩)
      · have hcg : ¬ τ.1 6 0 < bc (nI k) := by
          obtain ⟨k', hk', e, hc⟩ := q
          rw [hq2.2.1 6 (by decide) (by decide)] at hc
          rw [e]; exact hc
        refine br_t (by rw [c3]; decide) ?_
        rw [f_X12_plan_J231_200]
        refine br_f (by rw [c3]; decide) ?_
        refine m_pass (a := 12) (b := 18) n5 n1 n7 (by omega) (by omega) (by omega) (by omega) (Or.inr rfl) (fun g hg1 hg2 => ?_)
        have ex2 : (fun m => τ2.1 11 (12 + m)) = fun m => τ2.1 11 (12 + m) := rfl
        have e1 : brs N (mne τ2) (τ2.1 7 0) (nI k) (fun m => τ2.1 11 (12 + m)) = brs N (mne τ) (τ.1 7 0) (nI k) x2 := by
          rw [hq2.2.1 7 (by decide) (by decide)]
          exact brs_cong (fun a _ b _ => by rw [mne, hq2.2.1 5 (by decide) (by decide)]) (fun m hm => by rw [← hx2, hr2 _ (by omega)])
        have e2 : ∀ m, m < N → g (18 + m) = lrow N (mne τ) (τ.1 3) (nI k) x2 m := fun m hm => by
          rw [hg1 m hm, hq2.2.1 3 (by decide) (by decide)]
          exact lrow_cong (fun a _ b _ => by rw [mne, hq2.2.1 5 (by decide) (by decide)]) (fun _ _ => rfl) (fun m hm => by rw [← hx2, hr2 _ (by omega)]) m hm
        rw [e1]
        have hq3 : MQ5 w τ bk (st_row τ2 11 g) := hq2.row
        have hr3 : ∀ i, i < 18 → (st_row τ2 11 g).1 11 i = τ1.1 11 i := fun i hi => by
          rw [st_row_self, hg2 i (by omega)]; exact hr2 i hi
        have eh : holdB N (nI v) ((st_row τ2 11 g).1 8) (fun m => (st_row τ2 11 g).1 11 (6 * 3 + m)) = holdB N (nI v) (τ.1 8) (lrow N (mne τ) (τ.1 3) (nI k) x2) := by
          rw [hq3.2.1 8 (by decide) (by decide)]
          exact holdB_cong (fun _ _ => rfl) (fun m hm => by rw [st_row_self, ← e2 m hm])
        rw [f_X12_plan_J254_200, nI_1]
        refine ⟨fun ql => ?_, fun ql => br_f (by rw [c3]; decide) ?_⟩
        · have e : S k bk = bk := by
            by_cases qh : holdB N (nI v) (τ.1 8) (lrow N (mne τ) (τ.1 3) (nI k) x2) = true
            · rw [hSy k bk hcg qh, if_neg (k2_nlt ql)]
            · exact hSn k bk (fun w => qh w.2)
          rw [e] at ih
          exact ih _ hq3 hr3
        · refine m_isFull (q := 3) n1 (by rw [st_row_ne _ _ (by decide)]; exact n5) (by omega) (fun qh => ⟨fun w => absurd w (by decide), fun _ => ?_⟩) (fun qh => ⟨fun _ => ?_, fun w => absurd rfl w⟩)
          · rw [eh] at qh
            rw [f_X12_plan_J283_200]
            rintro _ rfl _ rfl
            rw [hSy k bk hcg qh, if_pos (k2_lt ql)] at ih
            rw [nI_1]
            refine ih _ (hq3.tries m3 (fun i _ => by rw [hw3 c3]; rfl)) (fun i hi => ?_)
            rw [st_up_ne _ (by decide), st_up_ne _ (by decide), st_up_ne _ (by decide)]
            exact hr3 i hi
          · rw [eh] at qh
            rw [hSn k bk (fun w => qh w.2)] at ih
            exact ih _ hq3 hr3
      · have hcg : τ.1 6 0 < bc (nI k) := Classical.byContradiction fun w => q ⟨k, hk, rfl, by rw [hq2.2.1 6 (by decide) (by decide)]; exact w⟩
        rw [hSn k bk (fun w => w.1 hcg)] at ih
        rw [nI_1]
        exact ih τ2 hq2 hr2
  · have hw2 := hw2 (by omega)
    rw [show w - 2 = 0 by omega, mdfs, dfs] at h
    generalize hb1 : (if b.1 < v7 + v10 then (v7 + v10, way) else b) = b1 at h
    have tail : ∃ n, ∀ τ2, MQ5 w τ b1 τ2 → (∀ i, i < 18 → τ2.1 11 i = τ1.1 11 i) → f_X12_plan_L200 (nI w) (nI v) a3 k323 post n (nI (2 ^ N)) b1.1 v6 v7 v8 v9 v10 1 (nI 1) τ2 := by
      refine floop (P := fun n j => ∀ τ2, MQ5 w τ b1 τ2 → (∀ i, i < 18 → τ2.1 11 i = τ1.1 11 i) → f_X12_plan_L200 (nI w) (nI v) a3 k323 post n (nI (2 ^ N)) b1.1 v6 v7 v8 v9 v10 1 (nI (1 + j)) τ2) (2 ^ N - 1) (fun n τ2 hq2 hr2 => ?_) (fun n j hj ih τ2 hq2 hr2 => ?_)
      · rw [f_X12_plan_L200]
        exact br_t (le_t rfl rfl (by omega) (by omega)) (h τ2 hq2 hr2)
      · rw [f_X12_plan_L200]
        refine br_f (le_f rfl rfl (by omega) (by omega)) (br_f (by decide) ?_)
        obtain ⟨n1, n2, n3, n4, n5, n6, n7⟩ := hq2.ms hs
        have ih := ih τ2 hq2 hr2
        rw [← Nat.add_assoc, ← nI_1] at ih
        refine m_isShift n5 n1 (fun q => ⟨fun w => absurd w (by decide), fun _ => ?_⟩) (fun q => ⟨fun _ => ih, fun w => absurd rfl w⟩)
        exact br_f (nI_nlt (a := 2) (b := w) (by omega) (by omega)) ⟨fun _ => ih, fun w => absurd w (nI_nz (c := 1 + j) (by omega) (by omega))⟩
    obtain ⟨n, hn⟩ := tail
    refine ⟨n + 1, ?_⟩
    rw [f_X12_plan_L200]
    refine br_f (le_f (b := 0) rfl rfl hp0 (by omega)) (br_f (by decide) ?_)
    obtain ⟨n1, n2, n3, n4, n5, n6, n7⟩ := hq.ms hs
    refine m_isShift n5 n1 (fun q => ⟨fun w => absurd w (by decide), fun _ => ?_⟩) (fun q => absurd (by rw [n6]; exact isS_0 m4) q)
    refine br_f (nI_nlt (a := 2) (b := w) (by omega) (by omega)) ⟨fun w => absurd rfl w, fun _ => ?_⟩
    rw [f_X12_plan_J231_200]
    refine br_t (nI_le (a := w) (b := 2) (by omega) (by omega)) ?_
    rw [f_X12_plan_J254_200, Int32.add_zero]
    refine ⟨fun ql => ?_, fun ql => br_t ((nI_ltI (a := w) (b := 3) (by omega) (by omega)).mpr (by omega)) ?_⟩
    · rw [if_neg (k2_nlt ql)] at hb1
      subst hb1
      exact hn τ1 hq (fun _ _ => rfl)
    · rw [if_pos (k2_lt ql)] at hb1
      subst hb1
      rw [f_X12_plan_J283_200]
      rintro _ rfl _ rfl
      rw [Int32.add_zero]
      refine hn _ (hq.tries m3 hw2) (fun i hi => ?_)
      rw [st_up_ne _ (by decide), st_up_ne _ (by decide), st_up_ne _ (by decide)]
