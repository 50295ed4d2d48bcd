/-! PLAN of the model: the second try, the first. -/
theorem m_J174 {N w v C : Nat} {τ : St} {a3 v6 v7 v8 v9 s0 : Int32} {way : List Int32} {b : Int32 × List Int32} {again : Int32 → Int32 → Int32 → Int32 → Int32 → Int32 → St → Prop} {k329 : Int32 → Int32 → Int32 → St → Prop} {post : Int32 → St → Prop} (hs : MS N w C τ) (hw2 : w ≤ 2 → ∀ i, i < w → way.getD i 0 = [v6, v9, 0].getD i 0) (hw3 : w = 3 → way = [v6, v9]) {τ1 : St} (hq : MQ5 w τ b τ1)
    (h0 : w ≠ 1 → ¬ holdB N (nI v) (τ.1 8) (fun m => τ1.1 11 (12 + m)) = true → again (nI (2 ^ N)) b.1 v6 v7 v8 (v9 + 1) τ1)
    (h : (w ≠ 1 → holdB N (nI v) (τ.1 8) (fun m => τ1.1 11 (12 + m)) = true) → ∀ τ2, MQ5 w τ (mdfs N v τ (w - 2) (fun m => τ1.1 11 (12 + m)) (v7 + s0) way b) τ2 → (∀ i, i < 12 → τ2.1 11 i = τ1.1 11 i) → again (nI (2 ^ N)) (mdfs N v τ (w - 2) (fun m => τ1.1 11 (12 + m)) (v7 + s0) way b).1 v6 v7 v8 (v9 + 1) τ2) :
    f_X12_plan_J174_120 (nI w) (nI v) a3 again k329 post (nI (2 ^ N)) b.1 v6 v7 v8 v9 s0 τ1 := by
  obtain ⟨n1, n2, n3, n4, n5, n6, n7⟩ := hq.ms hs
  have hp := pw6 n1
  have hp0 := pw1 (N := N)
  rw [f_X12_plan_J174_120]
  refine ⟨fun q => ?_, fun q => ?_⟩
  · have w1 : w = 1 := nI_ij (b := 1) (by omega) (by omega) q
    exact m_L200 hs hw2 hw3 hq (fun τ2 hq2 hr2 => h (fun e => absurd w1 e) τ2 hq2 (fun i hi => hr2 i (by omega)))
  · have w1 : w ≠ 1 := fun e => q (by rw [e]; rfl)
    refine m_isFull (q := 2) n1 n5 (by omega) (fun qh => ⟨fun w => absurd w (by decide), fun _ => ?_⟩) (fun qh => ⟨fun _ => ⟨1, ?_⟩, fun w => absurd rfl w⟩)
    · rw [hq.2.1 8 (by decide) (by decide)] at qh
      exact m_L200 hs hw2 hw3 hq (fun τ2 hq2 hr2 => h (fun _ => qh) τ2 hq2 (fun i hi => hr2 i (by omega)))
    · rw [hq.2.1 8 (by decide) (by decide)] at qh
      rw [f_X12_plan_L200]
      exact br_f (le_f (b := 0) rfl rfl hp0 (by omega)) (br_t rfl (h0 w1 qh))
theorem m_L120 {N w v C : Nat} {τ : St} {a3 v6 v7 : Int32} {b : Int32 × List Int32} {k329 : Int32 → Int32 → Int32 → St → Prop} {post : Int32 → St → Prop} (hs : MS N w C τ) {τ1 : St} (hq : MQ5 w τ b τ1)
    (h : ∀ τ2, MQ5 w τ (mdfs N v τ (w - 1) (fun m => τ1.1 11 (6 + m)) v7 [v6] b) τ2 → (∀ i, i < 6 → τ2.1 11 i = τ1.1 11 i) → k329 (nI (2 ^ N)) (mdfs N v τ (w - 1) (fun m => τ1.1 11 (6 + m)) v7 [v6] b).1 v6 τ2) :
    ∃ n, f_X12_plan_L120 (nI w) (nI v) a3 k329 post n (nI (2 ^ N)) b.1 v6 v7 1 0 τ1 := by
  obtain ⟨m1, m2, m3, m4, m5, m6, m7⟩ := id hs
  have hp := pw6 m1
  have hp0 := pw1 (N := N)
  generalize hx1 : (fun m => τ1.1 11 (6 + m)) = x1 at h
  by_cases c1 : w = 1
  · rw [show w - 1 = 0 by omega, mdfs, dfs] at h
    generalize hb1 : (if b.1 < v7 then (v7, [v6]) else b) = b1 at h
    have tail : ∃ n, ∀ τ2, MQ5 w τ b1 τ2 → (∀ i, i < 6 → τ2.1 11 i = τ1.1 11 i) → f_X12_plan_L120 (nI w) (nI v) a3 k329 post n (nI (2 ^ N)) b1.1 v6 v7 1 (nI 1) τ2 := by
      refine floop (P := fun n j => ∀ τ2, MQ5 w τ b1 τ2 → (∀ i, i < 6 → τ2.1 11 i = τ1.1 11 i) → f_X12_plan_L120 (nI w) (nI v) a3 k329 post n (nI (2 ^ N)) b1.1 v6 v7 1 (nI (1 + j)) τ2) (2 ^ N - 1) (fun n τ2 hq2 hr2 => ?_) (fun n j hj ih τ2 hq2 hr2 => ?_)
      · rw [f_X12_plan_L120]
        exact br_t (le_t rfl rfl (by omega) (by omega)) (h τ2 hq2 hr2)
      · rw [f_X12_plan_L120]
        refine br_f (le_f rfl rfl (by omega) (by omega)) (br_f (by decide) ?_)
        obtain ⟨n1, n2, n3, n4, n5, n6, n7⟩ := hq2.ms hs
        have ih := ih τ2 hq2 hr2
        rw [← Nat.add_assoc, ← nI_1] at ih
        refine m_isShift n5 n1 (fun q => ⟨fun w => absurd w (by decide), fun _ => ?_⟩) (fun q => ⟨fun _ => ih, fun w => absurd rfl w⟩)
        exact br_f (nI_nlt (a := 1) (b := w) (by omega) (by omega)) ⟨fun _ => ih, fun w => absurd w (nI_nz (c := 1 + j) (by omega) (by omega))⟩
    obtain ⟨n, hn⟩ := tail
    refine ⟨n + 1, ?_⟩
    rw [f_X12_plan_L120]
    refine br_f (le_f (b := 0) rfl rfl hp0 (by omega)) (br_f (by decide) ?_)
    obtain ⟨n1, n2, n3, n4, n5, n6, n7⟩ := hq.ms hs
    refine m_isShift n5 n1 (fun q => ⟨fun w => absurd w (by decide), fun _ => ?_⟩) (fun q => absurd (by rw [n6]; exact isS_0 m4) q)
    refine br_f (nI_nlt (a := 1) (b := w) (by omega) (by omega)) ⟨fun w => absurd rfl w, fun _ => ?_⟩
    rw [f_X12_plan_J151_120]
    refine br_t (nI_le (a := w) (b := 1) (by omega) (by omega)) ?_
    refine m_J174 (way := [v6]) hs (fun _ i hi => ?_) (fun e => absurd e (by omega)) hq (fun e => absurd c1 e) (fun _ τ2 hq2 hr2 => ?_)
    · have : i = 0 := by omega
      subst this; rfl
    · rw [show w - 2 = 0 by omega, mdfs, dfs, Int32.add_zero, hb1] at hq2 ⊢
      exact hn τ2 hq2 (fun i hi => hr2 i (by omega))
  · rw [show w - 1 = (w - 2) + 1 by omega, mdfs, dfs] at h
    generalize hS : (fun (k : Nat) (b : Int32 × List Int32) => if decide (τ.1 6 0 < bc (nI k)) = false ∧ holdB N (nI v) (τ.1 8) (lrow N (mne τ) (τ.1 3) (nI k) x1) = true then dfs N (mne τ) (τ.1 3) (τ.1 7 0) (τ.1 6 0) (nI v) (τ.1 8) (w - 2) (lrow N (mne τ) (τ.1 3) (nI k) x1) (v7 + brs N (mne τ) (τ.1 7 0) (nI k) x1) ([v6] ++ [nI k]) b else b) = S at h
    have hSn : ∀ k b, ¬ (¬ τ.1 6 0 < bc (nI k) ∧ holdB N (nI v) (τ.1 8) (lrow N (mne τ) (τ.1 3) (nI k) x1) = true) → S k b = b := fun k b q => by
      rw [← hS]
      exact if_neg (fun w => q ⟨of_decide_eq_false w.1, w.2⟩)
    have hSy : ∀ k b, ¬ τ.1 6 0 < bc (nI k) → holdB N (nI v) (τ.1 8) (lrow N (mne τ) (τ.1 3) (nI k) x1) = true → S k b = mdfs N v τ (w - 2) (lrow N (mne τ) (τ.1 3) (nI k) x1) (v7 + brs N (mne τ) (τ.1 7 0) (nI k) x1) [v6, nI k] b := fun k b q1 q2 => by
      rw [← hS]
      exact if_pos ⟨decide_eq_false q1, q2⟩
    refine (floop (P := fun n k => ∀ τ2, MQ5 w τ (fo S k b) τ2 → (∀ i, i < 12 → τ2.1 11 i = τ1.1 11 i) → f_X12_plan_L120 (nI w) (nI v) a3 k329 post n (nI (2 ^ N)) (fo S k b).1 v6 v7 1 (nI k) τ2) (2 ^ N) (fun n τ2 hq2 hr2 => ?_) (fun n k hk ih τ2 hq2 hr2 => ?_)).imp (fun n hn => hn τ1 hq (fun _ _ => rfl))
    · rw [f_X12_plan_L120]
      exact br_t (le_t rfl rfl (Nat.le_refl _) (by omega)) (h τ2 hq2 (fun i hi => hr2 i (by omega)))
    · rw [f_X12_plan_L120]
      refine br_f (le_f rfl rfl hk (by omega)) (br_f (by decide) ?_)
      rw [fo] at ih
      generalize fo S k b = bk at ih hq2
      obtain ⟨n1, n2, n3, n4, n5, n6, n7⟩ := hq2.ms hs
      refine m_isShift n5 n1 (fun q => ⟨fun w => absurd w (by decide), fun _ => ?_⟩) (fun q => ⟨fun _ => ?_, fun w => absurd rfl w⟩)
      · have hcg : ¬ τ.1 6 0 < bc (nI k) := by
          obtain ⟨k', hk', e, hc⟩ := q
          rw [hq2.2.1 6 (by decide) (by decide)] at hc
          rw [e]; exact hc
        refine br_t ((nI_ltI (a := 1) (b := w) (by omega) (by omega)).mpr (by omega)) ?_
        rw [f_X12_plan_J151_120]
        refine br_f (fun e => by have := (nI_leI (a := w) (b := 1) (by omega) (by omega)).mp e; omega) ?_
        refine m_pass (a := 6) (b := 12) n5 n1 n7 (by omega) (by omega) (by omega) (by omega) (Or.inr rfl) (fun g hg1 hg2 => ?_)
        have e1 : brs N (mne τ2) (τ2.1 7 0) (nI k) (fun m => τ2.1 11 (6 + m)) = brs N (mne τ) (τ.1 7 0) (nI k) x1 := by
          rw [hq2.2.1 7 (by decide) (by decide)]
          exact brs_cong (fun a _ b _ => by rw [mne, hq2.2.1 5 (by decide) (by decide)]) (fun m hm => by rw [← hx1, hr2 _ (by omega)])
        have e2 : ∀ m, m < N → g (12 + m) = lrow N (mne τ) (τ.1 3) (nI k) x1 m := fun m hm => by
          rw [hg1 m hm, hq2.2.1 3 (by decide) (by decide)]
          exact lrow_cong (fun a _ b _ => by rw [mne, hq2.2.1 5 (by decide) (by decide)]) (fun _ _ => rfl) (fun m hm => by rw [← hx1, hr2 _ (by omega)]) m hm
        rw [e1]
        have hq3 : MQ5 w τ bk (st_row τ2 11 g) := hq2.row
        have hr3 : ∀ i, i < 12 → (st_row τ2 11 g).1 11 i = τ1.1 11 i := fun i hi => by
          rw [st_row_self, hg2 i (by omega)]; exact hr2 i hi
        have e2' : ∀ m, m < N → (fun m => (st_row τ2 11 g).1 11 (12 + m)) m = lrow N (mne τ) (τ.1 3) (nI k) x1 m := fun m hm => by
          show (st_row τ2 11 g).1 11 (12 + m) = _
          rw [st_row_self]; exact e2 m hm
        have eh : holdB N (nI v) (τ.1 8) (fun m => (st_row τ2 11 g).1 11 (12 + m)) = holdB N (nI v) (τ.1 8) (lrow N (mne τ) (τ.1 3) (nI k) x1) := holdB_cong (fun _ _ => rfl) e2'
        refine m_J174 (way := [v6, nI k]) hs (fun hw i hi => ?_) (fun _ => rfl) hq3 (fun _ qh => ?_) (fun qh τ3 hq4 hr4 => ?_)
        · match i, (show i < 2 by omega) with
          | 0, _ => rfl
          | 1, _ => rfl
        · rw [eh] at qh
          rw [hSn k bk (fun w => qh w.2)] at ih
          rw [nI_1]
          exact ih _ hq3 hr3
        · have qh := qh c1
          rw [eh] at qh
          have ed : mdfs N v τ (w - 2) (fun m => (st_row τ2 11 g).1 11 (12 + m)) (v7 + brs N (mne τ) (τ.1 7 0) (nI k) x1) [v6, nI k] bk = S k bk := by
            rw [hSy k bk hcg qh]
            exact dfs_cong (fun _ _ _ _ => rfl) (fun _ _ => rfl) (fun _ _ => rfl) _ _ _ _ _ _ e2'
          rw [ed] at hq4 ⊢
          rw [nI_1]
          exact ih _ hq4 (fun i hi => (hr4 i hi).trans (hr3 i hi))
      · have hcg : τ.1 6 0 < bc (nI k) := Classical.byContradiction fun w => q ⟨k, hk, rfl, by rw [hq2.2.1 6 (by decide) (by decide)]; exact w⟩
        rw [hSn k bk (fun w => w.1 hcg)] at ih
        rw [nI_1]
        exact ih τ2 hq2 hr2
theorem m_L78 {N w v C : Nat} {τ : St} {a3 : Int32} {b : Int32 × List Int32} {k335 : Int32 → St → Prop} {post : Int32 → St → Prop} (hs : MS N w C τ) {τ1 : St} (hq : MQ5 w τ b τ1)
    (h : ∀ τ2, MQ5 w τ (mdfs N v τ w (τ1.1 11) 0 [] b) τ2 → k335 (mdfs N v τ w (τ1.1 11) 0 [] b).1 τ2) :
    ∃ n, f_X12_plan_L78 (nI w) (nI v) a3 k335 post n (nI (2 ^ N)) b.1 0 τ1 := by
  obtain ⟨m1, m2, m3, m4, m5, m6, m7⟩ := id hs
  have hp := pw6 m1
  have hp0 := pw1 (N := N)
  generalize hx0 : τ1.1 11 = x0 at h
  rw [show w = (w - 1) + 1 by omega, mdfs, dfs, show (w - 1) + 1 = w by omega] at h
  generalize hS : (fun (k : Nat) (b : Int32 × List Int32) => if decide (τ.1 6 0 < bc (nI k)) = false ∧ holdB N (nI v) (τ.1 8) (lrow N (mne τ) (τ.1 3) (nI k) x0) = true then dfs N (mne τ) (τ.1 3) (τ.1 7 0) (τ.1 6 0) (nI v) (τ.1 8) (w - 1) (lrow N (mne τ) (τ.1 3) (nI k) x0) (0 + brs N (mne τ) (τ.1 7 0) (nI k) x0) ([] ++ [nI k]) b else b) = S at h
  have hSn : ∀ k b, ¬ (¬ τ.1 6 0 < bc (nI k) ∧ holdB N (nI v) (τ.1 8) (lrow N (mne τ) (τ.1 3) (nI k) x0) = true) → S k b = b := fun k b q => by
    rw [← hS]
    exact if_neg (fun w => q ⟨of_decide_eq_false w.1, w.2⟩)
  have hSy : ∀ k b, ¬ τ.1 6 0 < bc (nI k) → holdB N (nI v) (τ.1 8) (lrow N (mne τ) (τ.1 3) (nI k) x0) = true → S k b = mdfs N v τ (w - 1) (lrow N (mne τ) (τ.1 3) (nI k) x0) (brs N (mne τ) (τ.1 7 0) (nI k) x0) [nI k] b := fun k b q1 q2 => by
    rw [← hS]
    refine (if_pos ⟨decide_eq_false q1, q2⟩).trans ?_
    rw [Int32.zero_add]
    rfl
  refine (floop (P := fun n k => ∀ τ2, MQ5 w τ (fo S k b) τ2 → (∀ i, i < 6 → τ2.1 11 i = x0 i) → f_X12_plan_L78 (nI w) (nI v) a3 k335 post n (nI (2 ^ N)) (fo S k b).1 (nI k) τ2) (2 ^ N) (fun n τ2 hq2 hr2 => ?_) (fun n k hk ih τ2 hq2 hr2 => ?_)).imp (fun n hn => hn τ1 hq (fun _ _ => by rw [hx0]))
  · rw [f_X12_plan_L78]
    exact br_t (le_t rfl rfl (Nat.le_refl _) (by omega)) (h τ2 hq2)
  · rw [f_X12_plan_L78]
    refine br_f (le_f rfl rfl hk (by omega)) ?_
    rw [fo] at ih
    generalize fo S k b = bk at ih hq2
    obtain ⟨n1, n2, n3, n4, n5, n6, n7⟩ := hq2.ms hs
    refine m_isShift n5 n1 (fun q => ⟨fun w => absurd w (by decide), fun _ => ?_⟩) (fun q => ⟨fun _ => ?_, fun w => absurd rfl w⟩)
    · have hcg : ¬ τ.1 6 0 < bc (nI k) := by
        obtain ⟨k', hk', e, hc⟩ := q
        rw [hq2.2.1 6 (by decide) (by decide)] at hc
        rw [e]; exact hc
      refine m_pass (a := 0) (b := 6) n5 n1 n7 (by omega) (by omega) (by omega) (by omega) (Or.inr rfl) (fun g hg1 hg2 => ?_)
      have e1 : brs N (mne τ2) (τ2.1 7 0) (nI k) (fun m => τ2.1 11 (0 + m)) = brs N (mne τ) (τ.1 7 0) (nI k) x0 := by
        rw [hq2.2.1 7 (by decide) (by decide)]
        exact brs_cong (fun a _ b _ => by rw [mne, hq2.2.1 5 (by decide) (by decide)]) (fun m hm => by rw [Nat.zero_add, hr2 _ (by omega)])
      have e2 : ∀ m, m < N → g (6 + m) = lrow N (mne τ) (τ.1 3) (nI k) x0 m := fun m hm => by
        rw [hg1 m hm, hq2.2.1 3 (by decide) (by decide)]
        exact lrow_cong (fun a _ b _ => by rw [mne, hq2.2.1 5 (by decide) (by decide)]) (fun _ _ => rfl) (fun m hm => by rw [Nat.zero_add, hr2 _ (by omega)]) m hm
      rw [e1]
      have hq3 : MQ5 w τ bk (st_row τ2 11 g) := hq2.row
      have hr3 : ∀ i, i < 6 → (st_row τ2 11 g).1 11 i = x0 i := fun i hi => by
        rw [st_row_self, hg2 i (by omega)]; exact hr2 i hi
      have e2' : ∀ m, m < N → (fun m => (st_row τ2 11 g).1 11 (6 + m)) m = lrow N (mne τ) (τ.1 3) (nI k) x0 m := fun m hm => by
        show (st_row τ2 11 g).1 11 (6 + m) = _
        rw [st_row_self]; exact e2 m hm
      have eh : holdB N (nI v) ((st_row τ2 11 g).1 8) (fun m => (st_row τ2 11 g).1 11 (6 * 1 + m)) = holdB N (nI v) (τ.1 8) (lrow N (mne τ) (τ.1 3) (nI k) x0) := by
        rw [hq3.2.1 8 (by decide) (by decide)]
        exact holdB_cong (fun _ _ => rfl) e2'
      refine m_isFull (q := 1) n1 (by rw [st_row_ne _ _ (by decide)]; exact n5) (by omega) (fun qh => ?_) (fun qh => ⟨1, ?_⟩)
      · rw [eh] at qh
        have ed : mdfs N v τ (w - 1) (fun m => (st_row τ2 11 g).1 11 (6 + m)) (brs N (mne τ) (τ.1 7 0) (nI k) x0) [nI k] bk = S k bk := by
          rw [hSy k bk hcg qh]
          exact dfs_cong (fun _ _ _ _ => rfl) (fun _ _ => rfl) (fun _ _ => rfl) _ _ _ _ _ _ e2'
        refine m_L120 hs hq3 (fun τ3 hq4 hr4 => ?_)
        rw [ed] at hq4 ⊢
        rw [nI_1]
        exact ih _ hq4 (fun i hi => (hr4 i hi).trans (hr3 i hi))
      · rw [eh] at qh
        rw [hSn k bk (fun w => qh w.2)] at ih
        rw [f_X12_plan_L120]
        refine br_f (le_f (b := 0) rfl rfl hp0 (by omega)) (br_t rfl ?_)
        rw [nI_1]
        exact ih _ hq3 hr3
    · have hcg : τ.1 6 0 < bc (nI k) := Classical.byContradiction fun w => q ⟨k, hk, rfl, by rw [hq2.2.1 6 (by decide) (by decide)]; exact w⟩
      rw [hSn k bk (fun w => w.1 hcg)] at ih
      rw [nI_1]
      exact ih τ2 hq2 hr2
