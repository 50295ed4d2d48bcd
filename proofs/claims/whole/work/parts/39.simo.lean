/-! PLAN of the class: all that is looked through is `dfs`. -/
theorem fo_same {β : Type} {f : Nat → β → β} {b : β} : ∀ {n : Nat}, (∀ k, k < n → f k b = b) → fo f n b = b
  | 0, _ => rfl
  | n + 1, h => by rw [fo, fo_same (fun k hk => h k (by omega)), h n (by omega)]
def XQ (w : Nat) (σ0 : St) (b : Int32 × List Int32) (σ : St) : Prop := σ.2 = σ0.2 ∧ (∀ c, c ≠ 53 → c ≠ 54 → c ≠ 57 → c ≠ 58 → c ≠ 59 → c ≠ 60 → σ.1 c = σ0.1 c) ∧ (∀ i, i ≠ 0 → σ.1 53 i = σ0.1 53 i) ∧ σ.1 53 0 = b.1 ∧ (b.1 = -1 ∨ ∀ i, i < w → σ.1 54 i = b.2.getD i 0)
theorem XQ.lo {w : Nat} {σ0 σ : St} {b : Int32 × List Int32} (h : XQ w σ0 b σ) : ∀ c, 21 ≤ c → c ≤ 38 → σ.1 c = σ0.1 c := fun c h1 h2 => h.2.1 c (by omega) (by omega) (by omega) (by omega) (by omega) (by omega)
/-- what the planner holds when it begins to look -/
def XS (N w v C : Nat) (σ : St) : Prop := N ≤ 6 ∧ w ≤ 3 ∧ C ≤ 6 ∧ σ.1 21 0 = nI N ∧ PT N σ ∧ PM N σ ∧ (∀ a, a < N → ∀ b, b < N → rg (-9) 9 (σ.1 (25 + a) b)) ∧ (∀ m, m < N → rg 0 9 (σ.1 23 m)) ∧ σ.1 21 1 = nI C ∧ σ.1 53 4 = nI w ∧ σ.1 53 5 = nI v ∧ (∀ m, m < N → (bt (σ.1 53 6) m ↔ ¬ σ.1 56 m < nI v))
abbrev xdfs (N v : Nat) (σ : St) := dfs N (xne σ) (σ.1 23) (σ.1 21 2) (σ.1 21 1) (nI v) (σ.1 56)
theorem x_holds {N w v C r : Nat} {σ0 σ : St} {b : Int32 × List Int32} {post : Int32 → St → Prop} (h0 : XS N w v C σ0) (hq : XQ w σ0 b σ) (h1 : holdB N (nI v) (σ0.1 56) (σ.1 r) = true → post 1 σ) (h2 : ¬ holdB N (nI v) (σ0.1 56) (σ.1 r) = true → post 0 σ) : f_X5_holds r 6 σ post := by
  obtain ⟨s1, s2, s3, s4, s5, s6, s7, s8, s9, s10, s11, s12⟩ := h0
  rw [f_X5_holds]
  have hx : σ.1 21 0 = nI N := by rw [hq.lo 21 (by omega) (by omega)]; exact s4
  have h6 : σ.1 53 6 = σ0.1 53 6 := hq.2.2.1 6 (by omega)
  have h5 : σ.1 53 5 = nI v := by rw [hq.2.2.1 5 (by omega)]; exact s11
  refine (floop (P := fun n j => (∀ m, m < j → σ0.1 56 m < nI v ∨ ¬ σ.1 r m < nI v) → f_X5_holds_L2 r 6 post n (nI j) σ) N (fun n hj => ?_) (fun n j hj ih hok => ?_)).imp (fun n hn => hn (fun m hm => absurd hm (by omega)))
  · rw [f_X5_holds_L2]
    exact br_t (le_t hx rfl (Nat.le_refl _) (by omega)) (h1 (holdB_iff.mpr hj))
  · rw [f_X5_holds_L2]
    refine br_f (le_f hx rfl hj (by omega)) ?_
    rw [h6, h5, nI_1, nI_clamp (by omega)]
    have hgo : (σ0.1 56 j < nI v ∨ ¬ σ.1 r j < nI v) → f_X5_holds_L2 r 6 post n (nI (j + 1)) σ := fun w => ih (fun m hm => by
      by_cases e : m = j
      · rw [e]; exact w
      · exact hok m (by omega))
    refine ⟨fun q => hgo (Or.inl ?_), fun q => ⟨pk_in j 6 (by omega), fun q1 => hgo (Or.inr (k2_nlt q1)), fun q1 => h2 (fun w => ?_)⟩⟩
    · exact Classical.byContradiction fun w => q ((s12 j hj).mpr w)
    · rcases holdB_iff.mp w j hj with e | e
      · exact (s12 j hj).mp q e
      · exact q1 (k2_le e)
theorem x_takes5 {w : Nat} {σ0 σ : St} {b : Int32 × List Int32} {acc : Int32} {way : List Int32} {post : St → Prop} (hw : w ≤ 3) (hq : XQ w σ0 b σ) (hway : ∀ i, i < w → σ.1 60 i = way.getD i 0)
    (h : ∀ σ', XQ w σ0 (if b.1 < acc then (acc, way) else b) σ' → (∀ j, σ'.1 (56 + j) = σ.1 (56 + j)) → post σ') : f_X5_takes acc σ post := by
  obtain ⟨q1, q2, q3, q4, q5⟩ := id hq
  rw [f_X5_takes, q4]
  refine ⟨fun q => h σ ?_ (fun j => rfl), ?_⟩
  · rw [if_neg (k2_nlt q)]; exact hq
  · rintro q _ rfl
    refine h _ ?_ (fun j => ?_)
    · rw [if_pos (k2_lt q)]
      refine ⟨q1, fun c c1 c2 c3 c4 c5 c6 => ?_, fun i hi => ?_, ?_, Or.inr (fun i hi => ?_)⟩
      · rw [st_row_ne _ _ c2, st_up_ne _ c1]; exact q2 c c1 c2 c3 c4 c5 c6
      · rw [st_row_ne _ _ (by decide), st_up_nat _ hi]; exact q3 i hi
      · rw [st_row_ne _ _ (by decide), st_up_at]
      · rw [st_row_self, pk_cpy_in (by omega) (by omega), st_up_ne _ (by decide)]
        simp only [Nat.zero_add, Nat.sub_zero]
        exact hway i hi
    · rw [st_row_ne _ _ (by omega), st_up_ne _ (by omega)]
theorem x_looks5 {N w v C : Nat} {σ0 : St} (h0 : XS N w v C σ0) : ∀ (n a fu A : Nat) (way : List Int32) (b : Int32 × List Int32) (σ : St) (post : St → Prop), a + n = w → n < fu → way.length = a → A ≤ 3000 * a → (∀ m, m < N → rg 0 999 (σ.1 (56 + a) m)) → (∀ i, i < a → σ.1 60 i = way.getD i 0) → XQ w σ0 b σ →
    (∀ σ', XQ w σ0 (xdfs N v σ0 n (σ.1 (56 + a)) (nI A) way b) σ' → (∀ j, j ≤ a → σ'.1 (56 + j) = σ.1 (56 + j)) → (∀ i, i < a → σ'.1 60 i = σ.1 60 i) → post σ') → f_X5_looks fu (nI a) (nI A) σ post := by
  obtain ⟨s1, s2, s3, s4, s5, s6, s7, s8, s9, s10, s11, s12⟩ := id h0
  have h4 : ∀ {b : Int32 × List Int32} {σ : St}, XQ w σ0 b σ → σ.1 53 4 = nI w := fun hq => by rw [hq.2.2.1 4 (by omega)]; exact s10
  have hxx : ∀ {b : Int32 × List Int32} {σ : St}, XQ w σ0 b σ → σ.1 21 0 = nI N := fun hq => by rw [hq.lo 21 (by omega) (by omega)]; exact s4
  intro n
  induction n with
  | zero =>
    intro a fu A way b σ post hn hf hl hA hr hwy hq h
    obtain ⟨fu, rfl⟩ : ∃ f, fu = f + 1 := ⟨fu - 1, by omega⟩
    have : a = w := by omega
    subst this
    rw [f_X5_looks]
    refine br_t (le_t (h4 hq) rfl (Nat.le_refl _) (by omega)) (x_takes5 s2 hq hwy (fun σ' hq' hrow => h σ' hq' (fun j _ => hrow j) (fun i _ => ?_)))
    have := hrow 4
    rw [show 56 + 4 = 60 from rfl] at this
    rw [this]
  | succ n ih =>
    intro a fu A way b σ post hn hf hl hA hr hwy hq h
    obtain ⟨fu, rfl⟩ : ∃ f, fu = f + 1 := ⟨fu - 1, by omega⟩
    rw [f_X5_looks]
    refine br_f (le_f (h4 hq) rfl (by omega) (by omega)) (br_t ((nI_ltI (b := 3) (by omega) (by omega)).mpr (by omega)) ?_)
    generalize hx : σ.1 (56 + a) = x at h hr
    have hlr : ∀ k, k < 2 ^ N → ∀ m, m < N → rg 0 999 (lrow N (xne σ0) (σ0.1 23) (nI k) x m) := fun k _ m _ => li_rg _ _ _ _ _ _
    have hbr : ∀ k, k < 2 ^ N → ¬ σ0.1 21 1 < bc (nI k) → ∃ B, B ≤ gr (cF N σ0 x) N C 0 ∧ brs N (xne σ0) (σ0.1 21 2) (nI k) x = nI B := fun k hk hc => brs_ceil s1 s9 s3 s6 s7 hr hk hc
    have hgb : gr (cF N σ0 x) N C 0 ≤ 499 * C := gr_bd (cF_bd s6 hr) C 0
    have hgb : gr (cF N σ0 x) N C 0 ≤ 2994 := by omega
    rw [xdfs, dfs] at h
    generalize hS : (fun (k : Nat) (b : Int32 × List Int32) => if decide (σ0.1 21 1 < bc (nI k)) = false ∧ holdB N (nI v) (σ0.1 56) (lrow N (xne σ0) (σ0.1 23) (nI k) x) = true then dfs N (xne σ0) (σ0.1 23) (σ0.1 21 2) (σ0.1 21 1) (nI v) (σ0.1 56) n (lrow N (xne σ0) (σ0.1 23) (nI k) x) (nI A + brs N (xne σ0) (σ0.1 21 2) (nI k) x) (way ++ [nI k]) b else b) = S at h
    have hSn : ∀ k b, ¬ (¬ σ0.1 21 1 < bc (nI k) ∧ holdB N (nI v) (σ0.1 56) (lrow N (xne σ0) (σ0.1 23) (nI k) x) = true) → S k b = b := fun k b q => by
      rw [← hS]
      exact if_neg (fun w => q ⟨of_decide_eq_false w.1, w.2⟩)
    have hSy : ∀ k b, ¬ σ0.1 21 1 < bc (nI k) → holdB N (nI v) (σ0.1 56) (lrow N (xne σ0) (σ0.1 23) (nI k) x) = true → S k b = xdfs N v σ0 n (lrow N (xne σ0) (σ0.1 23) (nI k) x) (nI A + brs N (xne σ0) (σ0.1 21 2) (nI k) x) (way ++ [nI k]) b := fun k b q1 q2 => by
      rw [← hS]
      exact if_pos ⟨decide_eq_false q1, q2⟩
    have hp64 := pw6 s1
    -- the loop over the shifts
    have loop : ∀ (la : Int32), (¬ la = 0 → n = 0) → ∀ σ1, XQ w σ0 b σ1 → (∀ j, j ≤ a → σ1.1 (56 + j) = σ.1 (56 + j)) → (∀ i, i < a → σ1.1 60 i = σ.1 60 i) → ∃ i, f_X5_looks_L65 (f_X5_looks fu) (nI a) (nI A) post i la 0 σ1 := by
      intro la hla σ1 hq1 hrow1 hway1
      refine (floop (P := fun i k => ∀ σ1, XQ w σ0 (fo S k b) σ1 → (∀ j, j ≤ a → σ1.1 (56 + j) = σ.1 (56 + j)) → (∀ i, i < a → σ1.1 60 i = σ.1 60 i) → f_X5_looks_L65 (f_X5_looks fu) (nI a) (nI A) post i la (nI k) σ1) (2 ^ N) (fun i σ1 hq1 hrow1 hway1 => ?_) (fun i k hk ih2 σ1 hq1 hrow1 hway1 => ?_)).imp (fun i hi => hi σ1 hq1 hrow1 hway1)
      · rw [f_X5_looks_L65]
        refine br_t (le_t (by rw [hxx hq1, shl_N N s1]) rfl (Nat.le_refl _) (by omega)) (h σ1 hq1 hrow1 hway1)
      · rw [f_X5_looks_L65]
        refine br_f (le_f (by rw [hxx hq1, shl_N N s1]) rfl hk (by omega)) ?_
        rw [fo] at ih2
        rw [nI_1]
        generalize fo S k b = bk at hq1 ih2
        have h21 : σ1.1 21 = σ0.1 21 := hq1.lo 21 (by omega) (by omega)
        have hrx : σ1.1 (56 + a) = x := by rw [hrow1 a (Nat.le_refl _), hx]
        refine x_isShift (hxx hq1) s1 (fun q => ⟨fun _ => ⟨pk_in a 4 (by omega), ?_⟩, fun w => absurd w (by decide)⟩) (fun q => ⟨fun w => absurd rfl w, fun _ => ?_⟩)
        · have hcg : ¬ σ0.1 21 1 < bc (nI k) := by
            obtain ⟨k', hk', e, hc⟩ := q
            rw [h21] at hc
            rw [e]; exact hc
          obtain ⟨B, hB, eB⟩ := hbr k hk hcg
          rw [nI_clamp (n := a) (by omega)]
          refine x_brings (hxx hq1) s1 (PT_A s1 hq1.lo s5) hk (by decide) (by decide) ?_
          have eb1 : brs N (fun m => σ1.1 (25 + m)) (σ1.1 21 2) (nI k) (σ1.1 (56 + a)) = nI B := by
            rw [h21, hrx, ← eB]
            exact brs_cong (fun a ha b _ => by rw [hq1.lo (25 + a) (by omega) (by omega)]) (fun _ _ => rfl)
          rw [eb1, nI_add]
          have hJ : f_X5_looks_J121_65 (f_X5_looks fu) (nI a) (nI A) (f_X5_looks_L65 (f_X5_looks fu) (nI a) (nI A) post i) post la (nI k) (nI (A + B)) σ1 := by
            rw [f_X5_looks_J121_65]
            refine ⟨pk_in a 4 (by omega), ?_⟩
            rw [nI_1, nI_clamp (n := a) (by omega), nI_clamp (n := a + 1) (by omega)]
            refine ⟨pk_in (a + 1) 4 (by omega), x_lives (hxx hq1) s1 (PT_A s1 hq1.lo s5) hk (by decide) (by decide) (by omega) (by rw [hrx]; exact hr) (fun m hm => by rw [hq1.lo 23 (by omega) (by omega)]; exact s8 m hm) ?_⟩
            refine ⟨pk_in (a + 1) 4 (by omega), ?_⟩
            generalize hy : fl' (lrow N (fun m => σ1.1 (25 + m)) (σ1.1 23) (nI k) (σ1.1 (56 + a))) (σ1.1 (56 + (a + 1))) N = y
            have hyl : ∀ m, m < N → y m = lrow N (xne σ0) (σ0.1 23) (nI k) x m := fun m hm => by
              rw [← hy, fl_lt hm, hrx]
              exact lrow_cong (fun a ha b _ => by rw [hq1.lo (25 + a) (by omega) (by omega)]) (fun m _ => by rw [hq1.lo 23 (by omega) (by omega)]) (fun _ _ => rfl) m hm
            have hq2 : XQ w σ0 bk (st_row σ1 (56 + (a + 1)) y) := by
              obtain ⟨q1, q2, q3, q4, q5⟩ := hq1
              refine ⟨q1, fun c c1 c2 c3 c4 c5 c6 => ?_, fun i hi => ?_, ?_, ?_⟩
              · rw [st_row_ne _ _ (by omega)]; exact q2 c c1 c2 c3 c4 c5 c6
              · rw [st_row_ne _ _ (by omega)]; exact q3 i hi
              · rw [st_row_ne _ _ (by omega)]; exact q4
              · rw [st_row_ne _ _ (by omega)]; exact q5
            have hrow2 : ∀ j, j ≤ a → (st_row σ1 (56 + (a + 1)) y).1 (56 + j) = σ.1 (56 + j) := fun j hj => by
              rw [st_row_ne _ _ (by omega)]; exact hrow1 j hj
            have hway2 : ∀ i, i < a → (st_row σ1 (56 + (a + 1)) y).1 60 i = σ.1 60 i := fun i hi => by
              rw [st_row_ne _ _ (by omega)]; exact hway1 i hi
            have ehold : holdB N (nI v) (σ0.1 56) y = holdB N (nI v) (σ0.1 56) (lrow N (xne σ0) (σ0.1 23) (nI k) x) := holdB_cong (fun _ _ => rfl) hyl
            refine x_holds h0 hq2 (fun qh => ⟨fun w => absurd w (by decide), fun _ => ?_⟩) (fun qh => ⟨fun _ => ?_, fun w => absurd rfl w⟩)
            · rw [st_row_self, ehold] at qh
              refine ⟨pk_in a 3 (by omega), ?_⟩
              rw [hSy k bk hcg qh, eB, nI_add] at ih2
              have hq3 : XQ w σ0 bk (st_up (st_row σ1 (56 + (a + 1)) y) 60 a (nI k)) := by
                obtain ⟨q1, q2, q3, q4, q5⟩ := hq2
                exact ⟨q1, fun c c1 c2 c3 c4 c5 c6 => by rw [st_up_ne _ c6]; exact q2 c c1 c2 c3 c4 c5 c6, q3, q4, q5⟩
              have hy3 : (st_up (st_row σ1 (56 + (a + 1)) y) 60 a (nI k)).1 (56 + (a + 1)) = y := by
                rw [st_up_ne _ (by omega), st_row_self]
              refine ih (a + 1) fu (A + B) (way ++ [nI k]) bk _ _ (by omega) (by omega) (by simp [hl]) (by omega) (fun m hm => ?_) (fun i hi => ?_) hq3 (fun σ4 hq4 hrow4 hway4 => ?_)
              · rw [hy3, hyl m hm]; exact hlr k hk m hm
              · by_cases e : i = a
                · subst e
                  rw [st_up_at]
                  simp [← hl]
                · rw [st_up_nat _ e, hway2 i (by omega), hwy i (by omega)]
                  rw [List.getD_eq_getElem?_getD, List.getD_eq_getElem?_getD, List.getElem?_append_left (by omega)]
              · rw [hy3] at hq4
                have ed : xdfs N v σ0 n y (nI (A + B)) (way ++ [nI k]) bk = xdfs N v σ0 n (lrow N (xne σ0) (σ0.1 23) (nI k) x) (nI (A + B)) (way ++ [nI k]) bk := dfs_cong (fun _ _ _ _ => rfl) (fun _ _ => rfl) (fun _ _ => rfl) n _ _ _ _ _ hyl
                rw [ed] at hq4
                rw [nI_1]
                refine ih2 σ4 hq4 (fun j hj => ?_) (fun i hi => ?_)
                · rw [hrow4 j (by omega), st_up_ne _ (by omega)]; exact hrow2 j hj
                · rw [hway4 i (by omega), st_up_nat _ (by omega)]; exact hway2 i hi
            · rw [st_row_self, ehold] at qh
              rw [hSn k bk (fun w => qh w.2)] at ih2
              rw [nI_1]
              exact ih2 _ hq2 hrow2 hway2
          refine ⟨fun _ => hJ, fun ql => ⟨fun _ => hJ, fun qs => ?_⟩⟩
          have e : S k bk = bk := by
            by_cases qh : holdB N (nI v) (σ0.1 56) (lrow N (xne σ0) (σ0.1 23) (nI k) x) = true
            · have hn0 := hla ql
              subst hn0
              rw [hSy k bk hcg qh, xdfs, dfs, eB, nI_add, if_neg]
              rw [← hq1.2.2.2.1]
              exact qs
            · exact hSn k bk (fun w => qh w.2)
          rw [e] at ih2
          exact ih2 σ1 hq1 hrow1 hway1
        · have hcg : σ0.1 21 1 < bc (nI k) := Classical.byContradiction fun w => q ⟨k, hk, rfl, by rw [h21]; exact w⟩
          rw [hSn k bk (fun w => w.1 hcg)] at ih2
          exact ih2 σ1 hq1 hrow1 hway1
    have h1 : σ.1 53 4 - 1 = nI (w - 1) := by rw [h4 hq, show w = (w - 1) + 1 by omega, nI_pred, Nat.add_sub_cancel]
    rw [h1]
    refine ⟨fun q => ?_, fun q => ?_⟩
    · rw [f_X5_looks_J34]
      exact br_t rfl (loop 0 (fun w => absurd rfl w) σ hq (fun _ _ => rfl) (fun _ _ => rfl))
    · have hn0 : n = 0 := by
        have := nI_ij (by omega) (by omega) q
        omega
      rw [f_X5_looks_J34]
      refine br_f (by decide) ⟨pk_in a 4 (by omega), ?_⟩
      rw [nI_clamp (n := a) (by omega)]
      have e21 : σ.1 21 = σ0.1 21 := hq.lo 21 (by omega) (by omega)
      refine x_ceil (c := cF N σ0 x) s1 (hxx hq) (by rw [e21]; exact s9) s3 (fun m hm => ?_) (cF_bd s6 hr) ?_
      · rw [e21, hq.lo 38 (by omega) (by omega), hx]
        exact cF_nI s6 hr hm
      · refine ⟨fun _ => loop 1 (fun _ => hn0) σ hq (fun _ _ => rfl) (fun _ _ => rfl), fun qs => ?_⟩
        refine h σ ?_ (fun _ _ => rfl) (fun _ _ => rfl)
        rw [fo_same (fun k hk => ?_)]
        · exact hq
        · by_cases qc : ¬ σ0.1 21 1 < bc (nI k) ∧ holdB N (nI v) (σ0.1 56) (lrow N (xne σ0) (σ0.1 23) (nI k) x) = true
          · obtain ⟨B, hB, eB⟩ := hbr k hk qc.1
            rw [hSy k b qc.1 qc.2, eB, nI_add]
            subst hn0
            rw [xdfs, dfs, if_neg]
            intro w2
            refine qs ?_
            rw [hq.2.2.2.1, nI_add]
            exact Int32.lt_of_lt_of_le w2 (nI_le (by omega) (by omega))
          · exact hSn k b qc
