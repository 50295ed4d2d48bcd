/-! PLAN: the search from its start on. -/
theorem fo_le {f : Nat → Int32 × List Int32 → Int32 × List Int32} {b : Int32 × List Int32} : ∀ {n : Nat}, (∀ k, k < n → ∀ b : Int32 × List Int32, b.1 ≤ (f k b).1) → b.1 ≤ (fo f n b).1
  | 0, _ => Int32.le_refl _
  | n + 1, h => by rw [fo]; exact Int32.le_trans (fo_le (fun k hk => h k (by omega))) (h n (by omega) _)
theorem dfs_mono {N : Nat} {ne : Nat → Nat → Int32} {gw' : Nat → Int32} {sh cg v : Int32} {x0 : Nat → Int32} : ∀ (n : Nat) (x : Nat → Int32) (acc : Int32) (way : List Int32) (b : Int32 × List Int32), b.1 ≤ (dfs N ne gw' sh cg v x0 n x acc way b).1
  | 0, x, acc, way, b => by
    rw [dfs]; split
    · rename_i h; exact Int32.le_of_lt h
    · exact Int32.le_refl _
  | n + 1, x, acc, way, b => by
    rw [dfs]
    refine fo_le (fun k hk b => ?_)
    split
    · exact dfs_mono n _ _ _ _
    · exact Int32.le_refl _
theorem bc_0 : bc (nI 0) = 0 := by decide +kernel
theorem fo_split {β : Type} {f : Nat → β → β} {b : β} {n : Nat} (h : 0 < n) : fo f n b = fo (fun k => f (k + 1)) (n - 1) (f 0 b) := by
  rw [show n = (n - 1) + 1 by omega, fo_shift, Nat.add_sub_cancel]
theorem dfs_nn {N C : Nat} {ne : Nat → Nat → Int32} {gw' : Nat → Int32} {sh v : Int32} {x0 : Nat → Int32} (hN : N ≤ 6) (hC : C ≤ 6) (hg : ∀ m, m < N → rg 0 9 (gw' m)) : ∀ (n : Nat) (x : Nat → Int32) (A : Nat) (way : List Int32) (b : Int32 × List Int32), A < 2 ^ 31 → (∀ m, m < N → rg 0 999 (x m) ∧ (x0 m).toInt ≤ (x m).toInt) → 0 ≤ (dfs N ne gw' sh (nI C) v x0 n x (nI A) way b).1 := by
  intro n
  induction n with
  | zero =>
    intro x A way b hA hx
    rw [dfs]; split
    · exact nI_pos' hA
    · rename_i h; exact Int32.le_trans (nI_pos' hA) (k2_le h)
  | succ n ih =>
    intro x A way b hA hx
    have hp : 0 < 2 ^ N := Nat.pow_pos (by omega)
    rw [dfs, fo_split hp]
    have hl : ∀ m, m < N → rg 0 999 (lrow N ne gw' (nI 0) x m) ∧ (x m).toInt ≤ (lrow N ne gw' (nI 0) x m).toInt := fun m hm => by
      refine ⟨li_rg _ _ _ _ _ _, ?_⟩
      simp only [lrow, li]
      rw [if_neg (bt_00 m (by omega)), hd_toInt]
      have h1 := hx m hm
      have h2 := hg m hm
      have e : (x m + gw' m).toInt = (x m).toInt + (gw' m).toInt := fb_addI (by have := h1.1.1; have := h2.1; omega) (by have := h1.1.2; have := h2.2; omega)
      rw [e]
      have := h1.1.1; have := h1.1.2; have := h2.1
      split
      · split <;> omega
      · omega
    refine Int32.le_trans ?_ (fo_le (fun k hk b => ?_))
    · have c1 : decide (nI C < bc (nI 0)) = false := decide_eq_false (by
        rw [bc_0]
        exact nI_pos (by omega))
      have c2 : holdB N v x0 (lrow N ne gw' (nI 0) x) = true := holdB_iff.mpr (fun m hm => by
        by_cases q : x0 m < v
        · exact Or.inl q
        · refine Or.inr (fun w => q ?_)
          rw [Int32.lt_iff_toInt_lt] at w ⊢
          have := (hx m hm).2
          have := (hl m hm).2
          omega)
      simp only [c1, c2, and_self, if_true, brs_0 hN, Int32.add_zero]
      exact ih _ A _ _ hA (fun m hm => ⟨(hl m hm).1, by have := (hx m hm).2; have := (hl m hm).2; omega⟩)
    · split
      · exact dfs_mono n _ _ _ _
      · exact Int32.le_refl _
/-- the state when the planner is set to begin, j men laid down -/
def YQ (w v j : Nat) (σ σ1 : St) : Prop := σ1.2 = σ.2 ∧ (∀ c, c ≠ 53 → c ≠ 56 → σ1.1 c = σ.1 c) ∧ σ1.1 53 0 = -1 ∧ σ1.1 53 4 = nI w ∧ σ1.1 53 5 = nI v ∧ (∃ K, K < 64 ∧ σ1.1 53 6 = nI K ∧ ∀ m, m < 6 → (bt (nI K) m ↔ (m < j ∧ ¬ σ.1 40 m < nI v))) ∧ ∀ m, m < j → σ1.1 56 m = σ.1 40 m
theorem x_laid {N w v : Nat} {σ : St} {k105 post : St → Prop} (hN : N ≤ 6) (hx : σ.1 21 0 = nI N) (h : ∀ σ1, YQ w v N σ σ1 → k105 σ1) : ∀ σ1, YQ w v 0 σ σ1 → ∃ n, f_X5_searches_L51 40 6 (nI w) (nI v) k105 post n 0 σ1 := by
  intro σ1 hy
  refine (floop (P := fun n j => ∀ σ1, YQ w v j σ σ1 → f_X5_searches_L51 40 6 (nI w) (nI v) k105 post n (nI j) σ1) N (fun n σ1 hy => ?_) (fun n j hj ih σ1 hy => ?_)).imp (fun n hn => hn σ1 hy)
  · rw [f_X5_searches_L51]
    exact br_t (le_t (by rw [hy.2.1 21 (by decide) (by decide)]; exact hx) rfl (Nat.le_refl _) (by omega)) (h σ1 hy)
  · rw [f_X5_searches_L51]
    refine br_f (le_f (by rw [hy.2.1 21 (by decide) (by decide)]; exact hx) rfl hj (by omega)) ⟨pk_in j 6 (by omega), pk_in j 6 (by omega), pk_in j 6 (by omega), ?_⟩
    obtain ⟨y1, y2, y3, y4, y5, ⟨K, hK, y6, y7⟩, y8⟩ := hy
    rw [nI_clamp (by omega), st_up_ne (c := 56) (c' := 40) _ (by decide), st_up_ne (c := 56) (c' := 53) _ (by decide), y2 40 (by decide) (by decide), nI_1, y6]
    have key : ∀ K', K' < 64 → (∀ m, m < 6 → (bt (nI K') m ↔ (m < j + 1 ∧ ¬ σ.1 40 m < nI v))) → f_X5_searches_L51 40 6 (nI w) (nI v) k105 post n (nI (j + 1)) (st_up (st_up σ1 56 j (σ.1 40 j)) 53 6 (nI K')) := by
      intro K' hK' hb
      refine ih _ ⟨y1, fun c c1 c2 => ?_, y3, y4, y5, ⟨K', hK', ?_, hb⟩, fun m hm => ?_⟩
      · rw [st_up_ne _ c1, st_up_ne _ c2]; exact y2 c c1 c2
      · rw [st_up_at]
      · rw [st_up_ne _ (by decide)]
        by_cases e : m = j
        · rw [e, st_up_at]
        · rw [st_up_nat _ e]; exact y8 m (by omega)
    refine ⟨fun q => ?_, fun q => ?_⟩
    · rintro _ rfl
      rw [Int32.or_zero]
      refine key K hK (fun m hm => ?_)
      rw [y7 m hm]
      constructor
      · rintro ⟨h1, h2⟩; exact ⟨by omega, h2⟩
      · rintro ⟨h1, h2⟩
        have : m ≠ j := fun e => h2 (by rw [e]; exact q)
        exact ⟨by omega, h2⟩
    · rintro _ rfl
      have ho := or_bit K hK j (by omega)
      rw [ho.1]
      refine key _ ho.2 (fun m hm => ?_)
      rw [or_bt K hK j (by omega) m hm, y7 m hm]
      constructor
      · rintro (⟨h1, h2⟩ | e)
        · exact ⟨by omega, h2⟩
        · rw [e]; exact ⟨by omega, q⟩
      · rintro ⟨h1, h2⟩
        by_cases e : m = j
        · exact Or.inr e
        · exact Or.inl ⟨by omega, h2⟩
theorem x_isStart {N : Nat} {σ : St} {post : Int32 → St → Prop} (hN : N ≤ 6) (hx : σ.1 21 0 = nI N) (h1 : (∀ m, m < N → σ.1 56 m = σ.1 40 m) → post 1 σ) (h0 : post 0 σ) : f_X5_isStart 40 6 σ post := by
  rw [f_X5_isStart]
  refine (floop (P := fun n j => (∀ m, m < j → σ.1 56 m = σ.1 40 m) → f_X5_isStart_L2 40 6 post n (nI j) σ) N (fun n hj => ?_) (fun n j hj ih hok => ?_)).imp (fun n hn => hn (fun m hm => absurd hm (by omega)))
  · rw [f_X5_isStart_L2]
    exact br_t (le_t hx rfl (Nat.le_refl _) (by omega)) (h1 hj)
  · rw [f_X5_isStart_L2]
    refine br_f (le_f hx rfl hj (by omega)) ⟨pk_in j 6 (by omega), pk_in j 6 (by omega), ?_⟩
    rw [nI_clamp (by omega), nI_1]
    refine ⟨fun q => ih (fun m hm => ?_), fun _ => h0⟩
    by_cases e : m = j
    · rw [e]; exact q
    · exact hok m (by omega)
theorem x_search {N w v C : Nat} {σ : St} {post : St → Prop} (hN : N ≤ 6) (hw : 1 ≤ w ∧ w ≤ 3) (hv : v ≤ 99) (hC : C ≤ 6) (hx : σ.1 21 0 = nI N) (hT : PT N σ) (hP : PM N σ) (h9 : ∀ a, a < N → ∀ b, b < N → rg (-9) 9 (σ.1 (25 + a) b)) (hg : ∀ m, m < N → rg 0 9 (σ.1 23 m)) (hcg : σ.1 21 1 = nI C) (hs : ∀ m, m < N → rg 0 999 (σ.1 40 m)) (hr : RP N σ)
    (h : ∀ σ', σ'.2 = σ.2 → (∀ c, c < 53 ∨ 60 < c → σ'.1 c = σ.1 c) → RP N σ' → PlanOK N (xne σ) (σ.1 23) (σ.1 21 2) (σ.1 21 1) (nI v) (σ.1 40) w (σ'.1 53 0) (σ'.1 54) → 0 ≤ σ'.1 53 0 → post σ') : f_X5_searches 40 6 (nI w) (nI v) σ post := by
  have hnn : ∀ x0 : Nat → Int32, (∀ m, m < N → x0 m = σ.1 40 m) → 0 ≤ (dfs N (xne σ) (σ.1 23) (σ.1 21 2) (σ.1 21 1) (nI v) x0 w x0 0 [] (-1, [])).1 := fun x0 hx0 => by
    rw [hcg]
    exact dfs_nn hN hC hg w x0 0 [] _ (by omega) (fun m hm => ⟨by rw [hx0 m hm]; exact hs m hm, by omega⟩)
  have hdc : ∀ x0 : Nat → Int32, (∀ m, m < N → x0 m = σ.1 40 m) → dfs N (xne σ) (σ.1 23) (σ.1 21 2) (σ.1 21 1) (nI v) x0 w x0 0 [] (-1, []) = dfs N (xne σ) (σ.1 23) (σ.1 21 2) (σ.1 21 1) (nI v) (σ.1 40) w (σ.1 40) 0 [] (-1, []) := fun x0 hx0 => dfs_cong (fun _ _ _ _ => rfl) (fun _ _ => rfl) hx0 _ _ _ _ _ _ hx0
  have hJ : f_X5_searches_J27 40 6 (nI w) (nI v) post σ := by
    rw [f_X5_searches_J27]
    rintro _ rfl _ rfl _ rfl
    refine x_laid (w := w) (v := v) (σ := σ) hN hx (fun σ1 hy => ?_) _ ⟨rfl, fun c c1 c2 => ?_, rfl, rfl, rfl, ⟨0, by omega, rfl, fun m hm => ?_⟩, fun m hm => absurd hm (by omega)⟩
    · obtain ⟨y1, y2, y3, y4, y5, ⟨K, hK, y6, y7⟩, y8⟩ := hy
      have hlo : ∀ c, 21 ≤ c → c ≤ 38 → σ1.1 c = σ.1 c := fun c h1 h2 => y2 c (by omega) (by omega)
      have hXS : XS N w v C σ1 := by
        refine ⟨hN, hw.2, hC, by rw [hlo 21 (by omega) (by omega)]; exact hx, PT_A hN hlo hT, fun m hm => ?_, fun a ha b hb => by rw [hlo (25 + a) (by omega) (by omega)]; exact h9 a ha b hb, fun m hm => by rw [hlo 23 (by omega) (by omega)]; exact hg m hm, by rw [hlo 21 (by omega) (by omega)]; exact hcg, y4, y5, fun m hm => ?_⟩
        · rw [hlo 38 (by omega) (by omega), hlo 21 (by omega) (by omega), hlo (25 + m) (by omega) (by omega)]; exact hP m hm
        · rw [y6, y7 m (by omega), y8 m hm]
          exact ⟨fun w => w.2, fun w => ⟨hm, w⟩⟩
      refine x_looks5 hXS w 0 4 0 [] (-1, []) σ1 _ (by omega) (by omega) rfl (by omega) (fun m hm => by rw [Nat.add_zero, y8 m hm]; exact hs m hm) (fun i hi => absurd hi (by omega)) ⟨rfl, fun _ _ _ _ _ _ _ => rfl, fun _ _ => rfl, y3, Or.inl rfl⟩ (fun σ' hq hrow hway => ?_)
      have eX : xdfs N v σ1 w (σ1.1 (56 + 0)) (nI 0) [] (-1, []) = dfs N (xne σ) (σ.1 23) (σ.1 21 2) (σ.1 21 1) (nI v) (σ1.1 56) w (σ1.1 56) 0 [] (-1, []) := by
        rw [xdfs, hlo 23 (by omega) (by omega), hlo 21 (by omega) (by omega)]
        exact dfs_cong (fun a ha b _ => by rw [xne, hlo (25 + a) (by omega) (by omega)]) (fun _ _ => rfl) (fun _ _ => rfl) _ _ _ _ _ _ (fun _ _ => rfl)
      rw [eX] at hq
      have n0 := hnn (σ1.1 56) y8
      obtain ⟨q1, q2, q3, q4, q5⟩ := hq
      have e54 : ∀ i, i < w → σ'.1 54 i = (dfs N (xne σ) (σ.1 23) (σ.1 21 2) (σ.1 21 1) (nI v) (σ1.1 56) w (σ1.1 56) 0 [] (-1, [])).2.getD i 0 := by
        rcases q5 with q5 | q5
        · rw [q5] at n0; exact absurd n0 (by decide)
        · exact q5
      have c1 : ∀ c, c < 53 ∨ 60 < c → σ'.1 c = σ.1 c := fun c hc => by
        rw [q2 c (by omega) (by omega) (by omega) (by omega) (by omega) (by omega)]
        exact y2 c (by omega) (by omega)
      refine h σ' (q1.trans y1) c1 (Or.inr ⟨w, v, hw.1, hw.2, hv, by rw [q3 4 (by omega)]; exact y4, by rw [q3 5 (by omega)]; exact y5, ?_⟩) ?_ (by rw [q4]; exact n0)
      · have e56 : σ'.1 56 = σ1.1 56 := q2 56 (by decide) (by decide) (by decide) (by decide) (by decide) (by decide)
        rw [e56, c1 23 (by omega), c1 21 (by omega)]
        have eX : dfs N (xne σ') (σ.1 23) (σ.1 21 2) (σ.1 21 1) (nI v) (σ1.1 56) w (σ1.1 56) 0 [] (-1, []) = dfs N (xne σ) (σ.1 23) (σ.1 21 2) (σ.1 21 1) (nI v) (σ1.1 56) w (σ1.1 56) 0 [] (-1, []) := dfs_cong (fun a ha b _ => by rw [xne, c1 (25 + a) (by omega)]) (fun _ _ => rfl) (fun _ _ => rfl) _ _ _ _ _ _ (fun _ _ => rfl)
        unfold PlanOK
        rw [eX]
        exact ⟨q4, e54⟩
      · unfold PlanOK
        rw [← hdc _ y8]
        exact ⟨q4, e54⟩
    · rw [st_up_ne _ c1, st_up_ne _ c1, st_up_ne _ c1, st_up_ne _ c1]
    · exact ⟨fun w => absurd w (bt_00 m hm), fun w => absurd w.1 (by omega)⟩
  rw [f_X5_searches]
  refine ⟨fun _ => hJ, fun q1 => ⟨fun _ => hJ, fun q2 => x_isStart hN hx (fun q3 => ⟨fun w => absurd w (by decide), fun _ => ?_⟩) ⟨fun _ => hJ, fun w => absurd rfl w⟩⟩⟩
  have hr0 := hr
  rcases hr with hr | ⟨w', v', r1, r2, r3, r4, r5, r6⟩
  · rw [← q1] at hr
    exact absurd hr (nI_nz (by omega) (by omega))
  · rw [← q1] at r4
    rw [← q2] at r5
    have ew : w = w' := nI_ij (by omega) (by omega) r4
    have ev : v = v' := nI_ij (by omega) (by omega) r5
    subst ew; subst ev
    unfold PlanOK at r6
    rw [hdc _ q3] at r6
    refine h σ rfl (fun _ _ => rfl) hr0 r6 ?_
    rw [r6.1, ← hdc _ q3]
    exact hnn _ q3
