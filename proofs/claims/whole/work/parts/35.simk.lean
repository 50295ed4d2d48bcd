/-! MATES of the model. -/
theorem m1_ne {m : Nat} (hm : m < 2 ^ 31) : ¬ ((nI 0 : Int32) - 1 = nI m) := fun e => by
  have h : (nI 0 : Int32) - 1 < 0 := by decide
  rw [e] at h
  exact nI_pos hm h
theorem dm_eq {e m : Nat} (he : e < 2 ^ 30) (hm : m < 2 ^ 30) : nI e - 1 = nI m ↔ e = m + 1 := by
  cases e with
  | zero => exact ⟨fun h => absurd h (m1_ne (by omega)), fun h => absurd h (by omega)⟩
  | succ e => rw [nI_pred, nI_eq (by omega) (by omega)]; omega
theorem dg_lt (N c m : Nat) : dg N c m < 7 := by
  rw [dg]; split <;> omega
theorem m_worth {N c : Nat} {ne : Nat → Nat → Int32} {τ : St} {post : Int32 → St → Prop} (hN : N ≤ 6) (hc : c < 2 ^ 30) (hx : τ.1 2 0 = nI N) (hne : ∀ a, a < N → ∀ b, b < N → τ.1 5 (6 * a + b) = ne a b)
    (h : ∀ s, (∀ m, m < N → s m = nI (dg N c m) - 1) → post (if okr N (dg N c) = true then acw ne (dg N c) N else -1000000) (st_row τ 13 s)) : f_X12_worth (nI c) τ post := by
  rw [f_X12_worth, hx]
  have hL43 : ∀ s, (∀ m, m < N → s m = nI (dg N c m) - 1) → ∃ n, f_X12_worth_L43 (nI c) post n 0 0 (st_row τ 13 s) := by
    intro s hs
    have hp := h s hs
    refine floop (P := fun n j => allB (fun m => decide (okm N (dg N c) m)) j = true → f_X12_worth_L43 (nI c) post n (acw ne (dg N c) j) (nI j) (st_row τ 13 s)) N (fun n hj => ?_) (fun n j hj ih hok => ?_) |>.imp (fun n hn => hn rfl)
    · rw [f_X12_worth_L43]
      refine br_t (le_t hx rfl (Nat.le_refl _) (by omega)) ?_
      have : okr N (dg N c) = true := hj
      rw [if_pos this] at hp
      exact hp
    · have hbad : ¬ okm N (dg N c) j → post (-1000000) (st_row τ 13 s) := by
        intro q
        have : ¬ okr N (dg N c) = true := fun w => q (okr_iff.mp w j hj)
        rw [if_neg this] at hp
        exact hp
      have hgo : okm N (dg N c) j → f_X12_worth_L43 (nI c) post n (acw ne (dg N c) (j + 1)) (nI (j + 1)) (st_row τ 13 s) := fun q => ih (by rw [allB, hok, Bool.true_and]; exact decide_eq_true q)
      rw [f_X12_worth_L43]
      refine br_f (le_f hx rfl hj (by omega)) ⟨pk_in j 6 (by omega), ?_⟩
      rw [nI_clamp (by omega), st_row_self, hs j hj, show (st_row τ 13 s).1 2 0 = nI N from hx]
      have hlt := dg_lt N c j
      generalize hd : dg N c j = d at hlt hgo hbad
      rw [acw, hd] at hgo
      unfold okm at hgo hbad
      rw [hd] at hgo hbad
      cases d with
      | zero =>
        have hgo := hgo (Or.inl rfl)
        rw [if_neg (by omega)] at hgo
        refine ⟨fun q => absurd (Int32.le_trans (nI_le (a := 0) (by omega) (by omega)) q) (by decide), fun _ => ⟨fun q => absurd q (m1_ne (by omega)), fun _ => ⟨fun _ => ?_, fun q => absurd (by decide) q⟩⟩⟩
        rw [f_X12_worth_J101_43]
        refine ⟨fun _ => ?_, fun q => absurd (Int32.le_trans (b := nI 0) (by decide) (nI_le (by omega) (by omega))) q⟩
        rw [nI_1]; exact hgo
      | succ d =>
        rw [Nat.add_sub_cancel] at hgo hbad
        rw [nI_pred]
        refine ⟨fun q => hbad ?_, fun q => ⟨fun q1 => hbad ?_, fun q1 => ⟨fun q2 => absurd q2 (nI_pos (by omega)), fun _ => ?_⟩⟩⟩
        · have : N ≤ d := (nI_leI (by omega) (by omega)).mp q
          rintro (w | ⟨w, -⟩) <;> omega
        · have : d = j := nI_ij (by omega) (by omega) q1
          rintro (w | ⟨-, w, -⟩) <;> omega
        · have hdN : d < N := Nat.lt_of_not_le fun w => q ((nI_leI (by omega) (by omega)).mpr w)
          have hdj : d ≠ j := fun w => q1 (by rw [w])
          refine ⟨pk_in d 6 (by omega), ?_⟩
          rw [nI_clamp (by omega), hs d hdN, dm_eq (by have := dg_lt N c d; omega) (by omega)]
          refine ⟨fun q2 => ?_, fun q2 => hbad ?_⟩
          · have hgo := hgo (Or.inr ⟨hdN, hdj, q2⟩)
            rw [f_X12_worth_J101_43, nI_1]
            refine ⟨fun q3 => ?_, fun q3 => ?_⟩
            · have : d ≤ j := (nI_leI (by omega) (by omega)).mp q3
              rw [if_neg (by omega)] at hgo
              exact hgo
            · have : ¬ d ≤ j := fun w => q3 ((nI_leI (by omega) (by omega)).mpr w)
              rw [if_pos (by omega)] at hgo
              rw [nl 6, pk_mul, nI_add, nI_clamp (by omega), show (st_row τ 13 s).1 5 (6 * j + d) = ne j d from hne j hj d hdN]
              exact ⟨pk_in (6 * j + d) 72 (by omega), hgo⟩
          · rintro (w | ⟨-, -, w⟩)
            · omega
            · exact q2 w
  have main : ∀ d j, j + d = N → ∀ s, (∀ m, N - j ≤ m → m < N → s m = nI (dg N c m) - 1) → ∃ n, f_X12_worth_L11 (nI c) (fun σ3 => ∃ n13 : Nat, f_X12_worth_L43 (nI c) post n13 0 0 σ3) post n (nI (c / 7 ^ j)) (nI (N - j) - 1) (st_row τ 13 s) := by
    intro d
    induction d with
    | zero =>
      intro j hj s hs
      have : j = N := by omega
      subst this
      refine ⟨1, ?_⟩
      rw [f_X12_worth_L11, Nat.sub_self]
      exact br_t (by decide) (hL43 s (fun m hm => hs m (by omega) hm))
    | succ d ih =>
      intro j hj s hs
      have e1 : nI (N - j) - 1 = nI (N - j - 1) := by rw [show N - j = (N - j - 1) + 1 by omega, nI_pred, Nat.add_sub_cancel]
      have hle : c / 7 ^ j ≤ c := Nat.div_le_self _ _
      obtain ⟨n, hn⟩ := ih (j + 1) (by omega) (upd s (N - j - 1) (nI (dg N c (N - j - 1)) - 1)) (fun m h1 h2 => by
        unfold upd
        by_cases w : m = N - j - 1
        · rw [if_pos w, w]
        · rw [if_neg w]; exact hs m (by omega) h2)
      refine ⟨n + 1, ?_⟩
      rw [f_X12_worth_L11, e1]
      refine br_f (nI_pos (by omega)) ⟨pk_in (N - j - 1) 6 (by omega), ?_⟩
      rw [nI_clamp (by omega), st_up_row, nl 7, pk_div (by omega) (by omega) (by omega), pk_mul, pk_sub (by omega)]
      have e2 : c / 7 ^ j - c / 7 ^ j / 7 * 7 = dg N c (N - j - 1) := by
        rw [dg, if_pos (by omega), show N - 1 - (N - j - 1) = j by omega]
        omega
      have e3 : c / 7 ^ j / 7 = c / 7 ^ (j + 1) := by rw [Nat.div_div_eq_div_mul, ← Nat.pow_succ]
      have e4 : nI (N - j - 1) + -1 = nI (N - (j + 1)) - 1 := by
        rw [show N - (j + 1) = N - j - 1 by omega]
        exact (Int32.sub_eq_add_neg _ _).symm
      rw [e2, e3, e4]
      exact hn
  have := main N 0 (by omega) (τ.1 13) (fun m h1 h2 => absurd h1 (by omega))
  rw [st_row_id, Nat.pow_zero, Nat.div_one] at this
  exact this
def mbest (N : Nat) (ne : Nat → Nat → Int32) : Nat → Int32 × (Nat → Nat) := fun n => fo (mstep N ne) n (0, fun _ => 0)
def BI (N : Nat) (ne : Nat → Nat → Int32) (c : Nat) (b : Int32 × (Nat → Nat)) : Prop := b.2 = dg N c ∧ okr N b.2 = true ∧ b.1 = acw ne b.2 N ∧ 0 ≤ b.1 ∧ c < 7 ^ N
theorem acw_0 (ne : Nat → Nat → Int32) : ∀ n, acw ne (fun _ => 0) n = 0
  | 0 => rfl
  | n + 1 => by rw [acw, acw_0 ne n, if_neg (by omega)]; rfl
theorem dg_0 (N : Nat) : dg N 0 = fun _ => 0 := funext fun m => by
  rw [dg]; split <;> simp
theorem pow7 {N : Nat} (hN : N ≤ 6) : 0 < 7 ^ N ∧ 7 ^ N ≤ 117649 := by
  match N, hN with
  | 0, _ => decide
  | 1, _ => decide
  | 2, _ => decide
  | 3, _ => decide
  | 4, _ => decide
  | 5, _ => decide
  | 6, _ => decide
theorem m_matesC {N : Nat} {ne : Nat → Nat → Int32} {a : Int32} {τ : St} {kk post : Int32 → St → Prop} (hN : N ≤ 6) (hx : τ.1 2 0 = nI N) (hne : ∀ a, a < N → ∀ b, b < N → τ.1 5 (6 * a + b) = ne a b)
    (h : 0 ≤ (mbest N ne (7 ^ N)).1 → ∀ s, (∀ m, m < N → s m = nI ((mbest N ne (7 ^ N)).2 m) - 1 ∧ (mbest N ne (7 ^ N)).2 m < 7) → kk (mbest N ne (7 ^ N)).1 (st_row τ 13 s)) : ∃ n, f_X12_mates_L20 a (fun x4 σ3 => ∃ n17 : Nat, f_X12_mates_L49 a (fun x10 σ9 => f_X12_worth x10 σ9 kk) post n17 x4 0 0 0 σ3) post n 1 0 τ := by
  have hp := pow7 hN
  refine floop (P := fun n j => f_X12_mates_L20 a (fun x4 σ3 => ∃ n17 : Nat, f_X12_mates_L49 a (fun x10 σ9 => f_X12_worth x10 σ9 kk) post n17 x4 0 0 0 σ3) post n (nI (7 ^ j)) (nI j) τ) N (fun n => ?_) (fun n j hj ih => ?_)
  · rw [f_X12_mates_L20]
    refine br_t (le_t hx rfl (Nat.le_refl _) (by omega)) ?_
    refine (floop (P := fun n k => ∀ s c, BI N ne c (mbest N ne k) → f_X12_mates_L49 a (fun x10 σ9 => f_X12_worth x10 σ9 kk) post n (nI (7 ^ N)) (nI c) (mbest N ne k).1 (nI k) (st_row τ 13 s)) (7 ^ N) (fun n => ?_) (fun n k hk ih => ?_)).imp (fun n hn => ?_)
    · intro s c hb
      rw [f_X12_mates_L49]
      obtain ⟨b1, b2, b3, b4, b5⟩ := hb
      refine br_t (le_t rfl rfl (Nat.le_refl _) (by omega)) (m_worth (ne := ne) hN (by omega) hx hne (fun s' hs' => ?_))
      rw [← b1, if_pos b2, ← b3, st_row_row]
      exact h b4 s' (fun m hm => ⟨by rw [hs' m hm, b1], by rw [b1]; exact dg_lt _ _ _⟩)
    · intro s c hb
      rw [f_X12_mates_L49]
      refine br_f (le_f rfl rfl hk (by omega)) (m_worth (ne := ne) hN (by omega) hx hne (fun s' hs' => ?_))
      have e : mbest N ne (k + 1) = mstep N ne k (mbest N ne k) := rfl
      rw [nI_1, st_row_row]
      refine ⟨fun q => ?_, fun q => ?_⟩
      · have e2 : mbest N ne (k + 1) = mbest N ne k := by
          rw [e, mstep, if_neg]
          rintro ⟨w1, w2⟩
          rw [if_pos w1] at q
          exact k2_nle w2 q
        rw [e2] at ih
        exact ih s' c hb
      · obtain ⟨b1, b2, b3, b4, b5⟩ := hb
        have ho : okr N (dg N k) = true := by
          refine Classical.byContradiction fun w => ?_
          rw [if_neg w] at q
          exact q (Int32.le_trans (b := 0) (by decide) b4)
        rw [if_pos ho] at q ⊢
        have q := k2_lt q
        have e2 : mbest N ne (k + 1) = (acw ne (dg N k) N, dg N k) := by
          rw [e, mstep, if_pos ⟨ho, q⟩]
        rw [e2] at ih
        refine ih s' k ⟨rfl, ho, rfl, ?_, hk⟩
        exact Int32.le_trans b4 (Int32.le_of_lt q)
    · have := hn (τ.1 13) 0 ⟨(dg_0 N).symm, okr_iff.mpr (fun m _ => Or.inl rfl), (acw_0 ne N).symm, show (0 : Int32) ≤ 0 by decide, hp.1⟩
      rw [st_row_id] at this
      exact this
  · rw [f_X12_mates_L20]
    refine br_f (le_f hx rfl hj (by omega)) ?_
    rw [nl 7, pk_mul, nI_1, ← Nat.pow_succ]
    exact ih
