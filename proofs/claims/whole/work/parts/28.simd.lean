/-! What is done: FORGIVEN, QUARREL, BOUGHT, UNDONE. -/
theorem NR_sorry {N m : Nat} {a h p g : Nat → Int32} {br wk kn x : Int32} (hN : N ≤ 6) (hm : m < N) (hx : rg 0 999 x) (H : NR N a h p br wk kn g) : NR N (upd a m x) h p br wk kn (upd g m x) := by
  obtain ⟨h1, h2, h3, h4, K, k1, k2, k3, k4⟩ := H
  refine ⟨fun i hi => ?_, ?_, ?_, h4, K, k1, k2, ?_, fun q hq => ?_⟩
  · obtain ⟨e1, e2, e3, e4⟩ := h1 i hi
    have e5 : upd g m x (6 + i) = g (6 + i) := by rw [upd, if_neg (by omega)]
    rw [e5]
    by_cases e : i = m
    · subst e; rw [upd, if_pos rfl, upd, if_pos rfl]; exact ⟨rfl, hx, e3, e4⟩
    · rw [upd, if_neg e, upd, if_neg e]; exact ⟨e1, e2, e3, e4⟩
  · rw [upd, if_neg (by omega)]; exact h2
  · rw [upd, if_neg (by omega)]; exact h3
  · rw [upd, if_neg (by omega)]; exact k3
  · have e : (fun i => upd g m x (15 + 14 * q + i)) = fun i => g (15 + 14 * q + i) := funext fun i => by rw [upd, if_neg (by omega)]
    rw [e]; exact k4 q hq
theorem NR_heap {N m : Nat} {a h p g : Nat → Int32} {br wk kn x : Int32} (hN : N ≤ 6) (hm : m < N) (hx : rg 0 499 x) (H : NR N a h p br wk kn g) : NR N a (upd h m x) p br wk kn (upd g (6 + m) x) := by
  obtain ⟨h1, h2, h3, h4, K, k1, k2, k3, k4⟩ := H
  refine ⟨fun i hi => ?_, ?_, ?_, h4, K, k1, k2, ?_, fun q hq => ?_⟩
  · obtain ⟨e1, e2, e3, e4⟩ := h1 i hi
    have e5 : upd g (6 + m) x i = g i := by rw [upd, if_neg (by omega)]
    rw [e5]
    by_cases e : i = m
    · subst e; rw [upd, if_pos rfl, upd, if_pos rfl]; exact ⟨e1, e2, rfl, hx⟩
    · rw [upd, if_neg (by omega), upd, if_neg e]; exact ⟨e1, e2, e3, e4⟩
  · rw [upd, if_neg (by omega)]; exact h2
  · rw [upd, if_neg (by omega)]; exact h3
  · rw [upd, if_neg (by omega)]; exact k3
  · have e : (fun i => upd g (6 + m) x (15 + 14 * q + i)) = fun i => g (15 + 14 * q + i) := funext fun i => by rw [upd, if_neg (by omega)]
    rw [e]; exact k4 q hq
theorem NR_br {N : Nat} {a h p g : Nat → Int32} {br wk kn x : Int32} (hN : N ≤ 6) (H : NR N a h p br wk kn g) : NR N a h p x wk kn (upd g 12 x) := by
  obtain ⟨h1, h2, h3, h4, K, k1, k2, k3, k4⟩ := H
  refine ⟨fun i hi => ?_, ?_, ?_, h4, K, k1, k2, ?_, fun q hq => ?_⟩
  · rw [upd, if_neg (by omega), upd, if_neg (by omega)]; exact h1 i hi
  · rw [upd, if_pos rfl]
  · rw [upd, if_neg (by omega)]; exact h3
  · rw [upd, if_neg (by omega)]; exact k3
  · have e : (fun i => upd g 12 x (15 + 14 * q + i)) = fun i => g (15 + 14 * q + i) := funext fun i => by rw [upd, if_neg (by omega)]
    rw [e]; exact k4 q hq
theorem NR_wk {N : Nat} {a h p g : Nat → Int32} {br wk kn x : Int32} (hN : N ≤ 6) (hx : rg 0 300 x) (H : NR N a h p br wk kn g) : NR N a h p br x kn (upd g 13 x) := by
  obtain ⟨h1, h2, h3, h4, K, k1, k2, k3, k4⟩ := H
  refine ⟨fun i hi => ?_, ?_, ?_, hx, K, k1, k2, ?_, fun q hq => ?_⟩
  · rw [upd, if_neg (by omega), upd, if_neg (by omega)]; exact h1 i hi
  · rw [upd, if_neg (by omega)]; exact h2
  · rw [upd, if_pos rfl]
  · rw [upd, if_neg (by omega)]; exact k3
  · have e : (fun i => upd g 13 x (15 + 14 * q + i)) = fun i => g (15 + 14 * q + i) := funext fun i => by rw [upd, if_neg (by omega)]
    rw [e]; exact k4 q hq
/-- only NOW has changed -/
theorem Rl_now {N : Nat} {σ τ σ2 τ2 : St} (hc : RC N σ τ) (hi : RI N σ τ) (hl : RLt N σ τ) (ht : RT σ τ) (htx : RX σ τ) (htr : RTr σ τ) (hp : RP N σ) (hσ : ∀ c, c ≠ 39 → c ≠ 40 → c ≠ 41 → c ≠ 42 → σ2.1 c = σ.1 c) (hσ2 : σ2.2 = σ.2) (hτ : ∀ c, mr c = true → c ≠ 8 → τ2.1 c = τ.1 c) (h8 : ∀ i, 155 ≤ i → τ2.1 8 i = τ.1 8 i) (hτ2 : τ2.2 = τ.2) (hn : RN N σ2 τ2) : Rl σ2 τ2 := by
  have hX : ∀ c, 21 ≤ c → c ≤ 38 → σ2.1 c = σ.1 c := fun c h1 h2 => hσ c (by omega) (by omega) (by omega) (by omega)
  refine ⟨N, RC_A hX (by rw [hτ 2 rfl (by decide)]) (by rw [hτ 6 rfl (by decide)]) (by rw [hτ 7 rfl (by decide)]) (fun i _ => by rw [hτ 3 rfl (by decide)]) (fun i _ => by rw [hτ 5 rfl (by decide)]) hc, hn, ?_, ?_, ?_, ?_, ?_, RP_A hc.1 hX (hσ 53 (by decide) (by decide) (by decide) (by decide)) (hσ 54 (by decide) (by decide) (by decide) (by decide)) (hσ 56 (by decide) (by decide) (by decide) (by decide)) hp⟩
  · exact RI_know (hσ _ (by decide) (by decide) (by decide) (by decide)) (hσ _ (by decide) (by decide) (by decide) (by decide)) (hσ _ (by decide) (by decide) (by decide) (by decide)) (hσ _ (by decide) (by decide) (by decide) (by decide)) (hσ _ (by decide) (by decide) (by decide) (by decide)) (hσ _ (by decide) (by decide) (by decide) (by decide)) (hσ _ (by decide) (by decide) (by decide) (by decide)) (hσ _ (by decide) (by decide) (by decide) (by decide)) (hσ _ (by decide) (by decide) (by decide) (by decide)) (hτ 9 rfl (by decide)) h8 hi
  · unfold RLt
    rw [hσ 0 (by decide) (by decide) (by decide) (by decide), hσ 72 (by decide) (by decide) (by decide) (by decide), hσ 73 (by decide) (by decide) (by decide) (by decide), hτ 0 rfl (by decide), hτ 14 rfl (by decide), hτ 15 rfl (by decide)]; exact hl
  · unfold RT
    rw [hσ 0 (by decide) (by decide) (by decide) (by decide), hσ 74 (by decide) (by decide) (by decide) (by decide), hσ 75 (by decide) (by decide) (by decide) (by decide), hτ 0 rfl (by decide), hτ 16 rfl (by decide), hτ 17 rfl (by decide)]; exact ht
  · unfold RX
    rw [hσ 1 (by decide) (by decide) (by decide) (by decide), hσ 2 (by decide) (by decide) (by decide) (by decide), hτ 0 rfl (by decide), hτ 1 rfl (by decide)]; exact htx
  · unfold RTr
    rw [hσ2, hτ2]; exact htr
theorem sim_forgives (a : Int32) : Sm (f_X11_forgives a) (f_X12_forgives a) := by
  intro σ τ h
  obtain ⟨N, hc, hn, hi, hl, ht, htx, htr, hp⟩ := id h
  obtain ⟨c1, c2, c3, -⟩ := id hc
  obtain ⟨n1, -, -, -, K, k1, k2, k3, -⟩ := id hn
  rw [f_X11_forgives, x_isMan c2 c1]
  refine ⟨?_, fun hne => ⟨fun q => absurd rfl q, fun _ => ?_⟩⟩
  · rintro ⟨m, hm, rfl⟩
    refine ⟨fun _ => ?_, fun q => absurd q (by decide)⟩
    refine x_remembers k1 k2 (fun p' hx => ⟨pk_in m 6 (by omega), pk_in m 6 (by omega), ?_⟩)
    rw [nI_clamp (by omega), f_X12_forgives, m_isMan c3 c1]
    refine ⟨fun _ => ⟨fun _ => ?_, fun q => absurd q (by decide)⟩, fun w => absurd ⟨m, hm, rfl⟩ w⟩
    refine m_know k1 k3 (fun g' hg => ?_)
    rw [Int32.zero_add, nI_clamp (by omega), st_row_self, st_up_row]
    refine ⟨pk_in m 465 (by omega), pk_in m 465 (by omega), ?_, ?_⟩
    · rw [hg.1 m (by omega), (n1 m hm).1]; rfl
    · refine Rl_now hc hi hl ht htx htr hp (fun c h1 h2 h3 h4 => by rw [st_up_ne _ h2, st_up_ne _ h1, st_row_ne _ _ h4]) rfl (fun c _ h => st_row_ne _ _ h) (fun i h => ?_) rfl ?_
      · rw [st_row_self, upd, if_neg (by omega)]; exact hg.2.2.2.2 i h
      · exact NR_sorry c1 hm ⟨by decide, by decide⟩ (NR_know (σ := σ) (τ := τ) c1 k1 k2 hx hg hn)
  · rw [f_X12_forgives, m_isMan c3 c1]
    exact ⟨fun q => absurd q hne, fun _ => ⟨fun q => absurd rfl q, fun _ => ⟨rfl, h⟩⟩⟩
theorem sim_quarrel (a b n : Int32) : Sm (f_X11_quarrel a b n) (f_X12_quarrel a b n) := by
  intro σ τ h
  obtain ⟨N, hc, hn, hi, hl, ht, htx, htr, hp⟩ := id h
  obtain ⟨c1, c2, c3, -⟩ := id hc
  obtain ⟨n1, -, -, -, K, k1, k2, k3, -⟩ := id hn
  have bad : (¬ ((∃ m, m < N ∧ a = nI m) ∧ (∃ m, m < N ∧ b = nI m) ∧ ¬ a = b ∧ 1 ≤ n ∧ n ≤ 50)) → f_X12_quarrel a b n τ (fun r' τ' => -1 = r' ∧ Rl σ τ') := by
    intro q
    rw [f_X12_quarrel, m_isMan c3 c1]
    refine ⟨fun q1 => ⟨fun _ => ⟨rfl, h⟩, fun _ => ?_⟩, fun q1 => ⟨fun _ => ⟨rfl, h⟩, fun w => absurd rfl w⟩⟩
    rw [m_isMan c3 c1]
    refine ⟨fun q2 => ⟨fun _ => ⟨rfl, h⟩, fun _ => ⟨fun _ => ⟨rfl, h⟩, fun q3 => ?_⟩⟩, fun q1 => ⟨fun _ => ⟨rfl, h⟩, fun w => absurd rfl w⟩⟩
    rw [m_in]
    by_cases e : 1 ≤ n ∧ n ≤ 50
    · exact absurd ⟨q1, q2, q3, e.1, e.2⟩ q
    · rw [if_neg e]; exact ⟨fun w => absurd rfl w, fun _ => ⟨rfl, h⟩⟩
  rw [f_X11_quarrel, f_X0_areTwo, x_isMan c2 c1]
  refine ⟨fun q1 => ⟨fun q => absurd q (by decide), fun _ => ?_⟩, fun q1 => ⟨fun _ => ⟨fun _ => bad (fun w => q1 w.1), fun w => absurd rfl w⟩, fun w => absurd rfl w⟩⟩
  rw [x_isMan c2 c1]
  refine ⟨fun q2 => ⟨fun q => absurd q (by decide), fun _ => ⟨fun q3 => ⟨fun _ => bad (fun w => w.2.2.1 q3), fun w => absurd rfl w⟩, fun q3 => ⟨fun q => absurd q (by decide), fun _ => ⟨fun q4 => bad (fun w => k2_nle q4 w.2.2.2.1), fun q4 => ⟨fun q5 => ?_, fun q5 => bad (fun w => q5 w.2.2.2.2)⟩⟩⟩⟩⟩, fun q2 => ⟨fun _ => ⟨fun _ => bad (fun w => q2 w.2.1), fun w => absurd rfl w⟩, fun w => absurd rfl w⟩⟩
  obtain ⟨m, hm, rfl⟩ := id q1
  obtain ⟨o, ho, rfl⟩ := id q2
  have hmo : m ≠ o := fun e => q3 (by rw [e])
  have hrn : rg 1 50 n := by
    have e1 := k2_le q4
    have e2 := q5
    rw [Int32.le_iff_toInt_le] at e1 e2
    exact ⟨e1, e2⟩
  refine x_remembers k1 k2 (fun p' hx => ⟨pk_in m 6 (by omega), pk_in m 6 (by omega), pk_in o 6 (by omega), ?_⟩)
  rintro _ rfl
  refine ⟨pk_in o 6 (by omega), pk_in m 6 (by omega), ?_⟩
  rw [nI_clamp (by omega), nI_clamp (by omega)]
  have e40 : (st_up (st_row σ 42 p') 39 4 (nI (kk K + 1))).1 40 = σ.1 40 := rfl
  rw [e40, st_up_nat _ (Ne.symm hmo), e40, st_up_nat _ hmo, st_up_at]
  have r1 := add_rg (n1 m hm).2.1 hrn (by omega) (by omega)
  have r2 := add_rg (n1 o ho).2.1 hrn (by omega) (by omega)
  rw [min_hd (by have := r1.1; omega), min_hd (by have := r2.1; omega)]
  rw [f_X12_quarrel, m_isMan c3 c1]
  refine ⟨fun _ => ⟨fun w => absurd w (by decide), fun _ => ?_⟩, fun w => absurd q1 w⟩
  rw [m_isMan c3 c1]
  refine ⟨fun _ => ⟨fun w => absurd w (by decide), fun _ => ⟨fun w => absurd w q3, fun _ => ?_⟩⟩, fun w => absurd q2 w⟩
  rw [m_in, if_pos ⟨k2_le q4, q5⟩]
  refine ⟨fun _ => ?_, fun w => absurd w (by decide)⟩
  refine m_know k1 k3 (fun g' hg => ?_)
  rw [Int32.zero_add, Int32.zero_add, nI_clamp (by omega), nI_clamp (by omega)]
  refine ⟨pk_in m 465 (by omega), m_held.mpr ⟨pk_in m 465 (by omega), pk_in o 465 (by omega), m_held.mpr ⟨pk_in o 465 (by omega), pk_in m 465 (by omega), ?_⟩⟩⟩
  rw [st_row_self, st_up_row, st_row_self, st_up_row, st_row_self, hg.1 m (by omega), (n1 m hm).1]
  have eo : upd g' m (hd' (σ.1 40 m + n)) o = σ.1 40 o := by rw [upd, if_neg (Ne.symm hmo), hg.1 o (by omega), (n1 o ho).1]
  rw [eo]
  refine ⟨?_, ?_⟩
  · rw [upd, if_neg hmo, upd, if_pos rfl]
  · refine Rl_now hc hi hl ht htx htr hp (fun c h1 h2 h3 h4 => by rw [st_up_ne _ h2, st_up_ne _ h2, st_up_ne _ h1, st_row_ne _ _ h4]) rfl (fun c _ h => st_row_ne _ _ h) (fun i h => ?_) rfl ?_
    · rw [st_row_self, upd, if_neg (by omega), upd, if_neg (by omega)]; exact hg.2.2.2.2 i h
    · exact NR_sorry c1 ho (hd_rg _) (NR_sorry c1 hm (hd_rg _) (NR_know (σ := σ) (τ := τ) c1 k1 k2 hx hg hn))
theorem sim_buys (a : Int32) : Sm (f_X11_buys a) (f_X12_buys a) := by
  intro σ τ h
  obtain ⟨N, hc, hn, hi, hl, ht, htx, htr, hp⟩ := id h
  obtain ⟨c1, c2, c3, -⟩ := id hc
  obtain ⟨n1, n2, -, -, K, k1, k2, k3, -⟩ := id hn
  rw [f_X11_buys, x_isMan c2 c1]
  refine ⟨?_, fun hne => ⟨fun q => absurd rfl q, fun _ => ?_⟩⟩
  · rintro ⟨m, hm, rfl⟩
    refine ⟨fun _ => ?_, fun q => absurd q (by decide)⟩
    rw [nI_clamp (by omega)]
    have e6 : (6 : Int32) + nI m = nI (6 + m) := by rw [nl 6, nI_add]
    obtain ⟨s1, s2, s3, s4⟩ := n1 m hm
    have start : ∀ {r : Int32} {σ' : St}, (¬ σ.1 41 m = 0 → σ.1 40 m + σ.1 41 m ≤ 999 → f_X12_know τ (fun σ8 => vp_in (nI m) 465 ∧ (vp_in (nI m) 465 ∧ (∀ σ12 : St, σ12 = (st_up σ8 8 m ((σ8.1 8 m) + (σ.1 41 m))) → (vp_in (nI (6 + m)) 465 ∧ (∀ σ14 : St, σ14 = (st_up σ12 8 (6 + m) 0) → (r = σ.1 41 m ∧ Rl σ' (st_up σ14 8 12 (((st_up σ12 8 (6 + m) 0).1 8 12) - (σ.1 41 m)))))))))) → (¬ (¬ σ.1 41 m = 0 ∧ σ.1 40 m + σ.1 41 m ≤ 999) → r = -2 ∧ Rl σ' τ) → f_X12_buys (nI m) τ (fun r' τ' => r = r' ∧ Rl σ' τ') := by
      intro r σ' w1 w2
      rw [f_X12_buys, m_isMan c3 c1]
      refine ⟨fun _ => ⟨fun _ => ?_, fun q => absurd q (by decide)⟩, fun w => absurd ⟨m, hm, rfl⟩ w⟩
      rw [e6, Int32.zero_add, nI_clamp (by omega), nI_clamp (by omega), s1, s3]
      refine ⟨pk_in (6 + m) 465 (by omega), fun q => w2 (fun w => w.1 q), fun q => ⟨pk_in m 465 (by omega), fun q2 => w1 q q2, fun q2 => w2 (fun w => q2 w.2)⟩⟩
    refine ⟨pk_in m 6 (by omega), fun q => start (fun w => absurd q w) (fun _ => ⟨rfl, h⟩), fun q => ⟨pk_in m 6 (by omega), fun q2 => ?_, fun q2 => start (fun _ w => absurd w q2) (fun _ => ⟨rfl, h⟩)⟩⟩
    refine x_remembers k1 k2 (fun p' hx => ⟨pk_in m 6 (by omega), pk_in m 6 (by omega), ?_⟩)
    rintro _ rfl
    refine ⟨pk_in m 6 (by omega), ?_⟩
    rintro _ rfl
    refine start (fun _ _ => ?_) (fun w => absurd ⟨q, q2⟩ w)
    refine m_know k1 k3 (fun g' hg => ⟨pk_in m 465 (by omega), pk_in m 465 (by omega), ?_⟩)
    rintro _ rfl
    refine ⟨pk_in (6 + m) 465 (by omega), ?_⟩
    rintro _ rfl
    refine ⟨rfl, ?_⟩
    rw [st_row_self, st_up_row, st_up_row, st_row_self, st_up_row, hg.1 m (by omega), s1]
    have e12 : upd (upd g' m (σ.1 40 m + σ.1 41 m)) (6 + m) 0 12 = σ.1 39 2 := by rw [upd, if_neg (by omega), upd, if_neg (by omega), hg.1 12 (by omega), n2]
    rw [e12]
    refine Rl_now hc hi hl ht htx htr hp (fun c h1 h2 h3 h4 => by rw [st_up_ne _ h1, st_up_ne _ h3, st_up_ne _ h2, st_up_ne _ h1, st_row_ne _ _ h4]) rfl (fun c _ h => st_row_ne _ _ h) (fun i h => ?_) rfl ?_
    · rw [st_row_self, upd, if_neg (by omega), upd, if_neg (by omega), upd, if_neg (by omega)]; exact hg.2.2.2.2 i h
    · have r1 : rg 0 999 (σ.1 40 m + σ.1 41 m) := by
        have := add_rg s2 s4 (by omega) (by omega)
        have e2 := q2
        rw [Int32.le_iff_toInt_le] at e2
        exact ⟨by have := this.1; omega, e2⟩
      exact NR_br c1 (NR_heap c1 hm ⟨by decide, by decide⟩ (NR_sorry c1 hm r1 (NR_know (σ := σ) (τ := τ) c1 k1 k2 hx hg hn)))
  · rw [f_X12_buys, m_isMan c3 c1]
    exact ⟨fun q => absurd q hne, fun _ => ⟨fun q => absurd rfl q, fun _ => ⟨rfl, h⟩⟩⟩
