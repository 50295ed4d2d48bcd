/-! IMAGES, MARK. -/
theorem NR_cong {N : Nat} {a h p g a' h' p' g' : Nat → Int32} {br wk kn : Int32} (hN : N ≤ 6) (ha : ∀ i, i < 6 → a' i = a i) (hh : ∀ i, i < 6 → h' i = h i) (hp : ∀ i, i < 140 → p' i = p i) (hg : ∀ i, i < 155 → g' i = g i) (H : NR N a h p br wk kn g) : NR N a' h' p' br wk kn g' := by
  obtain ⟨q1, h2, h3, h4, K, k1, k2, k3, k4⟩ := H
  refine ⟨fun m hm => ?_, ?_, ?_, h4, K, k1, k2, ?_, fun q hq => ?_⟩
  · rw [hg m (by omega), hg (6 + m) (by omega), ha m (by omega), hh m (by omega)]; exact q1 m hm
  · rw [hg 12 (by omega)]; exact h2
  · rw [hg 13 (by omega)]; exact h3
  · rw [hg 14 (by omega)]; exact k3
  · obtain ⟨g1, g2, g3, g4⟩ := k4 q hq
    refine ⟨fun m hm => ?_, ?_, ?_, ?_⟩
    · show g' (15 + 14 * q + m) = p' (14 * q + m) ∧ rg 0 999 (p' (14 * q + m)) ∧ g' (15 + 14 * q + (6 + m)) = p' (14 * q + (6 + m)) ∧ rg 0 499 (p' (14 * q + (6 + m)))
      rw [hg _ (by omega), hg _ (by omega), hp _ (by omega), hp _ (by omega)]; exact g1 m hm
    · show g' (15 + 14 * q + 12) = p' (14 * q + 12)
      rw [hg _ (by omega), hp _ (by omega)]; exact g2
    · show g' (15 + 14 * q + 13) = p' (14 * q + 13)
      rw [hg _ (by omega), hp _ (by omega)]; exact g3
    · show rg 0 300 (p' (14 * q + 13))
      rw [hp _ (by omega)]; exact g4
theorem cpy140 {f g : Nat → Int32} {m : Nat} (h : m < 140) : va_cpy f g 0 0 140 m = f m := by
  rw [pk_cpy_in (by omega) (by omega)]; simp
theorem m_keep {a : Nat} {τ : St} {post : Int32 → St → Prop} (ha : a ≤ 1) (h : post (τ.1 8 13) (st_up (st_row τ 8 (wr (τ.1 8) (τ.1 8) (155 * (1 + a)) 155)) 9 a 1)) : f_X12_keep (nI a) τ post := by
  rw [f_X12_keep]
  refine m_in0 (n := 1) rfl (by decide) (fun _ _ _ => ⟨fun _ => ?_, fun w => absurd w (by decide)⟩) (fun w => absurd ⟨a, ha, rfl⟩ w)
  refine Exists.imp (fun n hn => ?_) (floop (P := fun n j => f_X12_keep_L13 (nI a) (fun σ7 => vp_in (nI a) 2 ∧ (post ((st_up σ7 9 (nI a).toNatClampNeg 1).1 8 13) (st_up σ7 9 (nI a).toNatClampNeg 1))) post n (nI j) (st_row τ 8 (wr (τ.1 8) (τ.1 8) (155 * (1 + a)) j))) 155 (fun n => ?_) (fun n j hj ih => ?_))
  · rw [wr_0, st_row_id] at hn
    exact hn
  · rw [f_X12_keep_L13]
    refine br_t (le_t (nl 155) rfl (by omega) (by omega)) ⟨pk_in a 2 (by omega), ?_⟩
    rw [nI_clamp (by omega), st_up_ne _ (by decide), st_row_self, wr_out (by omega)]
    exact h
  · rw [f_X12_keep_L13]
    refine br_f (le_f (nl 155) rfl (by omega) (by omega)) ?_
    have e : 155 * (1 + nI a) + nI j = nI (155 * (1 + a) + j) := by rw [nl 155, nl 1, nI_add, pk_mul, nI_add]
    rw [e, nI_clamp (n := 155 * (1 + a) + j) (by omega), nI_clamp (n := j) (by omega), st_row_self, wr_out (i := j) (by omega), st_up_row, wr_succ, nI_1]
    exact ⟨pk_in j 465 (by omega), pk_in (155 * (1 + a) + j) 465 (by omega), ih⟩
theorem sim_keep (a : Int32) : Sm (f_X11_keep a) (f_X12_keep a) := by
  intro σ τ h
  obtain ⟨N, hc, hn, hi, hl, ht, htx, htr, hp⟩ := id h
  obtain ⟨c1, -⟩ := id hc
  obtain ⟨n1, n2, n3, n4, n5⟩ := id hn
  obtain ⟨i0, i1⟩ := id hi
  have bad : (¬ ∃ k, k ≤ 1 ∧ a = nI k) → f_X12_keep a τ (fun r' τ' => -1 = r' ∧ Rl σ τ') := by
    intro q
    rw [f_X12_keep]
    exact m_in0 (n := 1) rfl (by decide) (fun k hk e => absurd ⟨k, hk, e⟩ q) (fun _ => ⟨fun w => absurd rfl w, fun _ => ⟨rfl, h⟩⟩)
  rw [f_X11_keep]
  refine ⟨fun q => bad ?_, fun q => ⟨fun q1 => ?_, fun q1 => bad ?_⟩⟩
  · rintro ⟨k, hk, rfl⟩; exact nI_pos (by omega) q
  · have hin : vp_in a 2 := by
      obtain ⟨j, hj, rfl⟩ := nI_of q
      have : j < 2 := (nI_ltI (b := 2) hj (by omega)).mp q1
      exact pk_in j 2 this
    refine ⟨hin, fun e => ?_, fun e => ?_⟩
    · subst e
      rw [f_X4_becomes_44_39]
      rintro _ rfl _ rfl _ rfl _ rfl _ rfl
      refine ⟨hin, ?_⟩
      have e0 : (0 : Int32).toNatClampNeg = 0 := by decide
      rw [e0]
      refine m_keep (a := 0) (by omega) ⟨n3.symm, ?_⟩
      refine ⟨N, RC_A (σ := σ) (τ := τ) (fun c h1 h2 => ?_) rfl rfl rfl (fun _ _ => rfl) (fun _ _ => rfl) hc, ?_, ⟨⟨rfl, Or.inr ⟨rfl, ?_⟩⟩, ⟨i1.1, ?_⟩⟩, hl, ht, htx, htr, RP_A (σ := σ) c1 (fun c h1 h2 => ?_) rfl rfl rfl hp⟩
      · rw [st_up_ne _ (by omega), st_up_ne _ (by omega), st_up_ne _ (by omega), st_up_ne _ (by omega), st_row_ne _ _ (by omega), st_row_ne _ _ (by omega), st_row_ne _ _ (by omega)]
      · exact NR_cong c1 (fun _ _ => rfl) (fun _ _ => rfl) (fun _ _ => rfl) (fun i hi => wr_out (by omega)) hn
      · exact NR_cong c1 (fun i hi => cpy6 hi) (fun i hi => cpy6 hi) (fun i hi => cpy140 hi) (fun i hi => wr_in hi) hn
      · rcases i1.2 with w | ⟨w1, w2⟩
        · exact Or.inl w
        · exact Or.inr ⟨w1, NR_cong c1 (fun _ _ => rfl) (fun _ _ => rfl) (fun _ _ => rfl) (fun i hi => wr_out (by omega)) w2⟩
      · rw [st_up_ne _ (by omega), st_up_ne _ (by omega), st_up_ne _ (by omega), st_up_ne _ (by omega), st_row_ne _ _ (by omega), st_row_ne _ _ (by omega), st_row_ne _ _ (by omega)]
    · subst e
      rw [f_X4_becomes_45_39]
      rintro _ rfl _ rfl _ rfl _ rfl _ rfl
      refine ⟨hin, ?_⟩
      have e0 : (1 : Int32).toNatClampNeg = 1 := by decide
      rw [e0]
      refine m_keep (a := 1) (by omega) ⟨n3.symm, ?_⟩
      refine ⟨N, RC_A (σ := σ) (τ := τ) (fun c h1 h2 => ?_) rfl rfl rfl (fun _ _ => rfl) (fun _ _ => rfl) hc, ?_, ⟨⟨i0.1, ?_⟩, ⟨rfl, Or.inr ⟨rfl, ?_⟩⟩⟩, hl, ht, htx, htr, RP_A (σ := σ) c1 (fun c h1 h2 => ?_) rfl rfl rfl hp⟩
      · rw [st_up_ne _ (by omega), st_up_ne _ (by omega), st_up_ne _ (by omega), st_up_ne _ (by omega), st_row_ne _ _ (by omega), st_row_ne _ _ (by omega), st_row_ne _ _ (by omega)]
      · exact NR_cong c1 (fun _ _ => rfl) (fun _ _ => rfl) (fun _ _ => rfl) (fun i hi => wr_out (by omega)) hn
      · rcases i0.2 with w | ⟨w1, w2⟩
        · exact Or.inl w
        · exact Or.inr ⟨w1, NR_cong c1 (fun _ _ => rfl) (fun _ _ => rfl) (fun _ _ => rfl) (fun i hi => wr_out (by omega)) w2⟩
      · exact NR_cong c1 (fun i hi => cpy6 hi) (fun i hi => cpy6 hi) (fun i hi => cpy140 hi) (fun i hi => wr_in hi) hn
      · rw [st_up_ne _ (by omega), st_up_ne _ (by omega), st_up_ne _ (by omega), st_up_ne _ (by omega), st_row_ne _ _ (by omega), st_row_ne _ _ (by omega), st_row_ne _ _ (by omega)]
  · rintro ⟨k, hk, rfl⟩; exact q1 (nI_lt (b := 2) (by omega) (by omega))
theorem m_back {a : Nat} {τ : St} {post : Int32 → St → Prop} (ha : a ≤ 1) (h1 : ¬ τ.1 9 a = 0 → post (τ.1 8 (155 * (1 + a) + 13)) (st_row τ 8 (fl' (fun i => τ.1 8 (155 * (1 + a) + i)) (τ.1 8) 155))) (h0 : τ.1 9 a = 0 → post (-2) τ) : f_X12_back (nI a) τ post := by
  rw [f_X12_back]
  refine m_in0 (n := 1) rfl (by decide) (fun _ _ _ => ⟨fun _ => ⟨pk_in a 2 (by omega), ?_⟩, fun w => absurd w (by decide)⟩) (fun w => absurd ⟨a, ha, rfl⟩ w)
  rw [nI_clamp (by omega)]
  refine ⟨fun q => ?_, h0⟩
  have h1 := h1 q
  refine Exists.imp (fun n hn => ?_) (floop (P := fun n j => f_X12_back_L25 (nI a) post n (nI j) (st_row τ 8 (fl' (fun i => τ.1 8 (155 * (1 + a) + i)) (τ.1 8) j))) 155 (fun n => ?_) (fun n j hj ih => ?_))
  · rw [fl_0, st_row_id] at hn
    exact hn
  · rw [f_X12_back_L25]
    refine br_t (le_t (nl 155) rfl (by omega) (by omega)) ?_
    rw [st_row_self, fl_lt (by omega)]
    exact h1
  · rw [f_X12_back_L25]
    refine br_f (le_f (nl 155) rfl (by omega) (by omega)) ?_
    have e : 155 * (1 + nI a) + nI j = nI (155 * (1 + a) + j) := by rw [nl 155, nl 1, nI_add, pk_mul, nI_add]
    have ec : upd (fl' (fun i => τ.1 8 (155 * (1 + a) + i)) (τ.1 8) j) j (τ.1 8 (155 * (1 + a) + j)) = fl' (fun i => τ.1 8 (155 * (1 + a) + i)) (τ.1 8) (j + 1) := fl_succ (fun i => τ.1 8 (155 * (1 + a) + i)) _ j
    rw [e, nI_clamp (n := 155 * (1 + a) + j) (by omega), nI_clamp (n := j) (by omega), st_row_self, fl_ge (i := 155 * (1 + a) + j) (by omega), st_up_row, ec, nI_1]
    exact ⟨pk_in (155 * (1 + a) + j) 465 (by omega), pk_in j 465 (by omega), ih⟩
theorem sim_back (a : Int32) : Sm (f_X11_back a) (f_X12_back a) := by
  intro σ τ h
  obtain ⟨N, hc, hn, hi, hl, ht, htx, htr, hp⟩ := id h
  obtain ⟨c1, -⟩ := id hc
  obtain ⟨i0, i1⟩ := id hi
  have bad : (¬ ∃ k, k ≤ 1 ∧ a = nI k) → f_X12_back a τ (fun r' τ' => -1 = r' ∧ Rl σ τ') := by
    intro q
    rw [f_X12_back]
    exact m_in0 (n := 1) rfl (by decide) (fun k hk e => absurd ⟨k, hk, e⟩ q) (fun _ => ⟨fun w => absurd rfl w, fun _ => ⟨rfl, h⟩⟩)
  rw [f_X11_back]
  refine ⟨fun q => bad ?_, fun q => ⟨fun q1 => ?_, fun q1 => bad ?_⟩⟩
  · rintro ⟨k, hk, rfl⟩; exact nI_pos (by omega) q
  · obtain ⟨j, hj, rfl⟩ := nI_of q
    have hj2 : j < 2 := (nI_ltI (b := 2) hj (by omega)).mp q1
    have hin : vp_in (nI j) 2 := pk_in j 2 hj2
    rw [nI_clamp hj]
    match j, hj2 with
    | 0, _ =>
      refine ⟨hin, fun w => ⟨hin, fun _ => ?_, fun e => absurd e (by decide)⟩, fun w => m_back (a := 0) (by omega) (fun w2 => absurd (by rw [i0.1]; exact w) w2) (fun _ => ⟨rfl, h⟩)⟩
      rw [f_X4_becomes_39_44]
      rintro _ rfl _ rfl _ rfl _ rfl _ rfl
      rcases i0.2 with e | ⟨e1, e2⟩
      · exact absurd e w
      refine m_back (a := 0) (by omega) (fun _ => ⟨?_, ?_⟩) (fun w2 => absurd (by rw [i0.1] at w2; exact w2) w)
      · exact e2.2.2.1.symm
      · refine Rl_now hc hi hl ht htx htr hp (fun c h1 h2 h3 h4 => by rw [st_up_ne _ h1, st_up_ne _ h1, st_up_ne _ h1, st_row_ne _ _ h4, st_row_ne _ _ h3, st_row_ne _ _ h2]) rfl (fun c _ h => st_row_ne _ _ h) (fun i h => by rw [st_row_self, fl_ge (by omega)]) rfl ?_
        exact NR_cong (a := σ.1 46) (h := σ.1 47) (p := σ.1 48) (g := fun i => τ.1 8 (155 + i)) c1 (fun i hi => cpy6 hi) (fun i hi => cpy6 hi) (fun i hi => cpy140 hi) (fun i hi => by rw [st_row_self, fl_lt (by omega)]) e2
    | 1, _ =>
      refine ⟨hin, fun w => ⟨hin, fun e => absurd e (by decide), fun _ => ?_⟩, fun w => m_back (a := 1) (by omega) (fun w2 => absurd (by rw [i1.1]; exact w) w2) (fun _ => ⟨rfl, h⟩)⟩
      rw [f_X4_becomes_39_45]
      rintro _ rfl _ rfl _ rfl _ rfl _ rfl
      rcases i1.2 with e | ⟨e1, e2⟩
      · exact absurd e w
      refine m_back (a := 1) (by omega) (fun _ => ⟨?_, ?_⟩) (fun w2 => absurd (by rw [i1.1] at w2; exact w2) w)
      · exact e2.2.2.1.symm
      · refine Rl_now hc hi hl ht htx htr hp (fun c h1 h2 h3 h4 => by rw [st_up_ne _ h1, st_up_ne _ h1, st_up_ne _ h1, st_row_ne _ _ h4, st_row_ne _ _ h3, st_row_ne _ _ h2]) rfl (fun c _ h => st_row_ne _ _ h) (fun i h => by rw [st_row_self, fl_ge (by omega)]) rfl ?_
        exact NR_cong (a := σ.1 49) (h := σ.1 50) (p := σ.1 51) (g := fun i => τ.1 8 (310 + i)) c1 (fun i hi => cpy6 hi) (fun i hi => cpy6 hi) (fun i hi => cpy140 hi) (fun i hi => by rw [st_row_self, fl_lt (by omega)]) e2
  · rintro ⟨k, hk, rfl⟩; exact q1 (nI_lt (b := 2) (by omega) (by omega))
/-! MARK -/
theorem bt_all : ∀ N, N ≤ 6 → ∀ o, o < N → bt ((1 : Int32) <<< (nI N &&& 31) - 1) o := by decide +kernel
theorem all_nI : ∀ N, N ≤ 6 → (1 : Int32) <<< (nI N &&& 31) - 1 = nI (2 ^ N - 1) := by decide +kernel
theorem m_markL {N m : Nat} {a x y : Int32} {τ : St} {k94 : Int32 → Int32 → Int32 → St → Prop} {post : Int32 → St → Prop} (hx : τ.1 2 0 = nI N) (hN : N ≤ 6) (hm : m < N) (hz : τ.1 5 (6 * m + m) = 0) (h : k94 x y (sm (mne τ m) N) τ) : ∃ n, f_X12_mark_L50 a (nI m) k94 post n x y 0 0 τ := by
  refine floop (P := fun n j => f_X12_mark_L50 a (nI m) k94 post n x y (sm (mne τ m) j) (nI j) τ) N (fun n => ?_) (fun n j hj ih => ?_)
  · rw [f_X12_mark_L50]
    exact br_t (le_t hx rfl (by omega) (by omega)) h
  · rw [f_X12_mark_L50]
    refine br_f (le_f hx rfl (by omega) (by omega)) ?_
    rw [show (6 : Int32) * nI m + nI j = nI (6 * m + j) by rw [nl 6, pk_mul, nI_add], nI_clamp (by omega), nI_1]
    rw [sm] at ih
    refine ⟨fun _ => ⟨pk_in (6 * m + j) 72 (by omega), ih⟩, fun c => ?_⟩
    have c : j = m := (nI_eq (by omega) (by omega)).mp c
    subst c
    have : mne τ j j = 0 := hz
    rw [this] at ih
    exact ih
/-- what MARK answers, and what comes to THE TRACE -/
theorem m_mark {N m k : Nat} {τ : St} {post : Int32 → St → Prop} (hx : τ.1 2 0 = nI N) (hN : N ≤ 6) (hm : m < N) (hk : k ≤ 5) (hz : τ.1 5 (6 * m + m) = 0)
    (h0 : k = 0 → post (τ.1 8 m / 2) (st_lo τ 0 (τ.2 0 + 1))) (h1 : k = 1 → post (τ.1 8 m / 2 + τ.1 3 m) (st_lo τ 0 (τ.2 0 + 11))) (h2 : k = 2 → post (τ.1 8 m / 2 - τ.1 8 (6 + m)) (st_lo τ 0 (τ.2 0 + 101)))
    (h3 : k = 3 → post (2 * (τ.1 8 m / 2 + τ.1 3 m)) (st_lo τ 0 (τ.2 0 + 1011))) (h4 : k = 4 → post (τ.1 8 m / 2 - τ.1 8 (6 + m) + sm (mne τ m) N) (st_lo τ 0 (τ.2 0 + 10101))) (h5 : k = 5 → post (τ.1 8 m / 2 + τ.1 8 13) (st_lo τ 0 (τ.2 0 + 100001))) : f_X12_mark (nI k) (nI m) τ post := by
  rw [f_X12_mark]
  refine m_in0 (n := 5) rfl (by decide) (fun _ _ _ => ⟨fun w => absurd w (by decide), fun _ => ?_⟩) (fun w => absurd ⟨k, hk, rfl⟩ w)
  rw [m_isMan hx hN]
  refine ⟨fun _ => ⟨fun _ => ?_, fun w => absurd w (by decide)⟩, fun w => absurd ⟨m, hm, rfl⟩ w⟩
  rw [Int32.zero_add, show (6 : Int32) + nI m = nI (6 + m) by rw [nl 6, nI_add], nI_clamp (n := m) (by omega), nI_clamp (n := 6 + m) (by omega)]
  refine ⟨pk_in m 465 (by omega), pk_in (6 + m) 465 (by omega), ?_⟩
  rintro _ rfl
  have kq : ∀ q : Nat, q ≤ 5 → (nI k = nI q) → k = q := fun q hq e => (nI_eq (by omega) (by omega)).mp e
  refine m_markL hx hN hm hz ⟨fun e => h0 (kq 0 (by omega) e), fun e => ⟨pk_in m 12 (by omega), h1 (kq 1 (by omega) e)⟩, fun e => h2 (kq 2 (by omega) e), fun e => ⟨pk_in m 12 (by omega), h3 (kq 3 (by omega) e)⟩, fun e => h4 (kq 4 (by omega) e), fun e0 e1 e2 e3 e4 => h5 ?_⟩
  have g0 : k ≠ 0 := fun e => e0 (by rw [e]; rfl)
  have g1 : k ≠ 1 := fun e => e1 (by rw [e]; rfl)
  have g2 : k ≠ 2 := fun e => e2 (by rw [e]; rfl)
  have g3 : k ≠ 3 := fun e => e3 (by rw [e]; rfl)
  have g4 : k ≠ 4 := fun e => e4 (by rw [e]; rfl)
  omega
theorem lo_comm (a b c : Int64) : a + (b + c) = b + (a + c) := by rw [← Int64.add_assoc, Int64.add_comm a b, Int64.add_assoc]
theorem lo_sum (a b c : Int64) (x y : Int64) (h : b + c = y) : a + b + c = a + y := by rw [Int64.add_assoc, h]
theorem sim_mark (a b : Int32) : Sm (f_X11_mark a b) (f_X12_mark a b) := by
  intro σ τ h
  obtain ⟨N, hc, hn, hi, hl, ht, htx, htr, hp⟩ := id h
  obtain ⟨c1, c2, c3, c4, c5, c6, c7, c8, c9, c10, c11, c12⟩ := id hc
  obtain ⟨n1, n2, n3, n4, n5⟩ := id hn
  have bad : (¬ ((∃ k, k ≤ 5 ∧ a = nI k) ∧ ∃ m, m < N ∧ b = nI m)) → f_X12_mark a b τ (fun r' τ' => -1000000 = r' ∧ Rl σ τ') := by
    intro q
    rw [f_X12_mark]
    refine m_in0 (n := 5) rfl (by decide) (fun k hk e => ⟨fun w => absurd w (by decide), fun _ => ?_⟩) (fun _ => ⟨fun _ => ⟨rfl, h⟩, fun w => absurd rfl w⟩)
    rw [m_isMan c3 c1]
    exact ⟨fun w => absurd ⟨⟨k, hk, e⟩, w⟩ q, fun _ => ⟨fun w => absurd rfl w, fun _ => ⟨rfl, h⟩⟩⟩
  rw [f_X11_mark]
  refine ⟨fun q => bad ?_, fun q => ⟨fun q1 => bad ?_, fun q1 => ?_⟩⟩
  · rintro ⟨⟨k, hk, rfl⟩, -⟩; exact nI_pos (by omega) q
  · rintro ⟨⟨k, hk, rfl⟩, -⟩; exact nI_ge (b := 6) (by omega) (by omega) q1
  rw [x_isMan c2 c1]
  refine ⟨fun qm => ⟨fun _ => ?_, fun w => absurd w (by decide)⟩, fun qm => ⟨fun w => absurd rfl w, fun _ => bad (fun w => qm w.2)⟩⟩
  obtain ⟨m, hm, rfl⟩ := qm
  obtain ⟨k, hk, rfl⟩ := nI_of q
  have hk6 : k < 6 := by
    have : ¬ 6 ≤ k := fun w => q1 ((nI_leI (a := 6) (by omega) hk).mpr w)
    omega
  have hinm : vp_in (nI m) 6 := pk_in m 6 (by omega)
  have hcm : (nI m).toNatClampNeg = m := nI_clamp (by omega)
  obtain ⟨s1, s2, s3, s4⟩ := n1 m hm
  have kq : ∀ q : Nat, q ≤ 5 → (nI k = nI q) → k = q := fun q hq e => (nI_eq (by omega) (by omega)).mp e
  have fin : ∀ (σ2 τ2 : St), σ2.1 = σ.1 → τ2.1 = τ.1 → RTr σ2 τ2 → Rl σ2 τ2 := by
    intro σ2 τ2 e1 e2 e3
    refine ⟨N, ?_, ?_, ?_, ?_, ?_, ?_, e3, ?_⟩
    · unfold RC PT PM at hc ⊢; rw [e1, e2]; exact hc
    · unfold RN at hn ⊢; rw [e1, e2]; exact hn
    · unfold RI at hi ⊢; rw [e1, e2]; exact hi
    · unfold RLt at hl ⊢; rw [e1, e2]; exact hl
    · unfold RT at ht ⊢; rw [e1, e2]; exact ht
    · unfold RX at htx ⊢; rw [e1, e2]; exact htx
    · unfold RP xne at hp ⊢; rw [e1]; exact hp
  refine ⟨pk_in k 6 hk6, fun e => ?_, fun e => ?_, fun e => ?_, fun e => ?_, fun e => ?_, fun e => ?_⟩
  · have e := kq 0 (by omega) e
    subst e
    rw [f_X2_worth_65, hcm]
    refine ⟨hinm, ?_⟩
    refine m_mark c3 c1 hm (by omega) (hc.z m hm) (fun _ => ⟨?_, fin _ _ rfl rfl ?_⟩) (fun e => absurd e (by decide)) (fun e => absurd e (by decide)) (fun e => absurd e (by decide)) (fun e => absurd e (by decide)) (fun e => absurd e (by decide))
    · rw [s1]; rfl
    · show τ.2 0 + 1 = σ.2 65 + 1 + σ.2 66 + σ.2 67 + σ.2 68 + σ.2 69 + σ.2 70
      rw [htr]; simp only [Int64.add_assoc, Int64.add_comm, lo_comm]
  · have e := kq 1 (by omega) e
    subst e
    rw [f_X9_worth_66, f_X2_worth_66, hcm]
    refine ⟨hinm, hinm, ?_⟩
    refine m_mark c3 c1 hm (by omega) (hc.z m hm) (fun e => absurd e (by decide)) (fun _ => ⟨?_, fin _ _ rfl rfl ?_⟩) (fun e => absurd e (by decide)) (fun e => absurd e (by decide)) (fun e => absurd e (by decide)) (fun e => absurd e (by decide))
    · rw [s1, (c8 m hm).1]; rfl
    · show τ.2 0 + 11 = σ.2 65 + (σ.2 66 + 10 + 1) + σ.2 67 + σ.2 68 + σ.2 69 + σ.2 70
      rw [htr, lo_sum _ 10 1 0 11 (by decide)]; simp only [Int64.add_assoc, Int64.add_comm, lo_comm]
  · have e := kq 2 (by omega) e
    subst e
    rw [f_X6_worth_67, f_X2_worth_67, hcm]
    refine ⟨hinm, hinm, ?_⟩
    refine m_mark c3 c1 hm (by omega) (hc.z m hm) (fun e => absurd e (by decide)) (fun e => absurd e (by decide)) (fun _ => ⟨?_, fin _ _ rfl rfl ?_⟩) (fun e => absurd e (by decide)) (fun e => absurd e (by decide)) (fun e => absurd e (by decide))
    · rw [s1, s3]; rfl
    · show τ.2 0 + 101 = σ.2 65 + σ.2 66 + (σ.2 67 + 100 + 1) + σ.2 68 + σ.2 69 + σ.2 70
      rw [htr, lo_sum _ 100 1 0 101 (by decide)]; simp only [Int64.add_assoc, Int64.add_comm, lo_comm]
  · have e := kq 3 (by omega) e
    subst e
    rw [f_X7_worth, f_X9_worth_68, f_X2_worth_68, hcm]
    refine ⟨hinm, hinm, ?_⟩
    refine m_mark c3 c1 hm (by omega) (hc.z m hm) (fun e => absurd e (by decide)) (fun e => absurd e (by decide)) (fun e => absurd e (by decide)) (fun _ => ⟨?_, fin _ _ rfl rfl ?_⟩) (fun e => absurd e (by decide)) (fun e => absurd e (by decide))
    · rw [s1, (c8 m hm).1, Int32.mul_comm]; rfl
    · show τ.2 0 + 1011 = σ.2 65 + σ.2 66 + σ.2 67 + (σ.2 68 + 1000 + 10 + 1) + σ.2 69 + σ.2 70
      rw [htr, lo_sum (σ.2 68) 1000 10 0 1010 (by decide), lo_sum _ 1010 1 0 1011 (by decide)]; simp only [Int64.add_assoc, Int64.add_comm, lo_comm]
  · have e := kq 4 (by omega) e
    subst e
    have hp2 := pw6 c1
    have hpos : 0 < 2 ^ N := Nat.pow_pos (by omega)
    rw [f_X8_worth, f_X6_worth_69, f_X2_worth_69, hcm]
    refine ⟨hinm, hinm, ?_⟩
    show f_X0_pullOf (nI m) ((1 <<< ((σ.1 21 0) &&& 31)) - 1) _ _
    rw [c2, all_nI N c1, f_X0_pullOf, hcm, nI_clamp (by omega)]
    refine ⟨hinm, pk_in (2 ^ N - 1) 64 (by omega), ?_⟩
    refine m_mark c3 c1 hm (by omega) (hc.z m hm) (fun e => absurd e (by decide)) (fun e => absurd e (by decide)) (fun e => absurd e (by decide)) (fun e => absurd e (by decide)) (fun _ => ⟨?_, fin _ _ rfl rfl ?_⟩) (fun e => absurd e (by decide))
    · have e1 : σ.1 (32 + m) (2 ^ N - 1) = sm (mne τ m) N := by
        rw [c11 m hm (2 ^ N - 1) (by omega)]
        refine sm_cong (fun o ho => ?_)
        rw [if_pos (by rw [← all_nI N c1]; exact bt_all N c1 o ho)]
        exact (hc.ne m hm o ho).symm
      rw [s1, s3, ← e1]; rfl
    · show τ.2 0 + 10101 = σ.2 65 + σ.2 66 + σ.2 67 + σ.2 68 + (σ.2 69 + 10000 + 100 + 1) + σ.2 70
      rw [htr, lo_sum (σ.2 69) 10000 100 0 10100 (by decide), lo_sum _ 10100 1 0 10101 (by decide)]; simp only [Int64.add_assoc, Int64.add_comm, lo_comm]
  · have e := kq 5 (by omega) e
    subst e
    rw [f_X1_worth, f_X2_worth_70, hcm]
    refine ⟨hinm, ?_⟩
    refine m_mark c3 c1 hm (by omega) (hc.z m hm) (fun e => absurd e (by decide)) (fun e => absurd e (by decide)) (fun e => absurd e (by decide)) (fun e => absurd e (by decide)) (fun e => absurd e (by decide)) (fun _ => ⟨?_, fin _ _ rfl rfl ?_⟩)
    · rw [s1, n3]; rfl
    · show τ.2 0 + 100001 = σ.2 65 + σ.2 66 + σ.2 67 + σ.2 68 + σ.2 69 + (σ.2 70 + 100000 + 1)
      rw [htr, lo_sum _ 100000 1 0 100001 (by decide)]; simp only [Int64.add_assoc, Int64.add_comm, lo_comm]
