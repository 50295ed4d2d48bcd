/-! Calls that change nothing, one after the other. -/
def Sm (fx fm : St → (Int32 → St → Prop) → Prop) : Prop := ∀ σ τ, Rl σ τ → fx σ (fun r σ' => fm τ (fun r' τ' => r = r' ∧ Rl σ' τ'))
theorem in_iff {b : Int32} (n : Nat) (hn : n < 2 ^ 31) : (0 ≤ b ∧ b ≤ nI n) ↔ ∃ k, k ≤ n ∧ b = nI k := by
  constructor
  · rintro ⟨h1, h2⟩
    obtain ⟨j, hj, rfl⟩ := nI_of (k2_nlt h1)
    rw [nI_leI hj hn] at h2
    exact ⟨j, h2, rfl⟩
  · rintro ⟨k, hk, rfl⟩
    exact ⟨nI_pos' (by omega), nI_le hk hn⟩
theorem m_in0 {b : Int32} {n : Nat} {c : Int32} (hc : c = nI n) (hn : n < 2 ^ 31) {τ : St} {post : Int32 → St → Prop} (h1 : ∀ k, k ≤ n → b = nI k → post 1 τ) (h0 : (¬ ∃ k, k ≤ n ∧ b = nI k) → post 0 τ) : f_X12_in b 0 c τ post := by
  rw [m_in, hc]
  by_cases q : 0 ≤ b ∧ b ≤ nI n
  · rw [if_pos q]
    obtain ⟨k, hk, e⟩ := (in_iff n hn).mp q
    exact h1 k hk e
  · rw [if_neg q]
    exact h0 (fun w => q ((in_iff n hn).mpr w))
theorem sim_man (a b : Int32) : Sm (f_X11_man a b) (f_X12_man a b) := by
  intro σ τ h
  obtain ⟨N, ⟨c1, c2, c3, c4, c5, c6, c7, c8, c9, c10, c11, c12⟩, hn, -⟩ := id h
  rw [f_X11_man, x_isMan c2 c1]
  refine ⟨?_, fun hne => ⟨fun q => absurd rfl q, fun _ => ?_⟩⟩
  · rintro ⟨m, hm, rfl⟩
    obtain ⟨e1, -, e2, -⟩ := hn.1 m hm
    have key : ∀ (r : Int32), (b = 0 → r = σ.1 40 m) → (b = 1 → r = σ.1 23 m) → (b = 2 → r = σ.1 41 m) → (¬ b = 0 → ¬ b = 1 → ¬ b = 2 → r = -1) → f_X12_man (nI m) b τ (fun r' τ' => r = r' ∧ Rl σ τ') := by
      intro r k0 k1 k2 k3
      rw [f_X12_man, m_isMan c3 c1]
      refine ⟨fun _ => ⟨fun q => absurd q (by decide), fun _ => ?_⟩, fun q => absurd ⟨m, hm, rfl⟩ q⟩
      refine m_in0 (n := 2) rfl (by decide) (fun k hk e => ⟨fun _ => ?_, fun q => absurd q (by decide)⟩) (fun hne => ⟨fun q => absurd rfl q, fun _ => ⟨?_, h⟩⟩)
      · rw [show (6 : Int32) + nI m = nI (6 + m) by rw [nl 6, nI_add], Int32.zero_add, nI_clamp (by omega), nI_clamp (by omega)]
        refine ⟨fun q0 => ⟨fun q1 => ⟨pk_in (6 + m) 465 (by omega), ?_, h⟩, fun q1 => ⟨pk_in m 12 (by omega), ?_, h⟩⟩, fun q0 => ⟨pk_in m 465 (by omega), ?_, h⟩⟩
        · rw [e2]
          refine k2 ?_
          match k, hk, e with
          | 0, _, e => exact absurd e q0
          | 1, _, e => exact absurd e q1
          | 2, _, e => exact e
        · rw [(c8 m hm).1]; exact k1 q1
        · rw [e1]; exact k0 q0
      · exact k3 (fun q => hne ⟨0, by omega, q⟩) (fun q => hne ⟨1, by omega, q⟩) (fun q => hne ⟨2, by omega, q⟩)
    refine ⟨fun _ => ?_, fun q => absurd q (by decide)⟩
    rw [nI_clamp (by omega)]
    refine ⟨fun q => ⟨pk_in m 6 (by omega), key _ ?_ ?_ ?_ ?_⟩, fun q => ⟨pk_in m 6 (by omega), key _ ?_ ?_ ?_ ?_⟩, fun q => ⟨pk_in m 6 (by omega), key _ ?_ ?_ ?_ ?_⟩, fun q0 q1 q2 => key _ ?_ ?_ ?_ ?_⟩
    all_goals (intros; subst_vars)
    all_goals first | rfl | contradiction | (simp at *; done) | skip
  · rw [f_X12_man, m_isMan c3 c1]
    exact ⟨fun q => absurd q hne, fun _ => ⟨fun _ => ⟨rfl, h⟩, fun q => absurd rfl q⟩⟩
theorem sim_beside (a b : Int32) : Sm (f_X11_beside a b) (f_X12_beside a b) := by
  intro σ τ h
  obtain ⟨N, ⟨c1, c2, c3, c4, c5, c6, c7, c8, c9, c10, c11, c12⟩, -⟩ := id h
  rw [f_X11_beside, f_X0_areTwo, x_isMan c2 c1]
  have bad : (¬ ((∃ m, m < N ∧ a = nI m) ∧ (∃ m, m < N ∧ b = nI m) ∧ ¬ a = b)) → f_X12_beside a b τ (fun r' τ' => -1000000 = r' ∧ Rl σ τ') := by
    intro q
    rw [f_X12_beside, m_isMan c3 c1]
    refine ⟨fun q1 => ⟨fun _ => ⟨rfl, h⟩, fun _ => ?_⟩, fun q1 => ⟨fun _ => ⟨rfl, h⟩, fun w => absurd rfl w⟩⟩
    rw [m_isMan c3 c1]
    refine ⟨fun q2 => ⟨fun _ => ⟨rfl, h⟩, fun _ => ⟨fun _ => ⟨rfl, h⟩, fun q3 => absurd ⟨q1, q2, q3⟩ q⟩⟩, fun q1 => ⟨fun _ => ⟨rfl, h⟩, fun w => absurd rfl w⟩⟩
  refine ⟨fun q1 => ⟨fun q => absurd q (by decide), fun _ => ?_⟩, fun q1 => ⟨fun _ => ⟨fun _ => bad (fun w => q1 w.1), fun w => absurd rfl w⟩, fun w => absurd rfl w⟩⟩
  rw [x_isMan c2 c1]
  refine ⟨fun q2 => ⟨fun q => absurd q (by decide), fun _ => ⟨fun q3 => ⟨fun _ => bad (fun w => w.2.2 q3), fun w => absurd rfl w⟩, fun q3 => ⟨fun q => absurd q (by decide), fun _ => ?_⟩⟩⟩, fun q2 => ⟨fun _ => ⟨fun _ => bad (fun w => q2 w.2.1), fun w => absurd rfl w⟩, fun w => absurd rfl w⟩⟩
  obtain ⟨m, hm, rfl⟩ := q1
  obtain ⟨o, ho, rfl⟩ := q2
  rw [nI_clamp (by omega), nI_clamp (by omega)]
  refine ⟨pk_in m 6 (by omega), pk_in o 6 (by omega), ?_⟩
  rw [f_X12_beside, m_isMan c3 c1]
  refine ⟨fun _ => ⟨fun q => absurd q (by decide), fun _ => ?_⟩, fun w => absurd ⟨m, hm, rfl⟩ w⟩
  rw [m_isMan c3 c1]
  refine ⟨fun _ => ⟨fun q => absurd q (by decide), fun _ => ⟨fun w => absurd w q3, fun _ => ?_⟩⟩, fun w => absurd ⟨o, ho, rfl⟩ w⟩
  rw [show (6 : Int32) * nI m + nI o = nI (6 * m + o) by rw [nl 6, pk_mul, nI_add], nI_clamp (by omega)]
  exact ⟨pk_in (6 * m + o) 72 (by omega), ((c9 m hm o ho).1).symm, h⟩
theorem sim_count (a : Int32) : Sm (f_X11_count a) (f_X12_count a) := by
  intro σ τ h
  obtain ⟨N, ⟨c1, c2, c3, c4, c5, c6, c7, c8, c9, c10, c11, c12⟩, hn, hi, hl, ht, htx, htr, hp⟩ := id h
  obtain ⟨-, -, -, -, K, k1, k2, k3, -⟩ := hn
  obtain ⟨l, l1, l2, l3, -⟩ := hl
  obtain ⟨t, t1, t2, t3, -⟩ := ht
  obtain ⟨n, n1, n2, n3, -⟩ := htx
  rw [f_X11_count]
  have key : ∀ r : Int32, (a = 0 → r = τ.1 2 0) → (a = 1 → r = τ.1 6 0) → (a = 2 → r = τ.1 7 0) → (a = 3 → r = τ.1 0 24) → (a = 4 → r = τ.1 0 27) → (a = 5 → r = τ.1 8 14) → (a = 6 → r = τ.1 0 2) → (¬ a = 0 → ¬ a = 1 → ¬ a = 2 → ¬ a = 3 → ¬ a = 4 → ¬ a = 5 → ¬ a = 6 → r = -1) → f_X12_count a τ (fun r' τ' => r = r' ∧ Rl σ τ') := by
    intro r q0 q1 q2 q3 q4 q5 q6 q7
    rw [f_X12_count]
    exact ⟨fun q => ⟨q0 q, h⟩, fun q => ⟨q1 q, h⟩, fun q => ⟨q2 q, h⟩, fun q => ⟨q3 q, h⟩, fun q => ⟨q4 q, h⟩, fun q => ⟨q5 q, h⟩, fun q => ⟨q6 q, h⟩, fun a b c d e f g => ⟨q7 a b c d e f g, h⟩⟩
  refine ⟨fun q => ?_, fun q => ?_, fun q => ?_, fun q => ?_, fun q => ?_, fun q => ?_, fun q => ?_, fun q0 q1 q2 q3 q4 q5 q6 => ?_⟩
  · subst q; exact key _ (fun _ => by rw [c2, c3]) (fun q => absurd q (by decide)) (fun q => absurd q (by decide)) (fun q => absurd q (by decide)) (fun q => absurd q (by decide)) (fun q => absurd q (by decide)) (fun q => absurd q (by decide)) (fun q => absurd rfl q)
  · subst q; exact key _ (fun q => absurd q (by decide)) (fun _ => by rw [c4]) (fun q => absurd q (by decide)) (fun q => absurd q (by decide)) (fun q => absurd q (by decide)) (fun q => absurd q (by decide)) (fun q => absurd q (by decide)) (fun _ q => absurd rfl q)
  · subst q; exact key _ (fun q => absurd q (by decide)) (fun q => absurd q (by decide)) (fun _ => by rw [c5]) (fun q => absurd q (by decide)) (fun q => absurd q (by decide)) (fun q => absurd q (by decide)) (fun q => absurd q (by decide)) (fun _ _ q => absurd rfl q)
  · subst q; exact key _ (fun q => absurd q (by decide)) (fun q => absurd q (by decide)) (fun q => absurd q (by decide)) (fun _ => by rw [l2, l3]) (fun q => absurd q (by decide)) (fun q => absurd q (by decide)) (fun q => absurd q (by decide)) (fun _ _ _ q => absurd rfl q)
  · subst q; exact key _ (fun q => absurd q (by decide)) (fun q => absurd q (by decide)) (fun q => absurd q (by decide)) (fun q => absurd q (by decide)) (fun _ => by rw [t2, t3]) (fun q => absurd q (by decide)) (fun q => absurd q (by decide)) (fun _ _ _ _ q => absurd rfl q)
  · subst q; exact key _ (fun q => absurd q (by decide)) (fun q => absurd q (by decide)) (fun q => absurd q (by decide)) (fun q => absurd q (by decide)) (fun q => absurd q (by decide)) (fun _ => by rw [k2, k3]) (fun q => absurd q (by decide)) (fun _ _ _ _ _ q => absurd rfl q)
  · subst q; exact key _ (fun q => absurd q (by decide)) (fun q => absurd q (by decide)) (fun q => absurd q (by decide)) (fun q => absurd q (by decide)) (fun q => absurd q (by decide)) (fun q => absurd q (by decide)) (fun _ => by rw [n2, n3]) (fun _ _ _ _ _ _ q => absurd rfl q)
  · exact key _ (fun q => absurd q q0) (fun q => absurd q q1) (fun q => absurd q q2) (fun q => absurd q q3) (fun q => absurd q q4) (fun q => absurd q q5) (fun q => absurd q q6) (fun _ _ _ _ _ _ _ => rfl)
/-! yields -/
theorem RC.z {N : Nat} {σ τ : St} (h : RC N σ τ) : ∀ m, m < N → τ.1 5 (6 * m + m) = 0 := fun m hm => by
  obtain ⟨c1, c2, c3, c4, c5, c6, c7, c8, c9, c10, c11, c12⟩ := h
  rw [(c9 m hm m hm).1]; exact c10 m hm
theorem RC.ne {N : Nat} {σ τ : St} (h : RC N σ τ) : ∀ a, a < N → ∀ b, b < N → mne τ a b = xne σ a b := fun a ha b hb => (h.2.2.2.2.2.2.2.2.1 a ha b hb).1
theorem RC.gr {N : Nat} {σ τ : St} (h : RC N σ τ) : ∀ m, m < N → τ.1 3 m = σ.1 23 m := fun m hm => (h.2.2.2.2.2.2.2.1 m hm).1
theorem brs_eq {N : Nat} {σ τ : St} (h : RC N σ τ) {x x' : Nat → Int32} (hx : ∀ m, m < N → x' m = x m) (s : Int32) : brs N (mne τ) (τ.1 7 0) s x' = brs N (xne σ) (σ.1 21 2) s x := by
  rw [h.2.2.2.2.1]; exact brs_cong h.ne hx
theorem m_yield {N k : Nat} {τ : St} {post : Int32 → St → Prop} (hx : τ.1 2 0 = nI N) (hN : N ≤ 6) (hz : ∀ m, m < N → τ.1 5 (6 * m + m) = 0) (hk : isS N (τ.1 6 0) (nI k)) (h : ∀ g, post (brs N (mne τ) (τ.1 7 0) (nI k) (τ.1 8)) (st_row τ 10 g)) : f_X12_yieldOf (nI k) τ post := by
  rw [f_X12_yieldOf]
  refine m_isShift hx hN (fun _ => ⟨fun _ => ?_, fun q => absurd q (by decide)⟩) (fun q => absurd hk q)
  refine m_take ?_
  refine m_pass (a := 0) (b := 0) hx hN hz (by decide) (by decide) (by decide) (by decide) (Or.inl rfl) (fun g _ _ => ?_)
  rw [st_row_row]
  have e : brs N (mne (st_row τ 10 (fl' (τ.1 8) (τ.1 10) 6))) ((st_row τ 10 (fl' (τ.1 8) (τ.1 10) 6)).1 7 0) (nI k) (fun m => (st_row τ 10 (fl' (τ.1 8) (τ.1 10) 6)).1 10 (0 + m)) = brs N (mne τ) (τ.1 7 0) (nI k) (τ.1 8) := by
    refine brs_cong (fun a _ b _ => rfl) (fun m hm => ?_)
    rw [st_row_self, Nat.zero_add, fl_lt (by omega)]
  rw [e]
  exact h g
theorem sim_yieldOf (a : Int32) : Sm (f_X11_yieldOf a) (f_X12_yieldOf a) := by
  intro σ τ h
  obtain ⟨N, hc, hn, -⟩ := id h
  obtain ⟨c1, c2, c3, c4, c5, c6, c7, c8, c9, c10, c11, c12⟩ := id hc
  rw [f_X11_yieldOf]
  refine x_isShift c2 c1 (fun q => ⟨fun q => absurd q (by decide), fun _ => ?_⟩) (fun q => ⟨fun _ => ?_, fun q => absurd rfl q⟩)
  · obtain ⟨k, hk, rfl, hb⟩ := id q
    refine x_brings c2 c1 c11 hk (by decide) (by decide) ?_
    refine m_yield c3 c1 hc.z (by rw [c4]; exact q) (fun g => ⟨?_, Rl_A XA.rf (MA.row rfl) h⟩)
    exact (brs_eq hc (fun m hm => (hn.1 m hm).1) _).symm
  · rw [f_X12_yieldOf]
    refine m_isShift c3 c1 (fun w => absurd (by rw [c4] at w; exact w) q) (fun _ => ⟨fun q => absurd rfl q, fun _ => ⟨rfl, h⟩⟩)
