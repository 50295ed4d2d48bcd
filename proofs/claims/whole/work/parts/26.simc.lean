/-! Calls that change the store, the plain ones. -/
theorem st_up_ne (σ : St) {c c' i : Nat} {x : Int32} (h : c' ≠ c) : (st_up σ c i x).1 c' = σ.1 c' := st_row_ne _ _ h
theorem st_up_at (σ : St) (c i : Nat) (x : Int32) : (st_up σ c i x).1 c i = x := by rw [st_up, st_row_self]; simp [upd]
theorem st_up_nat (σ : St) {c i j : Nat} {x : Int32} (h : j ≠ i) : (st_up σ c i x).1 c j = σ.1 c j := by rw [st_up, st_row_self]; simp [upd, h]
theorem RC_A {N : Nat} {σ σ' τ τ' : St} (hX : ∀ c, 21 ≤ c → c ≤ 38 → σ'.1 c = σ.1 c) (h2 : τ'.1 2 0 = τ.1 2 0) (h6 : τ'.1 6 0 = τ.1 6 0) (h7 : τ'.1 7 0 = τ.1 7 0) (h3 : ∀ i, i < 6 → τ'.1 3 i = τ.1 3 i) (h5 : ∀ i, i < 36 → τ'.1 5 i = τ.1 5 i) (h : RC N σ τ) : RC N σ' τ' := by
  obtain ⟨c1, c2, c3, c4, c5, c6, c7, c8, c9, c10, c11, c12⟩ := h
  refine ⟨c1, ?_, ?_, ?_, ?_, ?_, ?_, ?_, ?_, ?_, ?_, ?_⟩
  · rw [hX 21 (by omega) (by omega)]; exact c2
  · rw [h2]; exact c3
  · rw [h6, hX 21 (by omega) (by omega)]; exact c4
  · rw [h7, hX 21 (by omega) (by omega)]; exact c5
  · rw [hX 21 (by omega) (by omega)]; exact c6
  · rw [hX 21 (by omega) (by omega)]; exact c7
  · intro m hm
    rw [h3 m (by omega), hX 23 (by omega) (by omega)]; exact c8 m hm
  · intro a ha b hb
    rw [h5 (6 * a + b) (by omega), hX (25 + a) (by omega) (by omega)]; exact c9 a ha b hb
  · intro a ha
    rw [hX (25 + a) (by omega) (by omega)]; exact c10 a ha
  · intro m hm k hk
    rw [hX (25 + m) (by omega) (by omega), hX (32 + m) (by omega) (by omega)]; exact c11 m hm k hk
  · intro m hm
    rw [hX (25 + m) (by omega) (by omega), hX 38 (by omega) (by omega), hX 21 (by omega) (by omega)]; exact c12 m hm
theorem RP_A {N : Nat} {σ σ' : St} (hN : N ≤ 6) (hX : ∀ c, 21 ≤ c → c ≤ 38 → σ'.1 c = σ.1 c) (h53 : σ'.1 53 = σ.1 53) (h54 : σ'.1 54 = σ.1 54) (h56 : σ'.1 56 = σ.1 56) (hp : RP N σ) : RP N σ' := by
  unfold RP at hp ⊢
  rw [h53, hX 23 (by omega) (by omega), hX 21 (by omega) (by omega), h56, h54]
  rcases hp with hp | ⟨w, v, h1, h2, h3, h4, h5, h6, h7⟩
  · exact Or.inl hp
  · have hc : dfs N (xne σ') (σ.1 23) (σ.1 21 2) (σ.1 21 1) (nI v) (σ.1 56) w (σ.1 56) 0 [] (-1, []) = dfs N (xne σ) (σ.1 23) (σ.1 21 2) (σ.1 21 1) (nI v) (σ.1 56) w (σ.1 56) 0 [] (-1, []) := dfs_cong (fun a ha b _ => by rw [xne, hX (25 + a) (by omega) (by omega)]) (fun _ _ => rfl) (fun _ _ => rfl) _ _ _ _ _ _ (fun _ _ => rfl)
    refine Or.inr ⟨w, v, h1, h2, h3, h4, h5, ?_, ?_⟩
    · rw [hc]; exact h6
    · rw [hc]; exact h7
set_option maxRecDepth 20000 in
theorem byte_ok : ∀ c, c < 256 → (nI c).toInt8.toInt32 &&& 255 = nI c := by decide +kernel
theorem sim_clear : Sm f_X11_clear f_X12_clear := by
  intro σ τ h
  obtain ⟨N, hc, hn, hi, hl, ht, htx, htr, hp⟩ := h
  obtain ⟨n, n1, n2, n3, n4⟩ := htx
  rw [f_X11_clear, f_X12_clear]
  refine ⟨by rw [n2, n3], N, RC_A (fun c h1 h2 => st_up_ne _ (by omega)) rfl rfl rfl (fun _ _ => rfl) (fun _ _ => rfl) hc, hn, hi, hl, ht, ⟨0, by omega, rfl, rfl, fun j hj => absurd hj (by omega)⟩, htr, RP_A hc.1 (fun c h1 h2 => st_up_ne _ (by omega)) rfl rfl rfl hp⟩
theorem sim_type (a : Int32) : Sm (f_X11_type a) (f_X12_type a) := by
  intro σ τ h
  obtain ⟨N, hc, hn, hi, hl, ht, htx, htr, hp⟩ := id h
  obtain ⟨n, n1, n2, n3, n4⟩ := htx
  have bad : (¬ ∃ k, k ≤ 255 ∧ a = nI k) → f_X12_type a τ (fun r' τ' => -1 = r' ∧ Rl σ τ') := by
    intro q
    rw [f_X12_type]
    exact m_in0 (n := 255) rfl (by decide) (fun k hk e => absurd ⟨k, hk, e⟩ q) (fun _ => ⟨fun w => absurd rfl w, fun _ => ⟨rfl, h⟩⟩)
  rw [f_X11_type]
  refine ⟨fun q => bad ?_, fun q => ⟨fun q1 => ?_, fun q1 => bad ?_⟩⟩
  · rintro ⟨k, hk, rfl⟩; exact nI_pos (by omega) q
  · obtain ⟨k, hk, rfl⟩ := (in_iff (b := a) 255 (by decide)).mp ⟨k2_le q, q1⟩
    rw [n2]
    refine ⟨fun q2 => ?_, fun q2 => ?_⟩
    · have hlt : n < 150 := (nI_ltI (b := 150) (by omega) (by omega)).mp q2
      rw [f_X10_adds, n2]
      refine br_f (nI_ge (b := 150) hlt (by omega)) ⟨pk_in n 150 hlt, ?_⟩
      rintro σ3 rfl
      rw [nI_clamp (by omega)]
      have e1 : (st_up σ 2 n (nI k)).1 1 0 = nI n := n2
      rw [e1, nI_1, st_up_at, f_X12_type]
      refine m_in0 (n := 255) rfl (by decide) (fun _ _ _ => ⟨fun _ => ?_, fun w => absurd w (by decide)⟩) (fun w => absurd ⟨k, hk, rfl⟩ w)
      rw [n3]
      refine ⟨fun _ => ⟨pk_in n 150 hlt, ?_⟩, fun w => absurd ((nI_eq (b := 150) (by omega) (by omega)).mp w) (by omega)⟩
      rintro τ6 rfl
      rw [nI_clamp (by omega)]
      have e2 : (st_up τ 1 n (nI k).toInt8.toInt32).1 0 2 = nI n := n3
      rw [e2, nI_1, st_up_at]
      refine ⟨rfl, N, RC_A (σ := σ) (τ := τ) (fun c h1 h2 => ?_) rfl rfl rfl (fun _ _ => rfl) (fun _ _ => rfl) hc, hn, hi, hl, ht, ⟨n + 1, by omega, st_up_at _ _ _ _, st_up_at _ _ _ _, fun j hj => ?_⟩, htr, RP_A (σ := σ) hc.1 (fun c h1 h2 => ?_) rfl rfl rfl hp⟩
      · rw [st_up_ne _ (by omega), st_up_ne _ (by omega)]
      · show ∃ c : Nat, c < 256 ∧ (st_up σ 2 n (nI k)).1 2 j = nI c ∧ (st_up τ 1 n (nI k).toInt8.toInt32).1 1 j &&& 255 = nI c
        by_cases e : j = n
        · subst e
          rw [st_up_at, st_up_at]
          exact ⟨k, by omega, rfl, byte_ok k (by omega)⟩
        · rw [st_up_nat _ e, st_up_nat _ e]
          exact n4 j (by omega)
      · rw [st_up_ne _ (by omega), st_up_ne _ (by omega)]
    · have hge : n = 150 := by
        have : ¬ n < 150 := fun w => q2 ((nI_ltI (b := 150) (a := n) (by omega) (by omega)).mpr w)
        omega
      subst hge
      rw [f_X12_type]
      refine m_in0 (n := 255) rfl (by decide) (fun _ _ _ => ⟨fun _ => ?_, fun w => absurd w (by decide)⟩) (fun w => absurd ⟨k, hk, rfl⟩ w)
      rw [n3]
      exact ⟨fun w => absurd rfl w, fun _ => ⟨rfl, h⟩⟩
  · rintro ⟨k, hk, rfl⟩; exact q1 (nI_le (b := 255) hk (by decide))
theorem sim_forget : Sm f_X11_forget f_X12_forget := by
  intro σ τ h
  obtain ⟨N, hc, hn, hi, hl, ht, htx, htr, hp⟩ := h
  obtain ⟨l, l1, l2, l3, l4⟩ := hl
  obtain ⟨t, t1, t2, t3, t4⟩ := ht
  rw [f_X11_forget]
  rintro _ rfl
  rw [f_X12_forget]
  rintro _ rfl
  refine ⟨by rw [l2, l3, t2, t3], N, RC_A (σ := σ) (τ := τ) (fun c h1 h2 => ?_) rfl rfl rfl (fun _ _ => rfl) (fun _ _ => rfl) hc, hn, hi, ⟨0, by omega, rfl, rfl, fun j hj => absurd hj (by omega)⟩, ⟨0, by omega, rfl, rfl, fun j hj => absurd hj (by omega)⟩, htx, htr, RP_A (σ := σ) hc.1 (fun c h1 h2 => ?_) rfl rfl rfl hp⟩
  · rw [st_up_ne _ (by omega), st_up_ne _ (by omega)]
  · rw [st_up_ne _ (by omega), st_up_ne _ (by omega)]
theorem sim_lights (a b : Int32) : Sm (f_X11_lights a b) (f_X12_lights a b) := by
  intro σ τ h
  obtain ⟨N, hc, hn, hi, hl, ht, htx, htr, hp⟩ := id h
  obtain ⟨c1, c2, c3, c4, -⟩ := id hc
  obtain ⟨l, l1, l2, l3, l4⟩ := hl
  have bad : (¬ (isS N (σ.1 21 1) a ∧ ¬ a = 0 ∧ ∃ k, k ≤ 499 ∧ b = nI k)) → f_X12_lights a b τ (fun r' τ' => -1 = r' ∧ Rl σ τ') := by
    intro q
    rw [f_X12_lights]
    refine m_isShift c3 c1 (fun w => ⟨fun q => absurd q (by decide), fun _ => ⟨fun _ => ⟨rfl, h⟩, fun w2 => ?_⟩⟩) (fun w => ⟨fun _ => ⟨rfl, h⟩, fun q => absurd rfl q⟩)
    rw [c4] at w
    exact m_in0 (n := 499) rfl (by decide) (fun k hk e => absurd ⟨w, w2, k, hk, e⟩ q) (fun _ => ⟨fun w => absurd rfl w, fun _ => ⟨rfl, h⟩⟩)
  rw [f_X11_lights]
  refine x_isShift c2 c1 (fun q => ⟨fun q => absurd q (by decide), fun _ => ⟨fun q1 => bad (fun w => w.2.1 q1), fun q1 => ⟨fun q2 => bad ?_, fun q2 => ⟨fun q3 => ?_, fun q3 => bad ?_⟩⟩⟩⟩) (fun q => ⟨fun _ => bad (fun w => q w.1), fun q => absurd rfl q⟩)
  · rintro ⟨-, -, k, hk, rfl⟩; exact nI_pos (by omega) q2
  · have i2 := (in_iff (b := b) 499 (by decide)).mp ⟨k2_le q2, q3⟩
    obtain ⟨k, hk, ek, -⟩ := id q
    rw [l2]
    refine ⟨fun q4 => ?_, fun q4 => ?_⟩
    · have hlt : l < 6 := (nI_ltI (b := 6) (by omega) (by omega)).mp q4
      refine ⟨pk_in l 6 hlt, ?_⟩
      rw [nI_clamp (by omega)]
      rintro _ rfl
      have e1 : (st_up σ 72 l a).1 0 16 = nI l := l2
      rw [e1, nI_clamp (by omega)]
      refine ⟨pk_in l 6 hlt, ?_⟩
      rintro _ rfl
      have e2 : (st_up (st_up σ 72 l a) 73 l b).1 0 16 = nI l := l2
      rw [e2, nI_1, st_up_at, f_X12_lights]
      refine m_isShift c3 c1 (fun w => ⟨fun q => absurd q (by decide), fun _ => ⟨fun w => absurd w q1, fun w2 => ?_⟩⟩) (fun w => absurd (by rw [c4]; exact q) w)
      refine m_in0 (n := 499) rfl (by decide) (fun _ _ _ => ⟨fun _ => ?_, fun w => absurd w (by decide)⟩) (fun w => absurd i2 w)
      rw [l3]
      refine ⟨fun _ => ⟨pk_in l 6 hlt, ?_⟩, fun w => absurd ((nI_eq (b := 6) (by omega) (by omega)).mp w) (by omega)⟩
      rw [nI_clamp (by omega)]
      rintro _ rfl
      have e3 : (st_up τ 14 l a).1 0 24 = nI l := l3
      rw [e3, nI_clamp (by omega)]
      refine ⟨pk_in l 6 hlt, ?_⟩
      rintro _ rfl
      have e4 : (st_up (st_up τ 14 l a) 15 l b).1 0 24 = nI l := l3
      rw [e4, nI_1, st_up_at]
      refine ⟨rfl, N, RC_A (σ := σ) (τ := τ) (fun c h1 h2 => ?_) rfl rfl rfl (fun _ _ => rfl) (fun _ _ => rfl) hc, hn, hi, ⟨l + 1, by omega, st_up_at _ _ _ _, st_up_at _ _ _ _, fun j hj => ?_⟩, ht, htx, htr, RP_A (σ := σ) hc.1 (fun c h1 h2 => ?_) rfl rfl rfl hp⟩
      · rw [st_up_ne _ (by omega), st_up_ne _ (by omega), st_up_ne _ (by omega)]
      · show (st_up τ 14 l a).1 14 j = (st_up σ 72 l a).1 72 j ∧ (st_up (st_up τ 14 l a) 15 l b).1 15 j = (st_up (st_up σ 72 l a) 73 l b).1 73 j ∧ ∃ k, k < 2 ^ N ∧ (st_up σ 72 l a).1 72 j = nI k
        by_cases e : j = l
        · subst e
          rw [st_up_at, st_up_at, st_up_at, st_up_at]
          exact ⟨rfl, rfl, k, hk, ek⟩
        · rw [st_up_nat _ e, st_up_nat _ e, st_up_nat _ e, st_up_nat _ e]
          exact l4 j (by omega)
      · rw [st_up_ne _ (by omega), st_up_ne _ (by omega), st_up_ne _ (by omega)]
    · have hge : l = 6 := by
        have : ¬ l < 6 := fun w => q4 ((nI_ltI (b := 6) (a := l) (by omega) (by omega)).mpr w)
        omega
      subst hge
      rw [f_X12_lights]
      refine m_isShift c3 c1 (fun w => ⟨fun q => absurd q (by decide), fun _ => ⟨fun w => absurd w q1, fun w2 => ?_⟩⟩) (fun w => absurd (by rw [c4]; exact q) w)
      refine m_in0 (n := 499) rfl (by decide) (fun _ _ _ => ⟨fun _ => ?_, fun w => absurd w (by decide)⟩) (fun w => absurd i2 w)
      rw [l3]
      exact ⟨fun w => absurd rfl w, fun _ => ⟨rfl, h⟩⟩
  · rintro ⟨-, -, k, hk, rfl⟩; exact q3 (nI_le (b := 499) hk (by decide))
theorem sim_tells (a b : Int32) : Sm (f_X11_tells a b) (f_X12_tells a b) := by
  intro σ τ h
  obtain ⟨N, hc, hn, hi, hl, ht, htx, htr, hp⟩ := id h
  obtain ⟨l, l1, l2, l3, l4⟩ := ht
  have bad : (¬ ((∃ k, k ≤ 99 ∧ a = nI k) ∧ ∃ k, k ≤ 299 ∧ b = nI k)) → f_X12_tells a b τ (fun r' τ' => -1 = r' ∧ Rl σ τ') := by
    intro q
    rw [f_X12_tells]
    refine m_in0 (n := 99) rfl (by decide) (fun k hk e => ⟨fun q => absurd q (by decide), fun _ => ?_⟩) (fun _ => ⟨fun _ => ⟨rfl, h⟩, fun q => absurd rfl q⟩)
    exact m_in0 (n := 299) rfl (by decide) (fun k' hk' e' => absurd ⟨⟨k, hk, e⟩, k', hk', e'⟩ q) (fun _ => ⟨fun w => absurd rfl w, fun _ => ⟨rfl, h⟩⟩)
  rw [f_X11_tells]
  refine ⟨fun q => bad ?_, fun q => ⟨fun q1 => bad ?_, fun q1 => ⟨fun q2 => bad ?_, fun q2 => ⟨fun q3 => ?_, fun q3 => bad ?_⟩⟩⟩⟩
  · rintro ⟨⟨k, hk, rfl⟩, -⟩; exact nI_pos (by omega) q
  · rintro ⟨⟨k, hk, rfl⟩, -⟩; exact nI_nlt (a := 99) hk (by omega) q1
  · rintro ⟨-, k, hk, rfl⟩; exact nI_pos (by omega) q2
  · have i1 := (in_iff (b := a) 99 (by decide)).mp ⟨k2_le q, k2_le q1⟩
    have i2 := (in_iff (b := b) 299 (by decide)).mp ⟨k2_le q2, q3⟩
    rw [l2]
    refine ⟨fun q4 => ?_, fun q4 => ?_⟩
    · have hlt : l < 6 := (nI_ltI (b := 6) (by omega) (by omega)).mp q4
      refine ⟨pk_in l 6 hlt, ?_⟩
      rw [nI_clamp (by omega)]
      rintro _ rfl
      have e1 : (st_up σ 74 l a).1 0 17 = nI l := l2
      rw [e1, nI_clamp (by omega)]
      refine ⟨pk_in l 6 hlt, ?_⟩
      rintro _ rfl
      have e2 : (st_up (st_up σ 74 l a) 75 l b).1 0 17 = nI l := l2
      rw [e2, nI_1, st_up_at, f_X12_tells]
      refine m_in0 (n := 99) rfl (by decide) (fun _ _ _ => ⟨fun q => absurd q (by decide), fun _ => ?_⟩) (fun w => absurd i1 w)
      refine m_in0 (n := 299) rfl (by decide) (fun _ _ _ => ⟨fun _ => ?_, fun w => absurd w (by decide)⟩) (fun w => absurd i2 w)
      rw [l3]
      refine ⟨fun _ => ⟨pk_in l 6 hlt, ?_⟩, fun w => absurd ((nI_eq (b := 6) (by omega) (by omega)).mp w) (by omega)⟩
      rw [nI_clamp (by omega)]
      rintro _ rfl
      have e3 : (st_up τ 16 l a).1 0 27 = nI l := l3
      rw [e3, nI_clamp (by omega)]
      refine ⟨pk_in l 6 hlt, ?_⟩
      rintro _ rfl
      have e4 : (st_up (st_up τ 16 l a) 17 l b).1 0 27 = nI l := l3
      rw [e4, nI_1, st_up_at]
      refine ⟨rfl, N, RC_A (σ := σ) (τ := τ) (fun c h1 h2 => ?_) rfl rfl rfl (fun _ _ => rfl) (fun _ _ => rfl) hc, hn, hi, hl, ⟨l + 1, by omega, st_up_at _ _ _ _, st_up_at _ _ _ _, fun j hj => ?_⟩, htx, htr, RP_A (σ := σ) hc.1 (fun c h1 h2 => ?_) rfl rfl rfl hp⟩
      · rw [st_up_ne _ (by omega), st_up_ne _ (by omega), st_up_ne _ (by omega)]
      · show (st_up τ 16 l a).1 16 j = (st_up σ 74 l a).1 74 j ∧ (st_up (st_up τ 16 l a) 17 l b).1 17 j = (st_up (st_up σ 74 l a) 75 l b).1 75 j ∧ rg 0 99 ((st_up σ 74 l a).1 74 j)
        by_cases e : j = l
        · subst e
          rw [st_up_at, st_up_at, st_up_at, st_up_at]
          obtain ⟨k, hk, rfl⟩ := i1
          exact ⟨rfl, rfl, nI_rg (by omega) (by omega)⟩
        · rw [st_up_nat _ e, st_up_nat _ e, st_up_nat _ e, st_up_nat _ e]
          exact l4 j (by omega)
      · rw [st_up_ne _ (by omega), st_up_ne _ (by omega), st_up_ne _ (by omega)]
    · have hge : l = 6 := by
        have : ¬ l < 6 := fun w => q4 ((nI_ltI (b := 6) (a := l) (by omega) (by omega)).mpr w)
        omega
      subst hge
      rw [f_X12_tells]
      refine m_in0 (n := 99) rfl (by decide) (fun _ _ _ => ⟨fun q => absurd q (by decide), fun _ => ?_⟩) (fun w => absurd i1 w)
      refine m_in0 (n := 299) rfl (by decide) (fun _ _ _ => ⟨fun _ => ?_, fun w => absurd w (by decide)⟩) (fun w => absurd i2 w)
      rw [l3]
      exact ⟨fun w => absurd rfl w, fun _ => ⟨rfl, h⟩⟩
  · rintro ⟨-, k, hk, rfl⟩; exact q3 (nI_le (b := 299) hk (by decide))
