/-! PLAN: both sides. -/
theorem a3_cases {c : Int32} (h1 : ¬ c < -1) (h2 : c < 3) : c = -1 ∨ ∃ i, i ≤ 2 ∧ c = nI i := by
  by_cases q : c < 0
  · left
    rw [Int32.lt_iff_toInt_lt] at h1 q
    apply Int32.toInt_inj.mp
    have e1 : (-1 : Int32).toInt = -1 := by decide
    have e0 : (0 : Int32).toInt = 0 := by decide
    omega
  · obtain ⟨i, hi, rfl⟩ := nI_of q
    exact Or.inr ⟨i, by have := (nI_ltI (b := 3) hi (by omega)).mp h2; omega, rfl⟩
theorem m_plan {N w v C : Nat} {c : Int32} {τ : St} {post : Int32 → St → Prop} (hs : MS N w C τ) (hv : v ≤ 99) (hc : c = -1 ∨ ∃ i, i ≤ 2 ∧ c = nI i)
    (h : ∀ τ2, MQ5 w τ (mdfs N v τ w (τ.1 8) 0 [] (-1, [])) τ2 → (c = -1 → post (mdfs N v τ w (τ.1 8) 0 [] (-1, [])).1 τ2) ∧ (∀ i, c = nI i → w ≤ i → i ≤ 2 → post (-9) τ2) ∧ (∀ i, c = nI i → i < w → post (τ2.1 12 i) τ2)) : f_X12_plan (nI w) (nI v) c τ post := by
  obtain ⟨m1, m2, m3, m4, m5, m6, m7⟩ := id hs
  rw [f_X12_plan, m_in, if_pos ⟨nI_le (a := 1) (by omega) (by omega), nI_le (b := 3) (by omega) (by omega)⟩]
  refine ⟨fun w => absurd w (by decide), fun _ => ?_⟩
  rw [m_in, if_pos ⟨nI_pos' (by omega), nI_le (b := 99) (by omega) (by omega)⟩]
  refine ⟨fun w => absurd w (by decide), fun _ => ?_⟩
  have hc2 : -1 ≤ c ∧ c ≤ 2 := by
    rcases hc with rfl | ⟨i, hi, rfl⟩
    · exact ⟨by decide, by decide⟩
    · exact ⟨Int32.le_trans (b := 0) (by decide) (nI_pos' (by omega)), nI_le (b := 2) hi (by omega)⟩
  rw [m_in, if_pos hc2]
  refine ⟨fun _ => ?_, fun w => absurd w (by decide)⟩
  have hx : ∀ g, (∀ m, m < 6 → g m = τ.1 8 m) → ∃ n, f_X12_plan_L78 (nI w) (nI v) c (fun x83 σ82 => (¬ c = (-1) → ((nI w ≤ c → (post (-9) σ82)) ∧ (¬ nI w ≤ c → (vp_in c 3 ∧ (post (σ82.1 12 c.toNatClampNeg) σ82))))) ∧ (c = (-1) → (post x83 σ82))) post n (1 <<< (((st_row τ 11 g).1 2 0) &&& 31)) (-1) 0 (st_row τ 11 g) := by
    intro g hg
    rw [st_row_ne _ _ (by decide), m5, shl_N N m1]
    refine m_L78 (b := (-1, [])) hs (⟨rfl, fun c c1 _ => st_row_ne _ _ c1, Or.inl rfl⟩ : MQ5 w τ (-1, []) (st_row τ 11 g)) (fun τ2 hq => ?_)
    have ed : mdfs N v τ w ((st_row τ 11 g).1 11) 0 [] (-1, []) = mdfs N v τ w (τ.1 8) 0 [] (-1, []) := dfs_cong (fun _ _ _ _ => rfl) (fun _ _ => rfl) (fun _ _ => rfl) _ _ _ _ _ _ (fun m hm => by rw [st_row_self]; exact hg m (by omega))
    rw [ed] at hq ⊢
    obtain ⟨p1, p2, p3⟩ := h τ2 hq
    refine ⟨fun q => ?_, fun q => p1 q⟩
    rcases hc with rfl | ⟨i, hi, rfl⟩
    · exact absurd rfl q
    · rw [nI_clamp (by omega)]
      refine ⟨fun q => p2 i rfl ((nI_leI (by omega) (by omega)).mp q) hi, fun q => ⟨pk_in i 3 (by omega), p3 i rfl ?_⟩⟩
      exact Nat.lt_of_not_le fun z => q ((nI_leI (by omega) (by omega)).mpr z)
  refine (floop (P := fun n j => f_X12_plan_L33 (nI w) (nI v) c _ post n (nI j) (st_row τ 11 (fl' (τ.1 8) (τ.1 11) j))) 6 (fun n => ?_) (fun n j hj ih => ?_)).imp (fun n hn => by rw [fl_0, st_row_id] at hn; exact hn)
  · rw [f_X12_plan_L33]
    exact br_t (le_t (nl 6) rfl (by omega) (by omega)) (hx _ (fun m hm => fl_lt hm))
  · rw [f_X12_plan_L33]
    refine br_f (le_f (nl 6) rfl hj (by omega)) ?_
    rw [Int32.zero_add, nI_clamp (by omega), st_up_row, st_row_ne (c := 11) (c' := 8) _ _ (by decide), fl_succ, nI_1]
    exact ⟨pk_in j 465 (by omega), pk_in j 36 (by omega), ih⟩
theorem Rl_P {N : Nat} {σ σ' τ τ' : St} (h2 : σ'.2 = σ.2) (hx : ∀ c, c < 53 ∨ 60 < c → σ'.1 c = σ.1 c) (hp' : RP N σ') (hm : MA τ τ') (hc : RC N σ τ) (hn : RN N σ τ) (hi : RI N σ τ) (hl : RLt N σ τ) (ht : RT σ τ) (htx : RX σ τ) (htr : RTr σ τ) : Rl σ' τ' := by
  refine ⟨N, RC_A (σ := σ) (τ := τ) (fun c _ _ => hx c (by omega)) (by rw [hm.2 2 rfl]) (by rw [hm.2 6 rfl]) (by rw [hm.2 7 rfl]) (fun i _ => by rw [hm.2 3 rfl]) (fun i _ => by rw [hm.2 5 rfl]) hc, ?_, ?_, ?_, ?_, ?_, ?_, hp'⟩
  · unfold RN
    rw [hx 40 (by omega), hx 41 (by omega), hx 42 (by omega), hx 39 (by omega), hm.2 8 rfl]; exact hn
  · unfold RI
    rw [hm.2 9 rfl, hx 52 (by omega), hx 46 (by omega), hx 47 (by omega), hx 48 (by omega), hx 44 (by omega), hx 49 (by omega), hx 50 (by omega), hx 51 (by omega), hx 45 (by omega), hm.2 8 rfl]; exact hi
  · unfold RLt
    rw [hx 0 (by omega), hm.2 0 rfl, hm.2 14 rfl, hm.2 15 rfl, hx 72 (by omega), hx 73 (by omega)]; exact hl
  · unfold RT
    rw [hx 0 (by omega), hm.2 0 rfl, hm.2 16 rfl, hm.2 17 rfl, hx 74 (by omega), hx 75 (by omega)]; exact ht
  · unfold RX
    rw [hx 1 (by omega), hx 2 (by omega), hm.2 0 rfl, hm.2 1 rfl]; exact htx
  · unfold RTr
    rw [h2, hm.1]; exact htr
theorem sim_plan (a b c : Int32) : Sm (f_X11_plan a b c) (f_X12_plan a b c) := by
  intro σ τ h
  obtain ⟨N, hc, hn, hi, hl, ht, htx, htr, hp⟩ := id h
  obtain ⟨c1, c2, c3, c4, c5, c6, c7, c8, c9, c10, c11, c12⟩ := id hc
  have bad : ¬ ((1 ≤ a ∧ a ≤ 3) ∧ (0 ≤ b ∧ b ≤ 99) ∧ (-1 ≤ c ∧ c ≤ 2)) → f_X12_plan a b c τ (fun r' τ' => -1 = r' ∧ Rl σ τ') := by
    intro q
    rw [f_X12_plan, m_in]
    by_cases q1 : 1 ≤ a ∧ a ≤ 3
    · rw [if_pos q1]
      refine ⟨fun w => absurd w (by decide), fun _ => ?_⟩
      rw [m_in]
      by_cases q2 : 0 ≤ b ∧ b ≤ 99
      · rw [if_pos q2]
        refine ⟨fun w => absurd w (by decide), fun _ => ?_⟩
        rw [m_in, if_neg (fun q3 => q ⟨q1, q2, q3⟩)]
        exact ⟨fun w => absurd rfl w, fun _ => ⟨rfl, h⟩⟩
      · rw [if_neg q2]
        exact ⟨fun _ => ⟨rfl, h⟩, fun w => absurd rfl w⟩
    · rw [if_neg q1]
      exact ⟨fun _ => ⟨rfl, h⟩, fun w => absurd rfl w⟩
  rw [f_X11_plan]
  refine ⟨fun q => bad (fun w => k2_nlt w.1.1 q), fun qa1 => ⟨fun q => bad (fun w => k2_nlt w.1.2 q), fun qa2 => ⟨fun q => bad (fun w => k2_nlt w.2.1.1 q), fun qb1 => ⟨fun q => bad (fun w => k2_nlt w.2.1.2 q), fun qb2 => ⟨fun q => bad (fun w => k2_nlt w.2.2.1 q), fun qc1 => ⟨fun qc2 => ?_, fun qc2 => bad (fun w => qc2 ?_)⟩⟩⟩⟩⟩⟩
  · obtain ⟨w, hw, rfl⟩ := nI_of (x := a) (fun q => qa1 (Int32.lt_of_lt_of_le q (by decide)))
    have hw1 : 1 ≤ w := Nat.le_of_not_lt fun z => qa1 ((nI_ltI (b := 1) hw (by omega)).mpr z)
    have hw3 : w ≤ 3 := Nat.le_of_not_lt fun z => qa2 ((nI_ltI (a := 3) (by omega) hw).mpr z)
    obtain ⟨v, hv, rfl⟩ := nI_of qb1
    have hv9 : v ≤ 99 := Nat.le_of_not_lt fun z => qb2 ((nI_ltI (a := 99) (by omega) hv).mpr z)
    have hcc := a3_cases qc1 qc2
    obtain ⟨C, hC, eC⟩ := rg_nI (b := 6) (x := σ.1 21 1) ⟨by have := c6.1; omega, c6.2⟩ (by omega)
    have hMS : MS N w C τ := ⟨c1, hw1, hw3, hC, c3, by rw [c4]; exact eC, hc.z⟩
    have ed : mdfs N v τ w (τ.1 8) 0 [] (-1, []) = dfs N (xne σ) (σ.1 23) (σ.1 21 2) (σ.1 21 1) (nI v) (σ.1 40) w (σ.1 40) 0 [] (-1, []) := by
      rw [mdfs, c4, c5]
      exact dfs_cong (fun a ha b hb => (c9 a ha b hb).1) (fun m hm => (c8 m hm).1) (fun m hm => (hn.1 m hm).1) _ _ _ _ _ _ (fun m hm => (hn.1 m hm).1)
    have hMA : ∀ {b : Int32 × List Int32} {τ2 : St}, MQ5 w τ b τ2 → MA τ τ2 := fun hq => ⟨hq.1, fun c hc => hq.2.1 c (fun e => by rw [e] at hc; cases hc) (fun e => by rw [e] at hc; cases hc)⟩
    refine ⟨fun q => ?_, fun q => ?_⟩
    · refine x_search (C := C) c1 ⟨hw1, hw3⟩ hv9 hC c2 c11 c12 (fun a ha b hb => (c9 a ha b hb).2) (fun m hm => (c8 m hm).2) eC (fun m hm => (hn.1 m hm).2.1) hp (fun σ' x2 xc xp xo x0 => ?_)
      have hR : ∀ {b : Int32 × List Int32} {τ2 : St}, MQ5 w τ b τ2 → Rl σ' τ2 := fun hq => Rl_P x2 xc xp (hMA hq) hc hn hi hl ht htx htr
      refine ⟨fun q0 => ?_, fun q0 => ?_⟩
      · obtain ⟨i, hi2, ei⟩ := hcc.resolve_left (fun e => by rw [e] at q0; exact absurd q0 (by decide))
        subst ei
        have hiw : i < w := (nI_ltI (by omega) (by omega)).mp q
        rw [nI_clamp (by omega)]
        refine ⟨pk_in i 3 (by omega), m_plan hMS hv9 (Or.inr ⟨i, hi2, rfl⟩) (fun τ2 hq => ⟨fun e => ?_, fun j e hj _ => ?_, fun j e hj => ⟨?_, hR hq⟩⟩)⟩
        · rw [e] at q0; exact absurd q0 (by decide)
        · have : i = j := by
            by_cases z : j < 2 ^ 31
            · exact nI_ij (by omega) z e
            · omega
          omega
        · have : i = j := nI_ij (by omega) (by omega) e
          subst this
          rcases hq.2.2 with z | z
          · rw [ed] at z
            rw [xo.1, z] at x0
            exact absurd x0 (by decide)
          · rw [z i hiw, ed, xo.2 i hiw]
      · have e1 : c = -1 := by
          rcases hcc with e | ⟨i, hi2, rfl⟩
          · exact e
          · exact absurd (nI_pos' (by omega)) q0
        subst e1
        refine m_plan hMS hv9 (Or.inl rfl) (fun τ2 hq => ⟨fun _ => ⟨by rw [ed]; exact xo.1, hR hq⟩, fun j e _ hj => ?_, fun j e hj => ?_⟩)
        · have hz : (-1 : Int32) < 0 := by decide
          rw [e] at hz
          exact absurd hz (nI_pos (by omega))
        · have hz : (-1 : Int32) < 0 := by decide
          rw [e] at hz
          exact absurd hz (nI_pos (by omega))
    · refine m_plan hMS hv9 hcc (fun τ2 hq => ⟨fun e => absurd (by rw [e]; exact Int32.lt_of_lt_of_le (b := 0) (by decide) (nI_pos' (by omega))) q, fun j _ _ _ => ⟨rfl, Rl_A XA.rf (hMA hq) h⟩, fun j e hj => absurd (by rw [e]; exact (nI_ltI (by omega) (by omega)).mpr hj) q⟩)
  · exact Int32.lt_of_le_of_lt w.2.2.2 (by decide)
