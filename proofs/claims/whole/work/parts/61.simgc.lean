/-! PIT: the draft under an item. -/
theorem isN_le {t : Nat → Nat} {n p lo hi : Nat} (hn : n ≤ 150) (hp : p ≤ n) (hh : hi < 2 ^ 31) (h : isN t n p lo (nI hi)) : lo ≤ tV t n p ∧ tV t n p ≤ hi := by
  have hv := tV_2 hn hp h.1
  exact ⟨h.2.1, (nI_leI (by omega) hh).mp h.2.2⟩
theorem nI_rg2 {k : Nat} {a b : Int} (h1 : a ≤ (k : Int)) (h2 : (k : Int) ≤ b) (hk : k < 2 ^ 31) : rg a b (nI k) := by
  have := nI_toInt hk
  exact ⟨by omega, by omega⟩
theorem ng_rg {k : Nat} (hk : k ≤ 9) : rg (-9) 9 (- nI k) := by
  have e := nI_toInt (n := k) (by omega)
  have e2 : (- nI k).toInt = - (k : Int) := by
    rw [show - nI k = 0 - nI k from (Int32.zero_sub _).symm, fb_subI (by rw [e]; have : (0 : Int32).toInt = 0 := rfl; omega) (by rw [e]; have : (0 : Int32).toInt = 0 := rfl; omega), e]
    have : (0 : Int32).toInt = 0 := rfl
    omega
  exact ⟨by omega, by omega⟩
def sOf (code s : Nat) : Nat := if code = 2 then s + 1 else s
theorem GI.y9 {t : Nat → Nat} {n s p q code a b : Nat} {c7 c8 x y : Int32} (hn : n ≤ 150) (hp : p ≤ n) (hg : GI t n s c7 c8 p q code a b x y) (hc : code = 3) : rg (-9) 9 y := by
  obtain ⟨c1, hg⟩ := hg
  have hq1 := (te_le (t := t) hn hp).2
  have hq2 := (te_le (t := t) hn hq1).2
  have hq3 := (te_le (t := t) hn hq2).2
  rcases hg with ⟨v99, c7, hN, rfl, rfl, rfl⟩ | ⟨v115, c8, hN, rfl, rfl, rfl⟩ | ⟨v109, c6, hN, hN2, rfl, rfl, rfl, rfl⟩ | ⟨v2, hN, hN2, hne, hN3, rfl, rfl, rfl, rfl, hy⟩
  · omega
  · omega
  · omega
  · have := (isN_le (hi := 9) hn hq3 (by omega) hN3).2
    rw [hy]
    split
    · exact ng_rg this
    · exact nI_rg2 (by omega) (by omega) (by omega)
theorem GI.fact {t : Nat → Nat} {n s p q code a b : Nat} {c7 c8 x y : Int32} (hn : n ≤ 150) (hp : p ≤ n) (hs : s ≤ 6) (hg : GI t n s c7 c8 p q code a b x y) : (code = 0 ∧ rg 1 6 y) ∨ (code = 1 ∧ rg 0 50 y) ∨ (code = 2 ∧ s < 6 ∧ rg 0 99 x ∧ rg 0 9 y) ∨ (code = 3 ∧ a < s ∧ b < s ∧ a ≠ b ∧ rg (-9) 9 y) := by
  have hy := hg.y9 hn hp
  obtain ⟨c1, hg⟩ := hg
  have hq1 := (te_le (t := t) hn hp).2
  have hq2 := (te_le (t := t) hn hq1).2
  have hq3 := (te_le (t := t) hn hq2).2
  rcases hg with ⟨v99, c7, hN, rfl, rfl, rfl⟩ | ⟨v115, c8, hN, rfl, rfl, rfl⟩ | ⟨v109, c6, hN, hN2, rfl, rfl, rfl, rfl⟩ | ⟨v2, hN, hN2, hne, hN3, rfl, rfl, rfl, rfl, hy2⟩
  · have := isN_le (hi := 6) hn hq1 (by omega) hN
    exact Or.inl ⟨rfl, nI_rg2 (by omega) (by omega) (by omega)⟩
  · have := isN_le (hi := 50) hn hq1 (by omega) hN
    exact Or.inr (Or.inl ⟨rfl, nI_rg2 (by omega) (by omega) (by omega)⟩)
  · have := isN_le (hi := 99) hn hq1 (by omega) hN
    have := isN_le (hi := 9) hn hq2 (by omega) hN2
    exact Or.inr (Or.inr (Or.inl ⟨rfl, c6, nI_rg2 (by omega) (by omega) (by omega), nI_rg2 (by omega) (by omega) (by omega)⟩))
  · exact Or.inr (Or.inr (Or.inr ⟨rfl, isN_lt hn hq1 hs hN, isN_lt hn hq2 hs hN2, hne, hy rfl⟩))
theorem GI.q {t : Nat → Nat} {n s p q code a b : Nat} {c7 c8 x y : Int32} (hn : n ≤ 150) (hp : p ≤ n) (hg : GI t n s c7 c8 p q code a b x y) : p + 1 ≤ q ∧ q ≤ n := by
  obtain ⟨c1, hg⟩ := hg
  have hs := ts_spec (t := t) hn hp
  have h0 := te_spec (t := t) hn hp (tK_1 c1) (Or.inl rfl)
  have hq1 := (te_le (t := t) hn hp)
  have hs1 := ts_spec (t := t) hn hq1.2
  have hq2 := (te_le (t := t) hn hq1.2)
  have hs2 := ts_spec (t := t) hn hq2.2
  have hq3 := (te_le (t := t) hn hq2.2)
  have hs3 := ts_spec (t := t) hn hq3.2
  have hq4 := (te_le (t := t) hn hq3.2)
  rcases hg with ⟨v99, c7, hN, rfl, rfl, rfl⟩ | ⟨v115, c8, hN, rfl, rfl, rfl⟩ | ⟨v109, c6, hN, hN2, rfl, rfl, rfl, rfl⟩ | ⟨v2, hN, hN2, hne, hN3, rfl, rfl, rfl, rfl, hy2⟩ <;> omega
def XV (s : Nat) (σ0 σ : St) : Prop := s ≤ 6 ∧ σ.1 3 0 = nI s ∧ (∀ a, a < 6 → ∀ b, b < 6 → rg (-9) 9 (σ.1 (7 + a) b)) ∧ (σ.1 1 7 = 0 ∨ σ.1 1 7 = 1) ∧ (σ.1 1 8 = 0 ∨ σ.1 1 8 = 1) ∧ XF σ0 σ
theorem XV.u {s : Nat} {σ0 σ σ' : St} (h : XV s σ0 σ) (hu : XU σ σ') : XV s σ0 σ' := by
  obtain ⟨a1, a2, a3, a4, a5, a6⟩ := h
  refine ⟨a1, ?_, fun a ha b hb => ?_, ?_, ?_, a6.u hu⟩
  · rw [hu.2.1 3 (by omega)]; exact a2
  · rw [hu.2.1 (7 + a) (by omega)]; exact a3 a ha b hb
  · rw [hu.2.2 7 (by omega)]; exact a4
  · rw [hu.2.2 8 (by omega)]; exact a5
theorem XV.item {s code a b : Nat} {x y : Int32} {σ0 σ : St} (h : XV s σ0 σ) (hf : (code = 0 ∧ rg 1 6 y) ∨ (code = 1 ∧ rg 0 50 y) ∨ (code = 2 ∧ s < 6 ∧ rg 0 99 x ∧ rg 0 9 y) ∨ (code = 3 ∧ a < s ∧ b < s ∧ a ≠ b ∧ rg (-9) 9 y)) : XV (sOf code s) σ0 (AX code s a b x y σ) := by
  obtain ⟨a1, a2, a3, a4, a5, a6⟩ := h
  rcases hf with ⟨rfl, hy⟩ | ⟨rfl, hy⟩ | ⟨rfl, hs, hx, hy⟩ | ⟨rfl, ha, hb, hne, hy⟩
  · refine ⟨a1, a2, fun i hi j hj => ?_, Or.inr rfl, a5, a6.tr ((XF.up1 (by omega)).tr (XF.upD (by omega)))⟩
    rw [AX, if_pos rfl, st_up_ne _ (by omega), st_up_ne _ (by omega)]; exact a3 i hi j hj
  · refine ⟨a1, a2, fun i hi j hj => ?_, a4, Or.inr rfl, a6.tr ((XF.up1 (by omega)).tr (XF.upD (by omega)))⟩
    rw [AX, if_neg (by omega), if_pos rfl, st_up_ne _ (by omega), st_up_ne _ (by omega)]; exact a3 i hi j hj
  · refine ⟨show s + 1 ≤ 6 by omega, rfl, fun i hi j hj => ?_, a4, a5, a6.tr (((XF.upD (by omega)).tr (XF.upD (by omega))).tr (XF.upD (by omega)))⟩
    rw [AX, if_neg (by omega), if_neg (by omega), if_pos rfl, st_up_ne _ (by omega), st_up_ne _ (by omega), st_up_ne _ (by omega)]; exact a3 i hi j hj
  · have e : AX 3 s a b x y σ = st_up (st_up σ (7 + a) b y) (7 + b) a y := rfl
    rw [e]
    refine ⟨a1, ?_, fun i hi j hj => ?_, ?_, ?_, a6.tr ((XF.upD (by omega)).tr (XF.upD (by omega)))⟩
    · rw [st_up_ne _ (by omega), st_up_ne _ (by omega)]; exact a2
    · by_cases e1 : i = b
      · subst e1
        by_cases e2 : j = a
        · rw [e2, st_up_at]; exact hy
        · rw [st_up_nat _ e2, st_up_ne _ (by omega)]; exact a3 i hi j hj
      · rw [st_up_ne _ (by omega)]
        by_cases e3 : i = a
        · subst e3
          by_cases e4 : j = b
          · rw [e4, st_up_at]; exact hy
          · rw [st_up_nat _ e4]; exact a3 i hi j hj
        · rw [st_up_ne _ (by omega)]; exact a3 i hi j hj
    · rw [st_up_ne _ (by omega), st_up_ne _ (by omega)]; exact a4
    · rw [st_up_ne _ (by omega), st_up_ne _ (by omega)]; exact a5
def JD (s : Nat) (τ0 σ τ : St) : Prop := DR s σ τ ∧ MF τ0 τ ∧ τ.1 0 14 = σ.1 1 7 ∧ τ.1 0 15 = σ.1 1 8
theorem JD.u {s : Nat} {τ0 σ σ' τ τ' : St} (h : JD s τ0 σ τ) (hx : XU σ σ') (hm : MU τ τ') : JD s τ0 σ' τ' := by
  obtain ⟨⟨d1, d2, d3, d4, d5, d6, d7, d8, d9, d10⟩, hf, h14, h15⟩ := h
  have e7 : ∀ a, a < 6 → σ'.1 (7 + a) = σ.1 (7 + a) := fun a ha => hx.2.1 _ (by omega)
  refine ⟨⟨d1, ?_, ?_, ?_, ?_, ?_, ?_, ?_, fun a ha b hb => ?_, fun a ha => ?_⟩, hf.u hm, ?_, ?_⟩
  · rw [hx.2.1 3 (by omega)]; exact d2
  · rw [hm.2.1 2 (by omega)]; exact d3
  · rw [hx.2.1 3 (by omega)]; exact d4
  · rw [hx.2.1 3 (by omega), hm.2.1 6 (by omega)]; exact d5
  · rw [hx.2.1 3 (by omega)]; exact d6
  · rw [hx.2.1 3 (by omega), hm.2.1 7 (by omega)]; exact d7
  · rw [hx.2.1 4 (by omega), hx.2.1 5 (by omega), hm.2.1 4 (by omega), hm.2.1 3 (by omega)]; exact d8
  · rw [e7 a ha, hm.2.1 5 (by omega)]; exact d9 a ha b hb
  · rw [e7 a ha]; exact d10 a ha
  · rw [hm.2.2 14 (by omega), hx.2.2 7 (by omega)]; exact h14
  · rw [hm.2.2 15 (by omega), hx.2.2 8 (by omega)]; exact h15
theorem JD.item {s code a b : Nat} {x y : Int32} {τ0 σ τ : St} (h : JD s τ0 σ τ) (hf : (code = 0 ∧ rg 1 6 y) ∨ (code = 1 ∧ rg 0 50 y) ∨ (code = 2 ∧ s < 6 ∧ rg 0 99 x ∧ rg 0 9 y) ∨ (code = 3 ∧ a < s ∧ b < s ∧ a ≠ b ∧ rg (-9) 9 y)) : JD (sOf code s) τ0 (AX code s a b x y σ) (AM code s a b x y τ) := by
  obtain ⟨⟨d1, d2, d3, d4, d5, d6, d7, d8, d9, d10⟩, hF, h14, h15⟩ := h
  rcases hf with ⟨rfl, hy⟩ | ⟨rfl, hy⟩ | ⟨rfl, hs, hx, hy⟩ | ⟨rfl, ha, hb, hne, hy⟩
  · have e : AX 0 s a b x y σ = st_up (st_up σ 1 7 1) 3 1 y := rfl
    have e' : AM 0 s a b x y τ = st_up (st_up τ 6 1 y) 0 14 1 := rfl
    rw [e, e']
    have e7 : ∀ i, i < 6 → (st_up (st_up σ 1 7 1) 3 1 y).1 (7 + i) = σ.1 (7 + i) := fun i hi => by rw [st_up_ne _ (by omega), st_up_ne _ (by omega)]
    refine ⟨⟨d1, d2, d3, hy, rfl, d6, d7, d8, fun i hi j hj => ?_, fun i hi => ?_⟩, hF.tr (MF.up6.tr (MF.up0 (by omega))), rfl, h15⟩
    · rw [e7 i hi]; exact d9 i hi j hj
    · rw [e7 i hi]; exact d10 i hi
  · have e : AX 1 s a b x y σ = st_up (st_up σ 1 8 1) 3 2 y := rfl
    have e' : AM 1 s a b x y τ = st_up (st_up τ 7 1 y) 0 15 1 := rfl
    rw [e, e']
    have e7 : ∀ i, i < 6 → (st_up (st_up σ 1 8 1) 3 2 y).1 (7 + i) = σ.1 (7 + i) := fun i hi => by rw [st_up_ne _ (by omega), st_up_ne _ (by omega)]
    refine ⟨⟨d1, d2, d3, d4, d5, hy, rfl, d8, fun i hi j hj => ?_, fun i hi => ?_⟩, hF.tr (MF.up7.tr (MF.up0 (by omega))), h14, rfl⟩
    · rw [e7 i hi]; exact d9 i hi j hj
    · rw [e7 i hi]; exact d10 i hi
  · have e : AX 2 s a b x y σ = st_up (st_up (st_up σ 4 s x) 5 s y) 3 0 (nI (s + 1)) := rfl
    have e' : AM 2 s a b x y τ = st_up (st_up (st_up τ 4 s x) 3 (6 + s) y) 2 1 (nI (s + 1)) := rfl
    rw [e, e']
    have e7 : ∀ i, i < 6 → (st_up (st_up (st_up σ 4 s x) 5 s y) 3 0 (nI (s + 1))).1 (7 + i) = σ.1 (7 + i) := fun i hi => by rw [st_up_ne _ (by omega), st_up_ne _ (by omega), st_up_ne _ (by omega)]
    refine ⟨⟨show s + 1 ≤ 6 by omega, rfl, rfl, d4, d5, d6, d7, fun m hm => ?_, fun i hi j hj => ?_, fun i hi => ?_⟩, hF.tr ((MF.up4.tr (MF.up3 (by omega))).tr MF.up2), h14, h15⟩
    · have hm : m < s + 1 := hm
      show (st_up τ 4 s x).1 4 m = (st_up σ 4 s x).1 4 m ∧ rg 0 99 ((st_up σ 4 s x).1 4 m) ∧ (st_up τ 3 (6 + s) y).1 3 (6 + m) = (st_up σ 5 s y).1 5 m ∧ rg 0 9 ((st_up σ 5 s y).1 5 m)
      by_cases c : m = s
      · subst c
        rw [st_up_at, st_up_at, st_up_at, st_up_at]
        exact ⟨rfl, hx, rfl, hy⟩
      · rw [st_up_nat _ c, st_up_nat _ c, st_up_nat _ c, st_up_nat _ (by omega)]
        exact d8 m (by omega)
    · rw [e7 i hi]; exact d9 i hi j hj
    · rw [e7 i hi]; exact d10 i hi
  · have e : AX 3 s a b x y σ = st_up (st_up σ (7 + a) b y) (7 + b) a y := rfl
    have e' : AM 3 s a b x y τ = st_up (st_up τ 5 (36 + (6 * a + b)) y) 5 (36 + (6 * b + a)) y := rfl
    rw [e, e']
    have eo : ∀ c, c < 7 → (st_up (st_up σ (7 + a) b y) (7 + b) a y).1 c = σ.1 c := fun c hc => by rw [st_up_ne _ (by omega), st_up_ne _ (by omega)]
    refine ⟨⟨d1, ?_, d3, ?_, ?_, ?_, ?_, fun m hm => ?_, fun i hi j hj => ?_, fun i hi => ?_⟩, hF.tr ((MF.up5 (by omega)).tr (MF.up5 (by omega))), ?_, ?_⟩
    · rw [eo 3 (by omega)]; exact d2
    · rw [eo 3 (by omega)]; exact d4
    · rw [eo 3 (by omega)]; exact d5
    · rw [eo 3 (by omega)]; exact d6
    · rw [eo 3 (by omega)]; exact d7
    · rw [eo 4 (by omega), eo 5 (by omega)]; exact d8 m hm
    · by_cases c1 : i = b ∧ j = a
      · obtain ⟨rfl, rfl⟩ := c1
        rw [st_up_at, st_up_at]
        exact ⟨rfl, hy⟩
      · rw [st_up_nat (c := 5) _ (by omega)]
        by_cases c2 : i = a ∧ j = b
        · obtain ⟨rfl, rfl⟩ := c2
          rw [st_up_at, st_up_ne _ (by omega), st_up_at]
          exact ⟨rfl, hy⟩
        · rw [st_up_nat (c := 5) _ (by omega)]
          have : (st_up (st_up σ (7 + a) b y) (7 + b) a y).1 (7 + i) j = σ.1 (7 + i) j := by
            by_cases e1 : i = b
            · subst e1
              rw [st_up_nat _ (fun w => c1 ⟨rfl, w⟩), st_up_ne _ (by omega)]
            · rw [st_up_ne _ (by omega)]
              by_cases e3 : i = a
              · subst e3
                rw [st_up_nat _ (fun w => c2 ⟨rfl, w⟩)]
              · rw [st_up_ne _ (by omega)]
          rw [this]; exact d9 i hi j hj
    · have : (st_up (st_up σ (7 + a) b y) (7 + b) a y).1 (7 + i) i = σ.1 (7 + i) i := by
        by_cases e1 : i = b
        · subst e1
          rw [st_up_nat _ (by omega), st_up_ne _ (by omega)]
        · rw [st_up_ne _ (by omega)]
          by_cases e3 : i = a
          · subst e3
            rw [st_up_nat _ (by omega)]
          · rw [st_up_ne _ (by omega)]
      rw [this]; exact d10 i hi
    · rw [eo 1 (by omega)]; exact h14
    · rw [eo 1 (by omega)]; exact h15
