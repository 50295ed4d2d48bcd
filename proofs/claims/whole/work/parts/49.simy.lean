/-! PIT: the crew becomes the draft. -/
def BZ (N j : Nat) (σ σ1 : St) : Prop := σ1.2 = σ.2 ∧ (∀ c, c < 21 ∨ 38 < c → σ1.1 c = σ.1 c) ∧ σ1.1 21 0 = σ.1 3 0 ∧ σ1.1 21 1 = σ.1 3 1 ∧ σ1.1 21 2 = σ.1 3 2 ∧ (∀ m, m < 6 → σ1.1 22 m = σ.1 4 m ∧ σ1.1 23 m = σ.1 5 m) ∧ (∀ a, a < j → (∀ b, b < 6 → σ1.1 (25 + a) b = σ.1 (7 + a) b) ∧ (∀ k, k < 2 ^ N → σ1.1 (32 + a) k = pl N (σ1.1 (25 + a)) (nI k)) ∧ rg 0 54 (σ1.1 38 a) ∧ ∀ k, k < 2 ^ N → bt (nI k) a → ¬ σ1.1 21 1 < bc (nI k) → (pl N (σ1.1 (25 + a)) (nI k)).toInt ≤ (σ1.1 38 a).toInt)
theorem x_becomes {N : Nat} {σ : St} {post : St → Prop} (hN : N ≤ 6) (hx : σ.1 3 0 = nI N) (h9 : ∀ a, a < 6 → ∀ b, b < 6 → rg (-9) 9 (σ.1 (7 + a) b)) (h : ∀ σ', BZ N 6 σ σ' → post σ') : f_X0_becomes σ post := by
  rw [f_X0_becomes]
  rintro _ rfl _ rfl _ rfl _ rfl
  refine (floop (P := fun n j => ∀ σ1, BZ N j σ σ1 → f_X0_becomes_L56 post n (nI j) σ1) 6 (fun n σ1 hz => ?_) (fun n j hj ih σ1 hz => ?_)).imp (fun n hn => hn _ ?_)
  · rw [f_X0_becomes_L56]
    exact br_t (le_t (nl 6) rfl (by omega) (by omega)) (h σ1 hz)
  · obtain ⟨z1, z2, z3, z4, z5, z6, z7⟩ := id hz
    rw [f_X0_becomes_L56]
    refine br_f (le_f (nl 6) rfl hj (by omega)) ⟨pk_in j 6 hj, pk_in j 6 hj, ?_⟩
    rw [nI_clamp (by omega), nI_1]
    generalize hg : va_cpy (σ1.1 (7 + j)) (σ1.1 (25 + j)) 0 0 6 = g
    have hgv : ∀ b, b < 6 → g b = σ.1 (7 + j) b := fun b hb => by rw [← hg, cpy6 hb, z2 (7 + j) (by omega)]
    refine x_measures (N := N) hN hj (by rw [st_row_ne _ _ (by omega), z3]; exact hx) (fun b hb => by rw [st_row_self, hgv b (by omega)]; exact h9 j hj b (by omega)) (fun σ2 hm => ih _ ?_)
    obtain ⟨m1, m2, m3, m4, m5, m6⟩ := hm
    rw [st_row_self] at m4 m6
    rw [st_row_ne _ _ (by omega)] at m6
    have e25 : ∀ a, a ≠ j → a < 6 → σ2.1 (25 + a) = σ1.1 (25 + a) := fun a ha h6 => by rw [m2 _ (by omega) (by omega), st_row_ne _ _ (by omega)]
    have e25j : σ2.1 (25 + j) = g := by rw [m2 _ (by omega) (by omega), st_row_self]
    have e21 : σ2.1 21 = σ1.1 21 := by rw [m2 _ (by omega) (by omega), st_row_ne _ _ (by omega)]
    refine ⟨m1.trans z1, fun c hc => ?_, by rw [e21]; exact z3, by rw [e21]; exact z4, by rw [e21]; exact z5, fun m hm => ?_, fun a ha => ?_⟩
    · rw [m2 c (by omega) (by omega), st_row_ne _ _ (by omega)]; exact z2 c hc
    · rw [m2 22 (by omega) (by omega), m2 23 (by omega) (by omega), st_row_ne _ _ (by omega), st_row_ne _ _ (by omega)]; exact z6 m hm
    · by_cases e : a = j
      · subst e
        refine ⟨fun b hb => by rw [e25j]; exact hgv b hb, fun k hk => by rw [e25j]; exact m4 k hk, m5, fun k hk hb hc => ?_⟩
        rw [e25j]
        rw [e21] at hc
        exact m6 k hk hb hc
      · obtain ⟨y1, y2, y3, y4⟩ := z7 a (by omega)
        have e38 : σ2.1 38 a = σ1.1 38 a := by rw [m3 a e, st_row_ne _ _ (by omega)]
        have e32 : σ2.1 (32 + a) = σ1.1 (32 + a) := by rw [m2 _ (by omega) (by omega), st_row_ne _ _ (by omega)]
        rw [e25 a e (by omega), e38, e32, e21]
        exact ⟨y1, y2, y3, y4⟩
  · refine ⟨rfl, fun c hc => ?_, ?_, ?_, ?_, fun m hm => ⟨?_, ?_⟩, fun a ha => absurd ha (by omega)⟩
    · rw [st_row_ne _ _ (by omega), st_row_ne _ _ (by omega), st_up_ne _ (by omega), st_up_ne _ (by omega), st_up_ne _ (by omega)]
    · rfl
    · rfl
    · rfl
    · rw [st_row_ne _ _ (by decide), st_row_self, cpy6 hm]; rfl
    · rw [st_row_self, cpy6 hm]; rfl
