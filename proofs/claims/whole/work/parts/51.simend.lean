/-! PIT: all was well; both begin anew. -/
def DR (N : Nat) (σ τ : St) : Prop := N ≤ 6 ∧ σ.1 3 0 = nI N ∧ τ.1 2 1 = nI N ∧ rg 1 6 (σ.1 3 1) ∧ τ.1 6 1 = σ.1 3 1 ∧ rg 0 50 (σ.1 3 2) ∧ τ.1 7 1 = σ.1 3 2 ∧ (∀ m, m < N → τ.1 4 m = σ.1 4 m ∧ rg 0 99 (σ.1 4 m) ∧ τ.1 3 (6 + m) = σ.1 5 m ∧ rg 0 9 (σ.1 5 m)) ∧ (∀ a, a < 6 → ∀ b, b < 6 → τ.1 5 (36 + (6 * a + b)) = σ.1 (7 + a) b ∧ rg (-9) 9 (σ.1 (7 + a) b)) ∧ ∀ a, a < 6 → σ.1 (7 + a) a = 0
/-- X from the draft on -/
def XE (N : Nat) (σ σ' : St) : Prop := σ'.2 = σ.2 ∧ ∃ σ1, BZ N 6 (st_up σ 1 0 0) σ1 ∧ (∀ c, 21 ≤ c → c ≤ 38 → σ'.1 c = σ1.1 c) ∧ (∀ m, m < 6 → σ'.1 40 m = σ1.1 22 m ∧ σ'.1 41 m = 0) ∧ σ'.1 39 2 = 0 ∧ σ'.1 39 3 = 0 ∧ σ'.1 39 4 = 0 ∧ σ'.1 53 4 = 0 ∧ σ'.1 0 16 = 0 ∧ σ'.1 0 17 = 0 ∧ σ'.1 52 0 = 0 ∧ σ'.1 52 1 = 0 ∧ σ'.1 1 0 = 0
theorem pit_rel {N : Nat} {σ σ' τ τ' : St} (hd : DR N σ τ) (hr : RTr σ τ) (hx : XE N σ σ') (hm : TD N τ τ') (h02 : τ'.1 0 2 = 0) : Rl σ' τ' := by
  obtain ⟨d1, d2, d3, d4, d5, d6, d7, d8, d9, d10⟩ := hd
  obtain ⟨x0, σ1, ⟨z1, z2, z3, z4, z5, z6, z7⟩, x1, x2, x3, x4, x5, x6, x7, x8, x9, x10, x11⟩ := hx
  obtain ⟨m1, m2, m3, m4, m5, m6, m7, m8, m9, m10, m11⟩ := hm
  have e21 := x1 21 (by omega) (by omega)
  have e25 : ∀ a, a < 6 → ∀ b, b < 6 → σ'.1 (25 + a) b = σ.1 (7 + a) b := fun a ha b hb => by rw [x1 (25 + a) (by omega) (by omega)]; rw [(z7 a ha).1 b hb, st_up_ne _ (by omega)]
  refine ⟨N, ⟨d1, ?_, m2, ?_, ?_, ?_, ?_, fun m hm => ?_, fun a ha b hb => ?_, fun a ha => ?_, fun m hm k hk => ?_, fun m hm => ?_⟩, ?_, ?_, ?_, ?_, ?_, ?_, ?_⟩
  · rw [e21, z3]; exact d2
  · rw [m3, e21, z4]; exact d5
  · rw [m4, e21, z5]; exact d7
  · rw [e21, z4]; exact d4
  · rw [e21, z5]; exact d6
  · rw [x1 23 (by omega) (by omega), (z6 m (by omega)).2, (m6 m hm).1]
    exact ⟨(d8 m hm).2.2.1, (d8 m hm).2.2.2⟩
  · rw [e25 a (by omega) b (by omega), m5 (6 * a + b) (by omega)]
    exact d9 a (by omega) b (by omega)
  · rw [e25 a (by omega) a (by omega)]; exact d10 a (by omega)
  · rw [x1 (32 + m) (by omega) (by omega), x1 (25 + m) (by omega) (by omega)]
    exact (z7 m (by omega)).2.1 k hk
  · rw [x1 38 (by omega) (by omega), x1 (25 + m) (by omega) (by omega), e21]
    exact (z7 m (by omega)).2.2
  · refine ⟨fun m hm => ?_, ?_, ?_, ?_, 0, by omega, x5, m7 14 (by omega) (by omega), fun q hq => absurd hq (by omega)⟩
    · rw [(m6 m hm).2, (x2 m (by omega)).1, (x2 m (by omega)).2, (z6 m (by omega)).1, m7 (6 + m) (by omega) (by omega)]
      refine ⟨(d8 m hm).1, show rg 0 999 (σ.1 4 m) from ⟨(d8 m hm).2.1.1, by have := (d8 m hm).2.1.2; omega⟩, rfl, by decide, by decide⟩
    · rw [m7 12 (by omega) (by omega), x3]
    · rw [m7 13 (by omega) (by omega), x4]
    · rw [x4]; exact ⟨by decide, by decide⟩
  · exact ⟨⟨by rw [m10, x9], Or.inl x9⟩, ⟨by rw [m11, x10], Or.inl x10⟩⟩
  · exact ⟨0, by omega, x7, m8, fun j hj => absurd hj (by omega)⟩
  · exact ⟨0, by omega, x8, m9, fun j hj => absurd hj (by omega)⟩
  · exact ⟨0, by omega, x11, h02, fun j hj => absurd hj (by omega)⟩
  · unfold RTr; rw [m1, x0]; exact hr
  · exact Or.inl x6
theorem x_pitEnd {N : Nat} {v : Int32} {σ : St} {post : Int32 → St → Prop} (hN : N ≤ 6) (hx : σ.1 3 0 = nI N) (h9 : ∀ a, a < 6 → ∀ b, b < 6 → rg (-9) 9 (σ.1 (7 + a) b)) (h : ∀ σ', XE N σ σ' → post v σ') : f_X0_becomes (st_up σ 1 0 0) (fun σ4 => f_X5_forgets σ4 (fun σ6 => f_X4_begins σ6 (fun σ8 => ∀ σ10 : St, σ10 = (st_up σ8 0 16 0) → (∃ n13 : Nat, f_X11_pit_L67 post n13 v 0 (st_up σ10 0 17 0))))) := by
  refine x_becomes hN hx (fun a ha b hb => by rw [st_up_ne _ (by omega)]; exact h9 a ha b hb) (fun σ1 hz => ?_)
  rw [f_X5_forgets, f_X4_begins]
  refine x_fill (by decide) ?_
  rintro _ rfl _ rfl _ rfl
  refine ⟨3, ?_⟩
  rw [f_X11_pit_L67]
  refine br_f (by decide) ⟨pk_in 0 2 (by omega), ?_⟩
  rw [f_X11_pit_L67]
  refine br_f (by decide) ⟨pk_in 1 2 (by omega), ?_⟩
  rw [f_X11_pit_L67]
  refine br_t (by decide) (h _ ⟨hz.1, σ1, hz, fun c h1 h2 => ?_, fun m hm => ⟨?_, ?_⟩, rfl, rfl, rfl, rfl, rfl, rfl, rfl, rfl, ?_⟩)
  · rw [st_up_ne _ (by omega), st_up_ne _ (by omega), st_up_ne _ (by omega), st_up_ne _ (by omega), st_up_ne _ (by omega), st_up_ne _ (by omega), st_up_ne _ (by omega), st_row_ne _ _ (by omega), st_row_ne _ _ (by omega), st_up_ne _ (by omega)]
  · exact (show va_cpy (σ1.1 22) (σ1.1 40) 0 0 6 m = σ1.1 22 m from cpy6 hm)
  · exact (show fl' (fun _ => 0) _ 6 m = 0 from fl_lt hm)
  · exact (show σ1.1 1 0 = 0 by rw [hz.2.1 1 (by omega)]; exact st_up_at _ _ _ _)
