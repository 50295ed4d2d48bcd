/-! MATES of the class. -/
def xg : Nat → Int32
  | 0 => -9
  | d + 1 => nI d
theorem xg_z {d : Nat} (h : d < 2 ^ 30) : xg d = -9 ↔ d = 0 := by
  cases d with
  | zero => exact ⟨fun _ => rfl, fun _ => rfl⟩
  | succ d =>
    refine ⟨fun e => ?_, fun e => absurd e (by omega)⟩
    have h1 : (-9 : Int32) < 0 := by decide
    rw [← e] at h1
    exact absurd h1 (nI_pos (by omega))
def XM (σ0 : St) (g : Nat → Nat) (b : Int32 × (Nat → Nat)) (σ : St) : Prop := σ.2 = σ0.2 ∧ (∀ c, c ≠ 61 → c ≠ 62 → c ≠ 63 → σ.1 c = σ0.1 c) ∧ (∀ m, m < 6 → σ.1 63 m = xg (g m)) ∧ σ.1 61 0 = b.1 ∧ (b.1 = -1 ∨ ∀ m, m < 6 → σ.1 62 m = xg (b.2 m))
theorem x_takes {σ0 σ : St} {g : Nat → Nat} {b : Int32 × (Nat → Nat)} {acc : Int32} {post : St → Prop} (hm : XM σ0 g b σ) (h : ∀ σ', XM σ0 g (if b.1 < acc then (acc, g) else b) σ' → post σ') : f_X3_takes acc σ post := by
  obtain ⟨m1, m2, m3, m4, m5⟩ := id hm
  rw [f_X3_takes, m4]
  refine ⟨fun q => h _ ?_, ?_⟩
  · rw [if_neg (k2_nlt q)]; exact hm
  · rintro q _ rfl
    refine h _ ?_
    rw [if_pos (k2_lt q)]
    refine ⟨m1, fun c c1 c2 c3 => ?_, m3, ?_, Or.inr (fun m hm => ?_)⟩
    · rw [st_row_ne _ _ c2, st_up_ne _ c1]; exact m2 c c1 c2 c3
    · rw [st_row_ne _ _ (by decide), st_up_at]
    · rw [st_row_self, cpy6 hm]; exact m3 m hm
theorem up2_st {σ0 σ : St} {g : Nat → Nat} {b : Int32 × (Nat → Nat)} {a v : Nat} (hav : a ≠ v) (hm : XM σ0 g b σ) : XM σ0 (up2 g a v) b (st_up (st_up σ 63 a (nI v)) 63 v (nI a)) := by
  obtain ⟨m1, m2, m3, m4, m5⟩ := hm
  refine ⟨m1, fun c c1 c2 c3 => ?_, fun m hm => ?_, m4, m5⟩
  · rw [st_up_ne _ c3, st_up_ne _ c3]; exact m2 c c1 c2 c3
  · by_cases w : m = v
    · subst w
      rw [st_up_at]
      simp [up2, Ne.symm hav, xg]
    · rw [st_up_nat _ w]
      by_cases w2 : m = a
      · subst w2; rw [st_up_at]; simp [up2, xg]
      · rw [st_up_nat _ w2, m3 m hm]; simp [up2, w, w2]
theorem un2_st {σ0 σ : St} {g : Nat → Nat} {b : Int32 × (Nat → Nat)} {a v : Nat} (ha : g a = 0) (hv : g v = 0) (hm : XM σ0 (up2 g a v) b σ) : XM σ0 g b (st_up (st_up σ 63 a (-9)) 63 v (-9)) := by
  obtain ⟨m1, m2, m3, m4, m5⟩ := hm
  refine ⟨m1, fun c c1 c2 c3 => ?_, fun m hm => ?_, m4, m5⟩
  · rw [st_up_ne _ c3, st_up_ne _ c3]; exact m2 c c1 c2 c3
  · by_cases w : m = v
    · subst w
      rw [st_up_at, hv]; rfl
    · rw [st_up_nat _ w]
      by_cases w2 : m = a
      · subst w2; rw [st_up_at, ha]; rfl
      · rw [st_up_nat _ w2, m3 m hm]; simp [up2, w, w2]
theorem x_looks {N : Nat} {σ0 : St} (hN : N ≤ 6) (hx : σ0.1 21 0 = nI N) : ∀ (n a fu : Nat) (g : Nat → Nat) (acc : Int32) (b : Int32 × (Nat → Nat)) (σ : St) (post : St → Prop), a + n = N → n < fu → (∀ m, g m < 7) → XM σ0 g b σ → (∀ σ', XM σ0 g (mt N (xne σ0) n a g acc b) σ' → post σ') → f_X3_looks fu (nI a) acc σ post := by
  intro n
  induction n with
  | zero =>
    intro a fu g acc b σ post hn hf hg hm h
    obtain ⟨fu, rfl⟩ : ∃ f, fu = f + 1 := ⟨fu - 1, by omega⟩
    rw [f_X3_looks]
    refine br_t (le_t (by rw [hm.2.1 21 (by decide) (by decide) (by decide)]; exact hx) rfl (by omega) (by omega)) ?_
    exact x_takes hm h
  | succ n ih =>
    intro a fu g acc b σ post hn hf hg hm h
    obtain ⟨fu, rfl⟩ : ∃ f, fu = f + 1 := ⟨fu - 1, by omega⟩
    rw [f_X3_looks]
    refine br_f (le_f (by rw [hm.2.1 21 (by decide) (by decide) (by decide)]; exact hx) rfl (by omega) (by omega)) ?_
    refine br_t ((nI_ltI (b := 6) (by omega) (by omega)).mpr (by omega)) ?_
    rw [nI_1]
    refine ih (a + 1) fu g acc b σ _ (by omega) (by omega) hg hm (fun σ1 hm1 => ⟨pk_in a 6 (by omega), ?_⟩)
    rw [nI_clamp (by omega), hm1.2.2.1 a (by omega), xg_z (by have := hg a; omega)]
    rw [mt] at h
    refine ⟨fun z => ?_, fun z => h σ1 (by rw [if_neg z]; exact hm1)⟩
    rw [if_pos z] at h
    generalize mt N (xne σ0) n (a + 1) g acc b = b1 at h hm1
    generalize hC : (fun (v : Nat) (b : Int32 × (Nat → Nat)) => if a < v ∧ v < N ∧ g v = 0 then mt N (xne σ0) n (a + 1) (up2 g a v) (acc + xne σ0 a v) b else b) = C at h
    have hCn : ∀ v b, ¬ (a < v ∧ v < N ∧ g v = 0) → C v b = b := fun v b q => by rw [← hC]; exact if_neg q
    have hCy : ∀ v b, (a < v ∧ v < N ∧ g v = 0) → C v b = mt N (xne σ0) n (a + 1) (up2 g a v) (acc + xne σ0 a v) b := fun v b q => by rw [← hC]; exact if_pos q
    have e0 : fo C (a + 1) b1 = b1 := fo_id (fun k hk b => hCn k b (by omega))
    have e6 : fo C 6 b1 = fo C N b1 := by
      rw [show 6 = N + (6 - N) by omega, fo_add]
      exact fo_id (fun k hk b => hCn _ b (by omega))
    rw [e6] at h
    refine (floop (P := fun i j => ∀ σ, XM σ0 g (fo C (a + 1 + j) b1) σ → f_X3_looks_L46 (f_X3_looks fu) (nI a) acc post i (nI (a + 1 + j)) σ) (N - (a + 1)) (fun i σ2 hm2 => ?_) (fun i j hj ih2 σ2 hm2 => ?_)).imp (fun i hi => ?_)
    · rw [f_X3_looks_L46]
      rw [show a + 1 + (N - (a + 1)) = N by omega] at hm2 ⊢
      exact br_t (le_t (by rw [hm2.2.1 21 (by decide) (by decide) (by decide)]; exact hx) rfl (Nat.le_refl _) (by omega)) (h σ2 hm2)
    · rw [f_X3_looks_L46]
      refine br_f (le_f (by rw [hm2.2.1 21 (by decide) (by decide) (by decide)]; exact hx) rfl (by omega) (by omega)) ⟨pk_in (a + 1 + j) 6 (by omega), ?_⟩
      rw [nI_clamp (n := a + 1 + j) (by omega), hm2.2.2.1 _ (by omega), xg_z (by have := hg (a + 1 + j); omega)]
      rw [show a + 1 + (j + 1) = a + 1 + j + 1 by omega] at ih2
      rw [fo] at ih2
      generalize hv : a + 1 + j = v at ih2 hm2
      refine ⟨fun q => ?_, fun q => ⟨pk_in a 6 (by omega), ?_⟩⟩
      · rw [nI_1]
        refine ih2 σ2 ?_
        rw [hCn _ _ (fun w => q w.2.2)]
        exact hm2
      · rintro _ rfl
        refine ⟨pk_in v 6 (by omega), pk_in a 6 (by omega), pk_in v 6 (by omega), ?_⟩
        rw [nI_clamp (n := a) (by omega), nI_1]
        have hs := up2_st (a := a) (v := v) (by omega) hm2
        rw [hs.2.1 (25 + a) (by omega) (by omega) (by omega)]
        refine ih (a + 1) fu (up2 g a v) (acc + σ0.1 (25 + a) v) _ _ _ (by omega) (by omega) (fun m => ?_) hs (fun σ3 hm3 => ⟨pk_in a 6 (by omega), ?_⟩)
        · unfold up2
          have := hg m
          split
          · omega
          · split <;> omega
        · rintro _ rfl
          refine ⟨pk_in v 6 (by omega), ?_⟩
          rw [nI_1]
          refine ih2 _ ?_
          rw [hCy _ _ ⟨by omega, by omega, q⟩]
          exact un2_st z q hm3
    · exact hi σ1 (by rw [Nat.add_zero, e0]; exact hm1)
theorem x_searches {N : Nat} {σ : St} {post : St → Prop} (hN : N ≤ 6) (hx : σ.1 21 0 = nI N) (h : ∀ σ', XM σ (fun _ => 0) (mbest N (xne σ) (7 ^ N)) σ' → post σ') : f_X3_searches σ post := by
  rw [f_X3_searches]
  refine x_fill (by decide) ?_
  have hf := mt_fold (ne := xne σ) hN N 0 0 (fun _ => 0) (-1, fun _ => 0) (by omega) ⟨fun m hm => absurd hm (by omega), fun m q => absurd rfl q, fun m _ q => absurd rfl q⟩
  have hb : mt N (xne σ) N 0 (fun _ => 0) 0 (-1, fun _ => 0) = mbest N (xne σ) (7 ^ N) := by
    have e1 : acw (xne σ) (fun _ => 0) 0 = 0 := rfl
    rw [e1] at hf
    rw [← hf]
    have hp := pow7 hN
    obtain ⟨q, hq⟩ : ∃ q, 7 ^ N = q + 1 := ⟨7 ^ N - 1, by omega⟩
    have e2 : (fun k (b : Int32 × (Nat → Nat)) => mstep N (xne σ) (0 * 7 ^ N + k) b) = mstep N (xne σ) := funext fun k => by rw [Nat.zero_mul, Nat.zero_add]
    rw [e2, mbest, hq, fo_shift, fo_shift]
    congr 1
    have ho : okr N (dg N 0) = true := okr_iff.mpr (fun m _ => Or.inl (by rw [dg_0]))
    have ha : acw (xne σ) (dg N 0) N = 0 := by rw [dg_0, acw_0]
    rw [mstep, mstep, ho, ha, dg_0]
    simp
  refine x_looks hN hx N 0 7 (fun _ => 0) 0 (-1, fun _ => 0) _ _ (by omega) (by omega) (fun _ => by omega) ⟨rfl, fun c c1 c2 c3 => ?_, fun m hm => ?_, ?_, Or.inl rfl⟩ (fun σ' hm => ?_)
  · rw [st_row_ne _ _ c3, st_up_ne _ c1]
  · rw [st_row_self, fl_lt hm]; rfl
  · rw [st_row_ne _ _ (by decide), st_up_at]
  · rw [hb] at hm
    exact h σ' hm
theorem sim_mates (a : Int32) : Sm (f_X11_mates a) (f_X12_mates a) := by
  intro σ τ h
  obtain ⟨N, hc, hn, hi, hl, ht, htx, htr, hp⟩ := id h
  obtain ⟨c1, c2, c3, c4, c5, c6, c7, c8, c9, c10, c11, c12⟩ := id hc
  have hne : ∀ a, a < N → ∀ b, b < N → τ.1 5 (6 * a + b) = xne σ a b := fun a ha b hb => (c9 a ha b hb).1
  have hR : ∀ σ' s, XM σ (fun _ => 0) (mbest N (xne σ) (7 ^ N)) σ' → Rl σ' (st_row τ 13 s) := fun σ' s hm => Rl_A ⟨hm.1, fun c hc => hm.2.1 c (fun e => by rw [e] at hc; cases hc) (fun e => by rw [e] at hc; cases hc) (fun e => by rw [e] at hc; cases hc)⟩ (MA.row rfl) h
  rw [f_X11_mates]
  refine ⟨fun q => ?_, fun q => ?_⟩
  · subst q
    rw [f_X11_mates_J19]
    refine x_searches c1 c2 (fun σ' hm => ⟨fun w => absurd w (by decide), fun _ => ?_⟩)
    rw [f_X12_mates]
    refine br_t rfl ?_
    refine m_matesC c1 c3 hne (fun h0 s hs => ⟨fun w => absurd rfl w, fun _ => ⟨hm.2.2.2.1, hR σ' s hm⟩⟩)
  · rw [x_isMan c2 c1]
    refine ⟨?_, fun w => ⟨fun w => absurd rfl w, fun _ => ?_⟩⟩
    · rintro ⟨m, hm, rfl⟩
      refine ⟨fun _ => ?_, fun w => absurd w (by decide)⟩
      rw [f_X11_mates_J19]
      refine x_searches c1 c2 (fun σ' hx => ⟨fun _ => ⟨pk_in m 6 (by omega), ?_⟩, fun w => absurd (nI_pos' (by omega)) w⟩)
      rw [f_X12_mates]
      refine br_f q ?_
      rw [m_isMan c3 c1]
      refine ⟨fun _ => ⟨fun _ => ?_, fun w => absurd w (by decide)⟩, fun w => absurd ⟨m, hm, rfl⟩ w⟩
      refine m_matesC c1 c3 hne (fun h0 s hs => ⟨fun _ => ⟨pk_in m 6 (by omega), ?_⟩, fun w => absurd w q⟩)
      rw [nI_clamp (by omega), st_row_self, (hs m hm).1]
      have hlt := (hs m hm).2
      have h62 : σ'.1 62 m = xg ((mbest N (xne σ) (7 ^ N)).2 m) := by
        rcases hx.2.2.2.2 with w | w
        · rw [w] at h0; exact absurd h0 (by decide)
        · exact w m (by omega)
      rw [h62]
      generalize (mbest N (xne σ) (7 ^ N)).2 m = d at hlt
      cases d with
      | zero => exact ⟨fun w => absurd w (by decide), fun _ => ⟨rfl, hR σ' s hx⟩⟩
      | succ d =>
        rw [nI_pred]
        exact ⟨fun _ => ⟨pk_in m 6 (by omega), rfl, hR σ' s hx⟩, fun w => absurd (nI_pos' (by omega)) w⟩
    · rw [f_X12_mates]
      refine br_f q ?_
      rw [m_isMan c3 c1]
      exact ⟨fun w2 => absurd w2 w, fun _ => ⟨fun w => absurd rfl w, fun _ => ⟨rfl, h⟩⟩⟩
