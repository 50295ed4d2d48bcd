/-! PIT: both agree. -/
theorem neg_ne {k f : Nat} (hk : k ≤ 150) (hf : f ≤ 150) : nI k ≠ -10 - nI f := by
  intro e
  have e1 := nI_toInt (n := k) (by omega)
  have e2 := nI_toInt (n := f) (by omega)
  have e3 : (-10 : Int32).toInt = -10 := by decide
  have e4 : (-10 - nI f).toInt = -10 - (f : Int) := by
    rw [fb_subI (by omega) (by omega)]; omega
  rw [← e] at e4
  omega
theorem neg_lt {f : Nat} (hf : f ≤ 150) : ¬ (0 : Int32) ≤ -10 - nI f := by
  intro e
  have e2 := nI_toInt (n := f) (by omega)
  have e3 : (-10 : Int32).toInt = -10 := by decide
  have e4 : (-10 - nI f).toInt = -10 - (f : Int) := by
    rw [fb_subI (by omega) (by omega)]; omega
  have := Int32.le_iff_toInt_le.mp e
  have e0 : (0 : Int32).toInt = 0 := rfl
  omega
theorem m_pit {t : Nat → Nat} {n : Nat} {r : Int32} {σs σ' τ : St} {post : Int32 → St → Prop} (htm : TM t n τ) (h30 : σs.1 3 0 = 0) (h31 : σs.1 3 1 = 3) (h32 : σs.1 3 2 = 5) (h7 : ∀ a, a < 6 → ∀ b, b < 6 → σs.1 (7 + a) b = 0) (h17 : σs.1 1 7 = 0) (h18 : σs.1 1 8 = 0)
    (hM : ∀ (k91 post : Int32 → St → Prop), (∀ v' τ', Fin' τ r σ' v' τ' → k91 v' τ') → ∀ τ1, JJ t n 0 0 τ σs τ1 → f_X12_pit_L21 k91 post (n + 1 + 1) (nI 0) τ1) (hf : ∀ v' τ', Fin' τ r σ' v' τ' → f_X12_pit_J91 post v' τ') : f_X12_pit τ post := by
  rw [f_X12_pit]
  rintro _ rfl
  refine m_plain (fun τ1 e1 e2 e3 e4 e5 e6 e7 e8 e9 e10 e11 e12 => ?_)
  have f1 : MF τ (st_up (st_up τ 0 9 0) 0 13 (-9)) := (MF.up0 (by omega)).tr (MF.up0 (by omega))
  have f2 : MF (st_up (st_up τ 0 9 0) 0 13 (-9)) τ1 := by
    refine ⟨e1, fun c hc => e2 c (by omega) (by omega) (by omega) (by omega) (by omega), fun i hi => e3 i (by omega) (by omega), e6, fun i hi => ?_, fun i hi => (e12 i hi).1, e8, e10⟩
    rw [e2 3 (by omega) (by omega) (by omega) (by omega) (by omega)]
  have f3 := f1.tr f2
  have g9 : τ1.1 0 9 = nI 0 := by rw [e3 9 (by omega) (by omega)]; rfl
  have g13 : τ1.1 0 13 = -9 := by rw [e3 13 (by omega) (by omega)]; rfl
  refine m_step (htm.f f3) (Nat.zero_le _) g9 (fun τ2 hmt hmk => ⟨n + 1 + 1, ?_⟩)
  refine hM _ _ hf τ2 ⟨?_, hmk, by rw [hmt.2.2 13 (by omega) (by omega) (by omega) (by omega)]; exact g13⟩
  have j1 : JD 0 τ σs τ1 := by
    refine ⟨⟨by omega, h30, e7, by rw [h31]; exact ⟨by decide, by decide⟩, by rw [e9, h31], by rw [h32]; exact ⟨by decide, by decide⟩, by rw [e11, h32], fun m hm => absurd hm (by omega), fun a ha b hb => ?_, fun a ha => h7 a ha a ha⟩, f3, by rw [e4, h17], by rw [e5, h18]⟩
    rw [h7 a ha b hb]
    exact ⟨(e12 _ (by omega)).2, by decide, by decide⟩
  exact j1.u XU.rf hmt.u
theorem sim_pit : Sm f_X11_pit f_X12_pit := by
  intro σ τ h
  obtain ⟨N, hc, hn, hi, hl, ht, ⟨n, hn150, x1, x2, x3⟩, htr, hp⟩ := id h
  have htx : TX (fun j => (σ.1 2 j).toNatClampNeg) n σ := ⟨hn150, x1, fun j hj => by
    obtain ⟨c, c1, c2, c3⟩ := x3 j hj
    show (σ.1 2 j).toNatClampNeg < 256 ∧ σ.1 2 j = nI (σ.1 2 j).toNatClampNeg
    rw [c2, nI_clamp (by omega)]
    exact ⟨c1, rfl⟩⟩
  have htm : TM (fun j => (σ.1 2 j).toNatClampNeg) n τ := ⟨hn150, x2, fun j hj => by
    obtain ⟨c, c1, c2, c3⟩ := x3 j hj
    show (σ.1 2 j).toNatClampNeg < 256 ∧ τ.1 1 j &&& 255 = nI (σ.1 2 j).toNatClampNeg
    rw [c2, c3, nI_clamp (by omega)]
    exact ⟨c1, rfl⟩⟩
  generalize (fun j => (σ.1 2 j).toNatClampNeg) = t at htx htm
  rw [f_X11_pit, f_X10_reads]
  refine x_empties (fun σ1 e1 e2 e3 e4 e5 e6 => ?_)
  rintro _ rfl _ rfl _ rfl
  refine ⟨n + 1, ?_⟩
  have f1 : XF σ σ1 := ⟨e1, fun c c1 c2 => e2 c (by omega) (by omega), by rw [e2 1 (by omega) (by omega)]⟩
  have f2 : XF σ (st_up (st_up (st_up (st_up σ1 1 3 0) 1 6 0) 1 7 0) 1 8 0) := (((f1.tr (XF.up1 (by omega))).tr (XF.up1 (by omega))).tr (XF.up1 (by omega))).tr (XF.up1 (by omega))
  have f7 : ∀ a, a < 6 → ∀ b, b < 6 → (st_up (st_up (st_up (st_up σ1 1 3 0) 1 6 0) 1 7 0) 1 8 0).1 (7 + a) b = 0 := fun a ha b hb => by
    rw [st_up_ne _ (by omega), st_up_ne _ (by omega), st_up_ne _ (by omega), st_up_ne _ (by omega)]; exact e6 a ha b hb
  refine pit_loop htx htm (n + 1) 0 0 0 _ _ (by omega) (by omega) (by omega) ⟨by omega, e3, fun a ha b hb => by rw [f7 a ha b hb]; exact ⟨by decide, by decide⟩, Or.inl rfl, Or.inl rfl, f2⟩ rfl rfl (fun r σ' hX hM => ?_)
  rcases hX with ⟨k, s, hk, rfl, hV⟩ | ⟨f, hf, rfl, hX⟩
  · refine ⟨fun _ => x_pitEnd hV.1 hV.2.1 hV.2.2.1 (fun σ'' hE => ?_), fun w => absurd (nI_pos' (by omega)) w⟩
    refine m_pit (σs := st_up (st_up (st_up (st_up σ1 1 3 0) 1 6 0) 1 7 0) 1 8 0) htm e3 e4 e5 f7 rfl rfl hM (fun v' τ' hF => ?_)
    rw [f_X12_pit_J91]
    rcases hF with ⟨k', s', hk', ek, rfl, h13, hj⟩ | ⟨f, hf, ef, _⟩
    · refine ⟨fun _ => ?_, fun w => absurd h13 w⟩
      have es : s' = s := by
        have := hj.1.2.1
        rw [hV.2.1] at this
        exact (nI_ij (by have := hV.1; omega) (by have := hj.1.1; omega) this).symm
      subst es
      refine m_takeDraft hV.1 hj.1.2.2.1 (fun τ'' hTD => ⟨ek, pit_rel hj.1 ?_ hE hTD rfl⟩)
      unfold RTr
      rw [hj.2.1.1, hV.2.2.2.2.2.1]; exact htr
    · exact absurd ef (neg_ne hk hf)
  · refine ⟨fun w => absurd w (neg_lt hf), fun _ => ?_⟩
    refine m_pit (σs := st_up (st_up (st_up (st_up σ1 1 3 0) 1 6 0) 1 7 0) 1 8 0) htm e3 e4 e5 f7 rfl rfl hM (fun v' τ' hF => ?_)
    rw [f_X12_pit_J91]
    rcases hF with ⟨k', s', hk', ek, _⟩ | ⟨f', hf', ef, h13, hm⟩
    · exact absurd ek.symm (neg_ne hk' hf)
    · refine ⟨fun w => absurd w (ng9 (by omega) h13), fun _ => ?_⟩
      rw [h13]
      exact ⟨ef, Rl_F hX hm h⟩
