/-! PIT: the loop of both. -/
theorem TX.f {t : Nat → Nat} {n : Nat} {σ σ' : St} (h : TX t n σ) (hx : XF σ σ') : TX t n σ' := ⟨h.1, by rw [hx.2.2]; exact h.2.1, fun j hj => by rw [hx.2.1 2 (by omega) (by omega)]; exact h.2.2 j hj⟩
theorem TM.f {t : Nat → Nat} {n : Nat} {τ τ' : St} (h : TM t n τ) (hx : MF τ τ') : TM t n τ' := ⟨h.1, by rw [hx.2.2.1 2 (by omega)]; exact h.2.1, fun j hj => by rw [hx.2.1 1 (by omega)]; exact h.2.2 j hj⟩
theorem XK.e0 {t : Nat → Nat} {n p : Nat} {σ : St} (hk : XK t n p σ) (w : σ.1 1 4 = 0) : tK t n p = 0 := by
  obtain ⟨k1, k2, k3, k4, k5, k6, k7⟩ := hk
  have hK := tK_le t n p
  refine Classical.byContradiction fun z => ?_
  have : tK t n p = 1 ∨ tK t n p = 2 ∨ tK t n p = 3 ∨ tK t n p = 4 := by omega
  rcases this with e | e | e | e
  · rw [(k4 e).1] at w; exact absurd w (by decide)
  · rw [(k5 e).1] at w; exact absurd w (by decide)
  · rw [k6 e] at w; exact absurd w (by decide)
  · rcases k7 e with e | e
    · rw [e] at w; exact absurd w (by decide)
    · rw [e.1] at w; exact absurd w (by decide)
theorem XK.e3 {t : Nat → Nat} {n p : Nat} {σ : St} (hk : XK t n p σ) (w : σ.1 1 4 = 3) : tK t n p = 3 := by
  obtain ⟨k1, k2, k3, k4, k5, k6, k7⟩ := hk
  have hK := tK_le t n p
  refine Classical.byContradiction fun z => ?_
  have : tK t n p = 0 ∨ tK t n p = 1 ∨ tK t n p = 2 ∨ tK t n p = 4 := by omega
  rcases this with e | e | e | e
  · rw [k3 e] at w; exact absurd w (by decide)
  · rw [(k4 e).1] at w; exact absurd w (by decide)
  · rw [(k5 e).1] at w; exact absurd w (by decide)
  · rcases k7 e with e | e
    · rw [e] at w; exact absurd w (by decide)
    · rw [e.1] at w; exact absurd w (by decide)
theorem MK.e3 {t : Nat → Nat} {n p : Nat} {τ : St} (hk : MK t n p τ) (w : τ.1 0 11 = 3) : tK t n p = 0 := by
  obtain ⟨k1, k2, k3, k4, k5, k6, k7⟩ := hk
  have hK := tK_le t n p
  refine Classical.byContradiction fun z => ?_
  have : tK t n p = 1 ∨ tK t n p = 2 ∨ tK t n p = 3 ∨ tK t n p = 4 := by omega
  rcases this with e | e | e | e
  · have := tV_1 e
    rw [k4 e] at w
    have := nI_ij (b := 3) (by omega) (by omega) w
    omega
  · rw [(k5 e).1] at w; exact absurd w (by decide)
  · rw [k6 e] at w; exact absurd w (by decide)
  · rw [k7 e] at w; exact absurd w (by decide)
theorem MK.e2 {t : Nat → Nat} {n p : Nat} {τ : St} (hk : MK t n p τ) (w : τ.1 0 11 = 2) : tK t n p = 3 := by
  obtain ⟨k1, k2, k3, k4, k5, k6, k7⟩ := hk
  have hK := tK_le t n p
  refine Classical.byContradiction fun z => ?_
  have : tK t n p = 0 ∨ tK t n p = 1 ∨ tK t n p = 2 ∨ tK t n p = 4 := by omega
  rcases this with e | e | e | e
  · rw [k3 e] at w; exact absurd w (by decide)
  · have := tV_1 e
    rw [k4 e] at w
    have := nI_ij (b := 2) (by omega) (by omega) w
    omega
  · rw [(k5 e).1] at w; exact absurd w (by decide)
  · rw [k7 e] at w; exact absurd w (by decide)
theorem Bad.le {t : Nat → Nat} {n s p f : Nat} {c7 c8 : Int32} (hn : n ≤ 150) (hp : p ≤ n) (hb : Bad t n s c7 c8 p f) : f ≤ 150 := by
  have hs := ts_spec (t := t) hn hp
  have hq1 := (te_le (t := t) hn hp)
  have hs1 := ts_spec (t := t) hn hq1.2
  have hq2 := (te_le (t := t) hn hq1.2)
  have hs2 := ts_spec (t := t) hn hq2.2
  have hq3 := (te_le (t := t) hn hq2.2)
  have hs3 := ts_spec (t := t) hn hq3.2
  have key : f = ts t n p ∨ f = ts t n (te t n p) ∨ f = ts t n (te t n (te t n p)) ∨ f = ts t n (te t n (te t n (te t n p))) := by
    rcases hb with ⟨_, e⟩ | ⟨_, hb⟩
    · exact Or.inl e
    · rcases hb with ⟨_, _, _, _, _, e⟩ | ⟨_, ⟨_, e⟩ | ⟨_, _, e⟩⟩ | ⟨_, ⟨_, e⟩ | ⟨_, _, e⟩⟩ | ⟨_, ⟨_, e⟩ | ⟨_, _, e⟩ | ⟨_, _, _, e⟩⟩ | ⟨_, ⟨_, e⟩ | ⟨_, _, e⟩ | ⟨_, _, _, _, e⟩⟩
      · exact Or.inl e
      · exact Or.inl e
      · exact Or.inr (Or.inl e)
      · exact Or.inl e
      · exact Or.inr (Or.inl e)
      · exact Or.inl e
      · exact Or.inr (Or.inl e)
      · exact Or.inr (Or.inr (Or.inl e))
      · exact Or.inr (Or.inl e)
      · exact Or.inr (Or.inr (Or.inl e))
      · exact Or.inr (Or.inr (Or.inr e))
  omega
def XFin (σ0 : St) (r : Int32) (σ : St) : Prop := (∃ k s, k ≤ 150 ∧ r = nI k ∧ XV s σ0 σ) ∨ (∃ f, f ≤ 150 ∧ r = -10 - nI f ∧ XF σ0 σ)
def Fin' (τ0 : St) (r : Int32) (σ : St) (v : Int32) (τ : St) : Prop := (∃ k s, k ≤ 150 ∧ r = nI k ∧ v = nI k ∧ τ.1 0 13 = -9 ∧ JD s τ0 σ τ) ∨ (∃ f, f ≤ 150 ∧ r = -10 - nI f ∧ τ.1 0 13 = nI f ∧ MF τ0 τ)
def JJ (t : Nat → Nat) (n p s : Nat) (τ0 σ τ : St) : Prop := JD s τ0 σ τ ∧ MK t n p τ ∧ τ.1 0 13 = -9
theorem m_out {τ0 : St} {r : Int32} {σ τ : St} {f d : Nat} {v : Int32} {k91 post : Int32 → St → Prop} (hk : ∀ v' τ', Fin' τ0 r σ v' τ' → k91 v' τ') (hf : f ≤ 150) (hr : r = -10 - nI f) (h13 : τ.1 0 13 = nI f) (hm : MF τ0 τ) : f_X12_pit_L21 k91 post (d + 1) v τ := by
  rw [f_X12_pit_L21]
  exact ⟨fun _ => hk v τ (Or.inr ⟨f, hf, hr, h13, hm⟩), fun w => absurd w (ng9 (by omega) h13)⟩
theorem pit_loop {t : Nat → Nat} {n : Nat} {σ0 τ0 : St} (htx : TX t n σ0) (htm : TM t n τ0) : ∀ (d p k s : Nat) (σ : St) (Q : Int32 → St → Prop), n - p < d → p ≤ n → 2 * k ≤ p → XV s σ0 σ → σ.1 1 3 = nI p → σ.1 1 6 = 0 →
    (∀ r σ', XFin σ0 r σ' → (∀ (k91 post : Int32 → St → Prop), (∀ v' τ', Fin' τ0 r σ' v' τ' → k91 v' τ') → ∀ τ, JJ t n p s τ0 σ τ → f_X12_pit_L21 k91 post (d + 1) (nI k) τ) → Q r σ') → f_X10_reads_L26 Q d (nI k) σ := by
  have hn := htx.1
  intro d
  induction d with
  | zero => intro p k s σ Q h; omega
  | succ d ih =>
    intro p k s σ Q hd hp hk hV h3 h6 hQ
    rw [f_X10_reads_L26]
    refine ⟨fun w => ?_, fun _ => x_tok (htx.f hV.2.2.2.2.2) hp h3 (fun σ7 hxt hxk => ⟨fun w => ?_, fun w => ?_⟩)⟩
    · have := (nI_ltI (a := 150) (by omega) (by omega)).mp w
      omega
    · have hK : tK t n p ≠ 0 := fun e => w (hxk.2.2.1 e)
      have hV7 := hV.u hxt.u
      have h67 : σ7.1 1 6 = 0 := by rw [hxt.2.2 6 (by omega) (by omega) (by omega) (by omega)]; exact h6
      refine x_item (s := s) (htx.f hV7.2.2.2.2.2) hp hV.1 hV7.2.1 hxk hK h67 hV7.2.2.2.1 hV7.2.2.2.2.1 (fun σ' f hx g6 g2 hb => ⟨fun _ => ?_, fun z => by rw [g6] at z; exact absurd z (by decide)⟩) (fun q code a b x y hg σ' hu g6 g3 => ⟨fun z => absurd g6 z, fun _ => ?_⟩)
      · have hf := hb.le hn hp
        rw [f_X10_reads_J79_26]
        refine ⟨fun z => by rw [g6] at z; exact absurd z (by decide), fun _ => ?_⟩
        rw [g2]
        refine hQ _ _ (Or.inr ⟨f, hf, rfl, hV7.2.2.2.2.2.tr hx⟩) (fun k91 post hk91 τ hJ => ?_)
        obtain ⟨hj, hmk, h13⟩ := hJ
        have hj7 := hj.u hxt.u MU.rf
        rw [f_X12_pit_L21]
        refine ⟨fun z => absurd h13 z, fun _ => ⟨fun z => absurd (hmk.e3 z) hK, fun _ => ?_⟩⟩
        have hb' : Bad t n s (τ.1 0 14) (τ.1 0 15) p f := by rw [hj7.2.2.1, hj7.2.2.2]; exact hb
        refine m_bad (v := nI k) (ag := f_X12_pit_L21 k91 post (d + 1)) (htm.f hj.2.1) hp hV.1 hj.1.2.2.1 hmk h13 hb' (fun τ' hm' g13 => m_out hk91 hf rfl g13 (hj.2.1.tr hm')) (fun τ' hm' g13 => ⟨fun _ => ?_, fun _ => ?_⟩)
        · rw [f_X12_pit_J81_21]
          exact m_dueF (ng9 (by omega) g13) (fun _ => m_out hk91 hf rfl g13 (hj.2.1.tr hm'))
        · rw [f_X12_pit_J81_21]
          exact m_dueF (ng9 (by omega) g13) (fun _ => m_out hk91 hf rfl g13 (hj.2.1.tr hm'))
      · obtain ⟨hq1, hq2⟩ := hg.q hn hp
        have hfa := hg.fact hn hp hV.1
        have hV' := (hV7.item hfa).u hu
        have hsq := ts_spec (t := t) hn hq2
        have hte := te_le (t := t) hn hq2
        refine x_tok (htx.f hV'.2.2.2.2.2) hq2 g3 (fun σ14 hxt2 hxk2 => ⟨fun w14 => ?_, fun w14 => ?_⟩)
        · have hK3 := hxk2.e3 w14
          have hte3 : te t n q = ts t n q + 1 := by
            rw [te, if_pos]
            rw [tK] at hK3
            split at hK3
            · split at hK3 <;> omega
            · split at hK3
              · split at hK3
                · omega
                · split at hK3 <;> omega
              · exact hK3
          rw [f_X10_reads_J76_26, f_X10_reads_J79_26, nI_1]
          have u6 : XU σ14 (st_up σ14 1 6 0) := XU.up (by omega)
          refine ⟨Or.inl rfl, fun _ => ?_, fun z => absurd (st_up_at _ _ _ _) z⟩
          refine ih (te t n q) (k + 1) (sOf code s) _ Q (by omega) hte.2 (by omega) ((hV'.u hxt2.u).u u6) (by rw [st_up_nat _ (by omega)]; exact hxk2.2.1 (by omega)) (st_up_at _ _ _ _) (fun r σ'' hXF hM => hQ r σ'' hXF (fun k91 post hk91 τ hJ => ?_))
          obtain ⟨hj, hmk, h13⟩ := hJ
          have hj7 := hj.u hxt.u MU.rf
          rw [f_X12_pit_L21]
          refine ⟨fun z => absurd h13 z, fun _ => ⟨fun z => absurd (hmk.e3 z) hK, fun _ => ?_⟩⟩
          have hg' : GI t n s (τ.1 0 14) (τ.1 0 15) p q code a b x y := by rw [hj7.2.2.1, hj7.2.2.2]; exact hg
          have hji := hj7.item hfa
          refine m_good (v := nI k) (ag := f_X12_pit_L21 k91 post (d + 1)) (htm.f hj.2.1) hp hV.1 hj.1.2.2.1 hmk h13 hg' (fun τ' hmu g13 gk => ⟨fun z => absurd (gk.2.2.2.2.2.1 hK3) z, fun _ => ?_⟩)
          have hj' := hji.u hu hmu
          rw [f_X12_pit_J81_21]
          refine m_due1 (htm.f hj'.2.1) hq2 gk (by omega) g13 (fun τ2 hm2 b13 bk => ?_)
          rw [nI_1]
          exact hM k91 post hk91 τ2 ⟨hj'.u (hxt2.u.tr u6) hm2, bk, b13⟩
        · have hK3 : tK t n q ≠ 3 := fun e => w14 (hxk2.2.2.2.2.2.1 e)
          rw [f_X10_reads_J76_26, f_X10_reads_J79_26]
          have u6 : XU σ14 (st_up σ14 1 6 1) := XU.up (by omega)
          refine ⟨Or.inr rfl, fun z => by rw [st_up_at] at z; exact absurd z (by decide), fun _ => ?_⟩
          rw [show (st_up σ14 1 6 1).1 1 2 = nI (ts t n q) by rw [st_up_nat _ (by omega)]; exact hxk2.1]
          refine hQ _ _ (Or.inr ⟨ts t n q, by omega, rfl, ((hV'.u hxt2.u).u u6).2.2.2.2.2⟩) (fun k91 post hk91 τ hJ => ?_)
          obtain ⟨hj, hmk, h13⟩ := hJ
          have hj7 := hj.u hxt.u MU.rf
          rw [f_X12_pit_L21]
          refine ⟨fun z => absurd h13 z, fun _ => ⟨fun z => absurd (hmk.e3 z) hK, fun _ => ?_⟩⟩
          have hg' : GI t n s (τ.1 0 14) (τ.1 0 15) p q code a b x y := by rw [hj7.2.2.1, hj7.2.2.2]; exact hg
          have hji := hj7.item hfa
          refine m_good (v := nI k) (ag := f_X12_pit_L21 k91 post (d + 1)) (htm.f hj.2.1) hp hV.1 hj.1.2.2.1 hmk h13 hg' (fun τ' hmu g13 gk => ⟨fun _ => ?_, fun z => absurd (gk.e2 z) hK3⟩)
          have hj' := hji.u hu hmu
          rw [f_X12_pit_J81_21]
          exact m_due0 gk g13 (fun τ2 hm2 b13 _ => m_out hk91 (by omega) rfl b13 (hj'.2.1.u hm2))
    · have hK := hxk.e0 w
      refine hQ _ _ (Or.inl ⟨k, s, by omega, rfl, hV.u hxt.u⟩) (fun k91 post hk91 τ hJ => ?_)
      obtain ⟨hj, hmk, h13⟩ := hJ
      rw [f_X12_pit_L21]
      refine ⟨fun z => absurd h13 z, fun _ => ⟨fun _ => ?_, fun z => absurd (hmk.2.2.1 hK) z⟩⟩
      exact hk91 _ _ (Or.inl ⟨k, s, by omega, rfl, rfl, h13, hj.u hxt.u MU.rf⟩)
