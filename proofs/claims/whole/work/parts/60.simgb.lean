/-! PIT: an item of M. -/
/-- one turn of M's loop, up to the stop -/
def mTurn (v : Int32) (ag : Int32 → St → Prop) (k : St → Prop) (τ : St) : Prop := f_X12_mayBe (τ.1 0 11) τ (fun x9 σ8 => f_X12_due x9 σ8 (fun _ σ10 => (¬ (σ10.1 0 13) = (-9) → ag v σ10) ∧ ((σ10.1 0 13) = (-9) → (f_X12_readRow (τ.1 0 11) σ10 k))))
theorem MK.letter {t : Nat → Nat} {n p : Nat} {τ : St} (hk : MK t n p τ) (h : tK t n p ≠ 1) {z : Int32} (hz : 4 < z) : τ.1 0 11 ≠ z := by
  obtain ⟨k1, k2, k3, k4, k5, k6, k7⟩ := hk
  have hK := tK_le t n p
  have : tK t n p = 0 ∨ tK t n p = 2 ∨ tK t n p = 3 ∨ tK t n p = 4 := by omega
  intro e
  rcases this with w | w | w | w
  · rw [← e, k3 w] at hz; exact absurd hz (by decide)
  · rw [← e, (k5 w).1] at hz; exact absurd hz (by decide)
  · rw [← e, k6 w] at hz; exact absurd hz (by decide)
  · rw [← e, k7 w] at hz; exact absurd hz (by decide)
theorem m_row {z : Int32} {post : St → Prop} {τ : St} (h : ∀ a : Int32, (a = if z = 101 then 1 else 0) → f_X12_readNear a τ post) : f_X12_readRow_J96 z post τ := ⟨fun w => h 0 (by rw [if_neg w]), fun w => h 1 (by rw [if_pos w])⟩
theorem m_bad {t : Nat → Nat} {n p s f : Nat} {v : Int32} {ag : Int32 → St → Prop} {k : St → Prop} {τ : St} (ht : TM t n τ) (hp : p ≤ n) (hs : s ≤ 6) (h2 : τ.1 2 1 = nI s) (hk : MK t n p τ) (h13 : τ.1 0 13 = -9) (hb : Bad t n s (τ.1 0 14) (τ.1 0 15) p f)
    (hA : ∀ τ', MF τ τ' → τ'.1 0 13 = nI f → ag v τ') (hR : ∀ τ', MF τ τ' → τ'.1 0 13 = nI f → k τ') : mTurn v ag k τ := by
  have hn := ht.1
  have hq1 := (te_le (t := t) ht.1 hp).2
  have hts := (ts_spec (t := t) hn hp).2.2.1
  have no : f = ts t n p → f_X12_due 0 τ (fun _ σ10 => (¬ (σ10.1 0 13) = (-9) → ag v σ10) ∧ ((σ10.1 0 13) = (-9) → (f_X12_readRow (τ.1 0 11) σ10 k))) := by
    intro e
    refine m_due0 hk h13 (fun τ' hu u13 r => ⟨fun _ => hA τ' (MF.rf.u hu) (by rw [e]; exact u13), fun w => absurd w (ng9 (by omega) u13)⟩)
  have yes : tK t n p = 1 → (∀ τ', MU τ τ' → τ'.1 0 13 = -9 → MK t n (te t n p) τ' → f_X12_readRow (nI (tV t n p)) τ' k) → f_X12_due 1 τ (fun _ σ10 => (¬ (σ10.1 0 13) = (-9) → ag v σ10) ∧ ((σ10.1 0 13) = (-9) → (f_X12_readRow (τ.1 0 11) σ10 k))) := by
    intro c1 hh
    refine m_due1 ht hp hk (by omega) h13 (fun τ' hu u13 uk => ⟨fun w => absurd u13 w, fun _ => ?_⟩)
    rw [hk.2.2.2.1 c1]
    exact hh τ' hu u13 uk
  rw [mTurn]
  rcases hb with ⟨c1, e⟩ | ⟨c1, hb⟩
  · refine m_may 0 (fun w => absurd w (hk.letter c1 (by decide))) (fun w => absurd w (hk.letter c1 (by decide))) (fun w => absurd w (hk.letter c1 (by decide))) (fun w => absurd w (hk.letter c1 (by decide))) (fun w => absurd w (hk.letter c1 (by decide))) (fun _ _ _ _ _ => rfl) (no e)
  · have h11 := hk.2.2.2.1 c1
    have hV := tV_1 c1
    have nq : ∀ z : Nat, z < 2 ^ 31 → tV t n p ≠ z → nI (tV t n p) ≠ nI z := fun z hz h e => h (nI_ij (by omega) hz e)
    rcases hb with ⟨v99, v101, v109, v114, v115, e⟩ | ⟨v99, hb⟩ | ⟨v115, hb⟩ | ⟨v109, hb⟩ | ⟨v2, hb⟩
    · refine m_may 0 (fun w => absurd (h11.symm.trans w) (nq 99 (by omega) v99)) (fun w => absurd (h11.symm.trans w) (nq 101 (by omega) v101)) (fun w => absurd (h11.symm.trans w) (nq 109 (by omega) v109)) (fun w => absurd (h11.symm.trans w) (nq 114 (by omega) v114)) (fun w => absurd (h11.symm.trans w) (nq 115 (by omega) v115)) (fun _ _ _ _ _ => rfl) (no e)
    · rw [v99] at h11
      rcases hb with ⟨c7, e⟩ | ⟨c7, hN, e⟩
      · refine m_may 0 (fun _ => by rw [if_neg c7]) (fun w => absurd (h11.symm.trans w) (by decide)) (fun w => absurd (h11.symm.trans w) (by decide)) (fun w => absurd (h11.symm.trans w) (by decide)) (fun w => absurd (h11.symm.trans w) (by decide)) (fun w => absurd h11 w) (no e)
      · refine m_may 1 (fun _ => by rw [if_pos c7]) (fun w => absurd (h11.symm.trans w) (by decide)) (fun w => absurd (h11.symm.trans w) (by decide)) (fun w => absurd (h11.symm.trans w) (by decide)) (fun w => absurd (h11.symm.trans w) (by decide)) (fun w => absurd h11 w) (yes c1 (fun τ' hu u13 uk => ?_))
        rw [v99]
        exact m_cage (ht.u hu) hq1 uk u13 (fun _ τ2 hx g13 => hR τ2 ((MF.rf.u hu).tr hx) (by rw [e]; exact g13)) (fun w => absurd w hN)
    · rw [v115] at h11
      rcases hb with ⟨c8, e⟩ | ⟨c8, hN, e⟩
      · refine m_may 0 (fun w => absurd (h11.symm.trans w) (by decide)) (fun w => absurd (h11.symm.trans w) (by decide)) (fun w => absurd (h11.symm.trans w) (by decide)) (fun w => absurd (h11.symm.trans w) (by decide)) (fun _ => by rw [if_neg c8]) (fun _ _ _ _ w => absurd h11 w) (no e)
      · refine m_may 1 (fun w => absurd (h11.symm.trans w) (by decide)) (fun w => absurd (h11.symm.trans w) (by decide)) (fun w => absurd (h11.symm.trans w) (by decide)) (fun w => absurd (h11.symm.trans w) (by decide)) (fun _ => by rw [if_pos c8]) (fun _ _ _ _ w => absurd h11 w) (yes c1 (fun τ' hu u13 uk => ?_))
        rw [v115]
        exact m_shale (ht.u hu) hq1 uk u13 (fun _ τ2 hx g13 => hR τ2 ((MF.rf.u hu).tr hx) (by rw [e]; exact g13)) (fun w => absurd w hN)
    · rw [v109] at h11
      by_cases c6 : s < 6
      · have hle : ¬ (6 : Int32) ≤ τ.1 2 1 := by
          rw [h2]
          intro w
          have := (nI_leI (a := 6) (by omega) (by omega)).mp w
          omega
        refine m_may 1 (fun w => absurd (h11.symm.trans w) (by decide)) (fun w => absurd (h11.symm.trans w) (by decide)) (fun _ => by rw [if_neg hle]) (fun w => absurd (h11.symm.trans w) (by decide)) (fun w => absurd (h11.symm.trans w) (by decide)) (fun _ _ w => absurd h11 w) (yes c1 (fun τ' hu u13 uk => ?_))
        rw [v109]
        have e2 : τ'.1 2 1 = nI s := by rw [hu.2.1 2 (by decide)]; exact h2
        rcases hb with ⟨c, _⟩ | ⟨_, hN, e⟩ | ⟨_, hN, hN2, e⟩
        · exact absurd c6 c
        · exact m_manR (ht.u hu) hq1 c6 e2 uk u13 (fun _ τ2 hx g13 => hR τ2 ((MF.rf.u hu).tr hx) (by rw [e]; exact g13)) (fun w => absurd w hN) (fun w => absurd w hN)
        · exact m_manR (ht.u hu) hq1 c6 e2 uk u13 (fun w => absurd hN w) (fun _ _ τ2 hx g13 => hR τ2 ((MF.rf.u hu).tr hx) (by rw [e]; exact g13)) (fun _ w => absurd w hN2)
      · have hle : (6 : Int32) ≤ τ.1 2 1 := by
          rw [h2]
          exact (nI_leI (a := 6) (by omega) (by omega)).mpr (by omega)
        rcases hb with ⟨_, e⟩ | ⟨c, _⟩ | ⟨c, _⟩
        · refine m_may 0 (fun w => absurd (h11.symm.trans w) (by decide)) (fun w => absurd (h11.symm.trans w) (by decide)) (fun _ => by rw [if_pos hle]) (fun w => absurd (h11.symm.trans w) (by decide)) (fun w => absurd (h11.symm.trans w) (by decide)) (fun _ _ w => absurd h11 w) (no e)
        · exact absurd c c6
        · exact absurd c c6
    · have two : ∀ a τ', MU τ τ' → τ'.1 0 13 = -9 → MK t n (te t n p) τ' → f_X12_readNear a τ' k := by
        intro a τ' hu u13 uk
        have e2 : τ'.1 2 1 = nI s := by rw [hu.2.1 2 (by decide)]; exact h2
        rcases hb with ⟨hN, e⟩ | ⟨hN, hN2, e⟩ | ⟨hN, hN2, hne, hN3, e⟩
        · exact m_two (ht.u hu) hq1 hs e2 uk u13 (fun _ τ2 hx g13 => hR τ2 ((MF.rf.u hu).tr hx) (by rw [e]; exact g13)) (fun w => absurd w hN) (fun w => absurd w hN) (fun w => absurd w hN)
        · exact m_two (ht.u hu) hq1 hs e2 uk u13 (fun w => absurd hN w) (fun _ _ τ2 hx g13 => hR τ2 ((MF.rf.u hu).tr hx) (by rw [e]; exact g13)) (fun _ w1 w2 => absurd ⟨w1, w2⟩ hN2) (fun _ w1 w2 => absurd ⟨w1, w2⟩ hN2)
        · exact m_two (ht.u hu) hq1 hs e2 uk u13 (fun w => absurd hN w) (fun _ w => absurd ⟨hN2, hne⟩ w) (fun _ _ _ _ τ2 hx g13 => hR τ2 ((MF.rf.u hu).tr hx) (by rw [e]; exact g13)) (fun _ _ _ w => absurd w hN3)
      rcases v2 with v2 | v2
      · rw [v2] at h11
        refine m_may 1 (fun w => absurd (h11.symm.trans w) (by decide)) (fun _ => rfl) (fun w => absurd (h11.symm.trans w) (by decide)) (fun w => absurd (h11.symm.trans w) (by decide)) (fun w => absurd (h11.symm.trans w) (by decide)) (fun _ w => absurd h11 w) (yes c1 (fun τ' hu u13 uk => ?_))
        rw [v2, f_X12_readRow]
        refine ⟨fun e => absurd e (by decide), fun _ => ?_, fun e => absurd e (by decide), fun e => absurd e (by decide), fun _ e => absurd rfl e⟩
        exact m_row (fun a _ => two a τ' hu u13 uk)
      · rw [v2] at h11
        refine m_may 1 (fun w => absurd (h11.symm.trans w) (by decide)) (fun w => absurd (h11.symm.trans w) (by decide)) (fun w => absurd (h11.symm.trans w) (by decide)) (fun _ => rfl) (fun w => absurd (h11.symm.trans w) (by decide)) (fun _ _ _ w => absurd h11 w) (yes c1 (fun τ' hu u13 uk => ?_))
        rw [v2, f_X12_readRow]
        refine ⟨fun e => absurd e (by decide), fun e => absurd e (by decide), fun e => absurd e (by decide), fun _ => ?_, fun _ _ _ e => absurd rfl e⟩
        exact m_row (fun a _ => two a τ' hu u13 uk)
theorem m_good {t : Nat → Nat} {n p s q code i j : Nat} {x y v : Int32} {ag : Int32 → St → Prop} {k : St → Prop} {τ : St} (ht : TM t n τ) (hp : p ≤ n) (hs : s ≤ 6) (h2 : τ.1 2 1 = nI s) (hk : MK t n p τ) (h13 : τ.1 0 13 = -9) (hg : GI t n s (τ.1 0 14) (τ.1 0 15) p q code i j x y)
    (hR : ∀ τ', MU (AM code s i j x y τ) τ' → τ'.1 0 13 = -9 → MK t n q τ' → k τ') : mTurn v ag k τ := by
  have hn := ht.1
  have hq1 := (te_le (t := t) ht.1 hp).2
  obtain ⟨c1, hg⟩ := hg
  have h11 := hk.2.2.2.1 c1
  have yes : (∀ τ', MU τ τ' → τ'.1 0 13 = -9 → MK t n (te t n p) τ' → f_X12_readRow (nI (tV t n p)) τ' k) → f_X12_due 1 τ (fun _ σ10 => (¬ (σ10.1 0 13) = (-9) → ag v σ10) ∧ ((σ10.1 0 13) = (-9) → (f_X12_readRow (τ.1 0 11) σ10 k))) := by
    intro hh
    refine m_due1 ht hp hk (by omega) h13 (fun τ' hu u13 uk => ⟨fun w => absurd u13 w, fun _ => ?_⟩)
    rw [h11]
    exact hh τ' hu u13 uk
  rw [mTurn]
  rcases hg with ⟨v99, c7, hN, rfl, rfl, rfl⟩ | ⟨v115, c8, hN, rfl, rfl, rfl⟩ | ⟨v109, c6, hN, hN2, rfl, rfl, rfl, rfl⟩ | ⟨v2, hN, hN2, hne, hN3, rfl, rfl, rfl, rfl, hy⟩
  · rw [v99] at h11
    refine m_may 1 (fun _ => by rw [if_pos c7]) (fun w => absurd (h11.symm.trans w) (by decide)) (fun w => absurd (h11.symm.trans w) (by decide)) (fun w => absurd (h11.symm.trans w) (by decide)) (fun w => absurd (h11.symm.trans w) (by decide)) (fun w => absurd h11 w) (yes (fun τ' hu u13 uk => ?_))
    rw [v99]
    exact m_cage (ht.u hu) hq1 uk u13 (fun w => absurd hN w) (fun _ τ2 hx g13 gk => hR _ (((hu.tr hx).upc (by decide)).up0 (by omega)) g13 gk)
  · rw [v115] at h11
    refine m_may 1 (fun w => absurd (h11.symm.trans w) (by decide)) (fun w => absurd (h11.symm.trans w) (by decide)) (fun w => absurd (h11.symm.trans w) (by decide)) (fun w => absurd (h11.symm.trans w) (by decide)) (fun _ => by rw [if_pos c8]) (fun _ _ _ _ w => absurd h11 w) (yes (fun τ' hu u13 uk => ?_))
    rw [v115]
    exact m_shale (ht.u hu) hq1 uk u13 (fun w => absurd hN w) (fun _ τ2 hx g13 gk => hR _ (((hu.tr hx).upc (by decide)).up0 (by omega)) g13 gk)
  · rw [v109] at h11
    have hle : ¬ (6 : Int32) ≤ τ.1 2 1 := by
      rw [h2]
      intro w
      have := (nI_leI (a := 6) (by omega) (by omega)).mp w
      omega
    refine m_may 1 (fun w => absurd (h11.symm.trans w) (by decide)) (fun w => absurd (h11.symm.trans w) (by decide)) (fun _ => by rw [if_neg hle]) (fun w => absurd (h11.symm.trans w) (by decide)) (fun w => absurd (h11.symm.trans w) (by decide)) (fun _ _ w => absurd h11 w) (yes (fun τ' hu u13 uk => ?_))
    rw [v109]
    have e2 : τ'.1 2 1 = nI s := by rw [hu.2.1 2 (by decide)]; exact h2
    exact m_manR (ht.u hu) hq1 c6 e2 uk u13 (fun w => absurd hN w) (fun _ w => absurd hN2 w) (fun _ _ τ2 hx g13 gk => hR _ ((((hu.upc (by decide)).tr hx).upc (by decide)).upc (by decide)) g13 gk)
  · have two : ∀ a : Int32, (a = if tV t n p = 101 then 1 else 0) → ∀ τ', MU τ τ' → τ'.1 0 13 = -9 → MK t n (te t n p) τ' → f_X12_readNear a τ' k := by
      intro a ha τ' hu u13 uk
      have e2 : τ'.1 2 1 = nI s := by rw [hu.2.1 2 (by decide)]; exact h2
      refine m_two (ht.u hu) hq1 hs e2 uk u13 (fun w => absurd hN w) (fun _ w => absurd ⟨hN2, hne⟩ w) (fun _ _ _ w => absurd hN3 w) (fun _ _ _ _ τ2 hx g13 gk => ?_)
      have hy2 : (if a = 0 then nI (tV t n (te t n (te t n (te t n p)))) else -nI (tV t n (te t n (te t n (te t n p))))) = y := by
        rw [hy, ha]
        by_cases c : tV t n p = 101
        · rw [if_pos c, if_pos c, if_neg (by decide)]
        · rw [if_neg c, if_neg c, if_pos rfl]
      rw [hy2]
      exact hR _ (((hu.tr hx).upc (by decide)).upc (by decide)) g13 gk
    rcases v2 with v2 | v2
    · rw [v2] at h11
      refine m_may 1 (fun w => absurd (h11.symm.trans w) (by decide)) (fun _ => rfl) (fun w => absurd (h11.symm.trans w) (by decide)) (fun w => absurd (h11.symm.trans w) (by decide)) (fun w => absurd (h11.symm.trans w) (by decide)) (fun _ w => absurd h11 w) (yes (fun τ' hu u13 uk => ?_))
      rw [v2, f_X12_readRow]
      refine ⟨fun e => absurd e (by decide), fun _ => ?_, fun e => absurd e (by decide), fun e => absurd e (by decide), fun _ e => absurd rfl e⟩
      exact m_row (fun a ha => two a (by rw [ha, v2]; rfl) τ' hu u13 uk)
    · rw [v2] at h11
      refine m_may 1 (fun w => absurd (h11.symm.trans w) (by decide)) (fun w => absurd (h11.symm.trans w) (by decide)) (fun w => absurd (h11.symm.trans w) (by decide)) (fun _ => rfl) (fun w => absurd (h11.symm.trans w) (by decide)) (fun _ _ _ w => absurd h11 w) (yes (fun τ' hu u13 uk => ?_))
      rw [v2, f_X12_readRow]
      refine ⟨fun e => absurd e (by decide), fun e => absurd e (by decide), fun e => absurd e (by decide), fun _ => ?_, fun _ _ _ e => absurd rfl e⟩
      exact m_row (fun a ha => two a (by rw [ha, v2]; rfl) τ' hu u13 uk)
