/-! FIT. -/
theorem nI_ij {a b : Nat} (ha : a < 2 ^ 31) (hb : b < 2 ^ 31) (e : nI a = nI b) : a = b := (nI_eq ha hb).mp e
theorem nI_nz {c : Nat} (h0 : c ≠ 0) (h : c < 2 ^ 31) : ¬ nI c = 0 := fun e => h0 (nI_ij (a := c) (b := 0) (by omega) (by omega) e)
theorem su_full (F : Nat → Bool) : (su F 100).1 = ctB F 100 := by
  have := su_ct F 100 (Nat.le_refl _)
  simpa [ctB] using this
theorem su_2 {F : Nat → Bool} {s : Nat → Int32} (hg : Gath F 100 s) (h : ctB F 100 ≠ 0) : (su F 100).2 = s 0 := by
  rcases su_first F 100 (Nat.le_refl _) with ⟨h1, -⟩ | ⟨-, l, -, h2, h3, h4, h5⟩
  · rw [su_full] at h1; exact absurd h1 h
  · rw [h5, ← hg l h2 h3]
    have : ∀ n, n ≤ l → ctB F n = 0 := by
      intro n
      induction n with
      | zero => intro _; rfl
      | succ n ih => intro hn; rw [ctB, ih (by omega), if_neg (h4 n (by omega) (by omega))]
    rw [this l (Nat.le_refl _)]
theorem su_9 {F : Nat → Bool} (h : ctB F 100 = 0) : (su F 100).2 = -9 := by
  rcases su_first F 100 (Nat.le_refl _) with ⟨-, h2⟩ | ⟨h1, -⟩
  · exact h2
  · rw [su_full] at h1; omega
theorem sim_fit (a : Int32) : Sm (f_X11_fit a) (f_X12_fit a) := by
  intro σ τ h
  obtain ⟨N, hc, hn, hi, hl, ht, htx, htr, hp⟩ := id h
  obtain ⟨t, t1, t2, t3, t4⟩ := ht
  have bad : (¬ ∃ k, k ≤ 2 ∧ a = nI k) → f_X12_fit a τ (fun r' τ' => -1 = r' ∧ Rl σ τ') := by
    intro q
    rw [f_X12_fit]
    exact m_in0 (n := 2) rfl (by decide) (fun k hk e => absurd ⟨k, hk, e⟩ q) (fun _ => ⟨fun w => absurd rfl w, fun _ => ⟨rfl, h⟩⟩)
  rw [f_X11_fit]
  refine ⟨fun q => bad ?_, fun q => ⟨fun q1 => ?_, fun q1 => bad ?_⟩⟩
  · rintro ⟨k, hk, rfl⟩; exact nI_pos (by omega) q
  · obtain ⟨k, hk, rfl⟩ := nI_of q
    have hk2 : k ≤ 2 := (nI_leI (b := 2) hk (by omega)).mp q1
    refine x_gather t1 t2 (fun s hg => ?_)
    have hF : fitE t (σ.1 74) (σ.1 75) = fitE t (τ.1 16) (τ.1 17) := funext fun k => allB_cong (fun j hj => by rw [(t4 j hj).1, (t4 j hj).2.1])
    rw [hF] at hg ⊢
    generalize hG : fitE t (τ.1 16) (τ.1 17) = F at hg
    have hle := ctB_le F 100
    have hR : ∀ s s', Rl (st_row (st_row σ 76 s) 77 s') τ := fun s s' => Rl_A ((XA.row rfl).tr (XA.row rfl)) MA.rf h
    have hR1 : ∀ s, Rl (st_row σ 76 s) τ := fun s => Rl_A (XA.row rfl) MA.rf h
    have hM : ∀ (post : Int32 → St → Prop), (k = 0 → post (nI (ctB F 100)) τ) → (k ≠ 0 → ctB F 100 = 0 → post (-9) τ) → (k = 1 → ctB F 100 ≠ 0 → post (s 0) τ) → (k = 2 → ctB F 100 ≠ 0 → post (nx F 100).1 τ) → f_X12_fit (nI k) τ post := by
      intro post p0 pz p1 p2
      rw [f_X12_fit]
      refine m_in0 (n := 2) rfl (by decide) (fun k' hk' e => ⟨fun _ => ?_, fun w => absurd w (by decide)⟩) (fun w => absurd ⟨k, hk2, rfl⟩ w)
      refine m_fitL t1 t3 ?_
      rw [hG, su_full]
      by_cases z : ctB F 100 = 0
      · rw [su_9 z, z]
        have hJ : f_X12_fit_J55 (nI k) post (nI 0) (-9) τ := by
          rw [f_X12_fit_J55]
          refine ⟨fun w => ?_, fun w => ?_⟩
          · have : k ≠ 0 := fun e => w (by rw [e]; rfl)
            exact ⟨fun _ => pz this z, fun _ => pz this z⟩
          · have : k = 0 := nI_ij (by omega) (by omega) w
            have := p0 this
            rw [z] at this
            exact this
        exact ⟨fun _ => hJ, fun _ => ⟨fun w => absurd rfl w, fun _ => hJ⟩⟩
      · rw [su_2 hg z]
        have hJ : k < 2 → f_X12_fit_J55 (nI k) post (nI (ctB F 100)) (s 0) τ := by
          intro hk
          rw [f_X12_fit_J55]
          refine ⟨fun w => ?_, fun w => ?_⟩
          · have : k ≠ 0 := fun e => w (by rw [e]; rfl)
            have k1 : k = 1 := by omega
            exact ⟨fun w => absurd (by rw [k1]; rfl) w, fun _ => p1 k1 z⟩
          · exact p0 (nI_ij (by omega) (by omega) w)
        refine ⟨fun w => hJ ((nI_ltI (b := 2) (by omega) (by omega)).mp w), fun w => ⟨fun _ => m_next t1 t3 ?_, fun w => absurd w (nI_nz z (by omega))⟩⟩
        rw [hG]
        refine p2 ?_ z
        have : ¬ k < 2 := fun e => w ((nI_ltI (b := 2) (by omega) (by omega)).mpr e)
        omega
    refine ⟨fun w => ?_, fun w => ?_⟩
    · have k0 : k ≠ 0 := fun e => w (by rw [e]; rfl)
      refine ⟨fun z => ⟨fun w1 => ?_, fun w1 => ?_⟩, fun z => ?_⟩
      · have k1 : k ≠ 1 := fun e => w1 (by rw [e]; rfl)
        have z : ctB F 100 ≠ 0 := fun e => z (by rw [e]; rfl)
        refine x_most (F := F) hg (fun s' => ?_)
        exact hM _ (fun e => absurd e k0) (fun _ e => absurd e z) (fun e => absurd e k1) (fun _ _ => ⟨rfl, hR _ _⟩)
      · have k1 : k = 1 := nI_ij (by omega) (by omega) w1
        have z : ctB F 100 ≠ 0 := fun e => z (by rw [e]; rfl)
        exact hM _ (fun e => absurd e k0) (fun _ e => absurd e z) (fun _ _ => ⟨rfl, hR1 _⟩) (fun e => by omega)
      · have z : ctB F 100 = 0 := nI_ij (by omega) (by omega) z
        exact hM _ (fun e => absurd e k0) (fun _ _ => ⟨rfl, hR1 _⟩) (fun _ e => absurd z e) (fun _ e => absurd z e)
    · have k0 : k = 0 := nI_ij (by omega) (by omega) w
      exact hM _ (fun _ => ⟨rfl, hR1 _⟩) (fun e => absurd k0 e) (fun e => by omega) (fun e => by omega)
  · rintro ⟨k, hk, rfl⟩
    exact q1 ((nI_leI (b := 2) (by omega) (by omega)).mpr hk)
