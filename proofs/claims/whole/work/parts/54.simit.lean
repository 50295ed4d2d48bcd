/-! PIT: an item of the class. -/
theorem XF.rf {σ : St} : XF σ σ := ⟨rfl, fun _ _ _ => rfl, rfl⟩
theorem XF.tr {a b c : St} (h1 : XF a b) (h2 : XF b c) : XF a c := ⟨h2.1.trans h1.1, fun q q1 q2 => (h2.2.1 q q1 q2).trans (h1.2.1 q q1 q2), h2.2.2.trans h1.2.2⟩
theorem XF.up1 {σ : St} {i : Nat} {x : Int32} (h : i ≠ 0) : XF σ (st_up σ 1 i x) := ⟨rfl, fun c c1 _ => st_up_ne _ c1, st_up_nat _ (Ne.symm h)⟩
theorem XF.upD {σ : St} {c i : Nat} {x : Int32} (h : 3 ≤ c ∧ c ≤ 20) : XF σ (st_up σ c i x) := ⟨rfl, fun q _ q2 => st_up_ne _ (by omega), by rw [st_up_ne _ (by omega)]⟩
/-- what may stand behind a letter, and where it goes wrong -/
def Bad (t : Nat → Nat) (n s : Nat) (c7 c8 : Int32) (p f : Nat) : Prop :=
  (tK t n p ≠ 1 ∧ f = ts t n p) ∨ (tK t n p = 1 ∧ (
    (tV t n p ≠ 99 ∧ tV t n p ≠ 101 ∧ tV t n p ≠ 109 ∧ tV t n p ≠ 114 ∧ tV t n p ≠ 115 ∧ f = ts t n p) ∨
    (tV t n p = 99 ∧ ((c7 ≠ 0 ∧ f = ts t n p) ∨ (c7 = 0 ∧ ¬ isN t n (te t n p) 1 6 ∧ f = ts t n (te t n p)))) ∨
    (tV t n p = 115 ∧ ((c8 ≠ 0 ∧ f = ts t n p) ∨ (c8 = 0 ∧ ¬ isN t n (te t n p) 0 50 ∧ f = ts t n (te t n p)))) ∨
    (tV t n p = 109 ∧ ((¬ s < 6 ∧ f = ts t n p) ∨ (s < 6 ∧ ¬ isN t n (te t n p) 0 99 ∧ f = ts t n (te t n p)) ∨ (s < 6 ∧ isN t n (te t n p) 0 99 ∧ ¬ isN t n (te t n (te t n p)) 0 9 ∧ f = ts t n (te t n (te t n p))))) ∨
    ((tV t n p = 101 ∨ tV t n p = 114) ∧ ((¬ isN t n (te t n p) 0 (nI s - 1) ∧ f = ts t n (te t n p)) ∨ (isN t n (te t n p) 0 (nI s - 1) ∧ ¬ (isN t n (te t n (te t n p)) 0 (nI s - 1) ∧ tV t n (te t n p) ≠ tV t n (te t n (te t n p))) ∧ f = ts t n (te t n (te t n p))) ∨ (isN t n (te t n p) 0 (nI s - 1) ∧ isN t n (te t n (te t n p)) 0 (nI s - 1) ∧ tV t n (te t n p) ≠ tV t n (te t n (te t n p)) ∧ ¬ isN t n (te t n (te t n (te t n p))) 0 9 ∧ f = ts t n (te t n (te t n (te t n p))))))))
theorem x_numF {a b : Int32} {σ : St} {post : Int32 → St → Prop} (h6 : ¬ σ.1 1 6 = 0) (h : ∀ r, post r σ) : f_X10_readsNumber a b σ post := by
  rw [f_X10_readsNumber]
  exact ⟨fun w => absurd w h6, fun _ => h _⟩
/-- the cage's size is told -/
theorem x_cage {t : Nat → Nat} {n p : Nat} {σ : St} {post : St → Prop} (ht : TX t n σ) (hp : p ≤ n) (h2 : σ.1 1 2 = nI (ts t n p)) (h3 : σ.1 1 3 = nI (te t n p)) (h7 : σ.1 1 7 = 0 ∨ σ.1 1 7 = 1)
    (hF : ∀ σ' f, XF σ σ' → σ'.1 1 6 = 1 → σ'.1 1 2 = nI f → (σ.1 1 7 ≠ 0 ∧ f = ts t n p) ∨ (σ.1 1 7 = 0 ∧ ¬ isN t n (te t n p) 1 6 ∧ f = ts t n (te t n p)) → post σ')
    (hG : σ.1 1 7 = 0 → isN t n (te t n p) 1 6 → ∀ σ', XU (st_up σ 1 7 1) σ' → σ'.1 1 6 = 0 → σ'.1 1 3 = nI (te t n (te t n p)) → post (st_up σ' 3 1 (nI (tV t n (te t n p))))) :
    ∀ σ4 : St, σ4 = (st_up σ 1 6 (σ.1 1 7)) → (f_X10_readsNumber 1 6 (st_up σ4 1 7 1) (fun x6 σ5 => post (st_up σ5 3 1 x6))) := by
  rintro _ rfl
  have f0 : XF σ (st_up (st_up σ 1 6 (σ.1 1 7)) 1 7 1) := (XF.up1 (by omega)).tr (XF.up1 (by omega))
  have t0 : TX t n (st_up (st_up σ 1 6 (σ.1 1 7)) 1 7 1) := ⟨ht.1, ht.2.1, ht.2.2⟩
  rcases h7 with e | e
  · have g6 : (st_up (st_up σ 1 6 (σ.1 1 7)) 1 7 1).1 1 6 = 0 := e
    have g3 : (st_up (st_up σ 1 6 (σ.1 1 7)) 1 7 1).1 1 3 = nI (te t n p) := h3
    refine x_num (lo := 1) t0 (te_le ht.1 hp).2 (by omega) g3 g6 (fun hn σ' hu u6 u3 u2 => ?_) (fun hn σ' hu u6 u2 r => ?_)
    · refine hG e hn σ' ⟨hu.1, fun c hc => (hu.2.1 c hc).trans ?_, fun i hi => (hu.2.2 i hi).trans ?_⟩ u6 u3
      · rw [st_up_ne _ hc, st_up_ne _ hc, st_up_ne _ hc]
      · by_cases c : i = 7
        · subst c; rfl
        · rw [st_up_nat _ c, st_up_nat _ (by omega), st_up_nat _ c]
    · refine hF _ (ts t n (te t n p)) ((f0.u hu).tr (XF.upD (by omega))) u6 u2 (Or.inr ⟨e, hn, rfl⟩)
  · refine x_numF (show ¬ σ.1 1 7 = 0 by rw [e]; decide) (fun r => ?_)
    exact hF _ (ts t n p) (f0.tr (XF.upD (by omega))) e h2 (Or.inl ⟨by rw [e]; decide, rfl⟩)
theorem x_shale {t : Nat → Nat} {n p : Nat} {σ : St} {post : St → Prop} (ht : TX t n σ) (hp : p ≤ n) (h2 : σ.1 1 2 = nI (ts t n p)) (h3 : σ.1 1 3 = nI (te t n p)) (h8 : σ.1 1 8 = 0 ∨ σ.1 1 8 = 1)
    (hF : ∀ σ' f, XF σ σ' → σ'.1 1 6 = 1 → σ'.1 1 2 = nI f → (σ.1 1 8 ≠ 0 ∧ f = ts t n p) ∨ (σ.1 1 8 = 0 ∧ ¬ isN t n (te t n p) 0 50 ∧ f = ts t n (te t n p)) → post σ')
    (hG : σ.1 1 8 = 0 → isN t n (te t n p) 0 50 → ∀ σ', XU (st_up σ 1 8 1) σ' → σ'.1 1 6 = 0 → σ'.1 1 3 = nI (te t n (te t n p)) → post (st_up σ' 3 2 (nI (tV t n (te t n p))))) :
    ∀ σ4 : St, σ4 = (st_up σ 1 6 (σ.1 1 8)) → (f_X10_readsNumber 0 50 (st_up σ4 1 8 1) (fun x6 σ5 => post (st_up σ5 3 2 x6))) := by
  rintro _ rfl
  have f0 : XF σ (st_up (st_up σ 1 6 (σ.1 1 8)) 1 8 1) := (XF.up1 (by omega)).tr (XF.up1 (by omega))
  have t0 : TX t n (st_up (st_up σ 1 6 (σ.1 1 8)) 1 8 1) := ⟨ht.1, ht.2.1, ht.2.2⟩
  rcases h8 with e | e
  · have g6 : (st_up (st_up σ 1 6 (σ.1 1 8)) 1 8 1).1 1 6 = 0 := e
    have g3 : (st_up (st_up σ 1 6 (σ.1 1 8)) 1 8 1).1 1 3 = nI (te t n p) := h3
    refine x_num (lo := 0) t0 (te_le ht.1 hp).2 (by omega) g3 g6 (fun hn σ' hu u6 u3 u2 => ?_) (fun hn σ' hu u6 u2 r => ?_)
    · refine hG e hn σ' ⟨hu.1, fun c hc => (hu.2.1 c hc).trans ?_, fun i hi => (hu.2.2 i hi).trans ?_⟩ u6 u3
      · rw [st_up_ne _ hc, st_up_ne _ hc, st_up_ne _ hc]
      · by_cases c : i = 8
        · subst c; rfl
        · rw [st_up_nat _ c, st_up_nat _ (by omega), st_up_nat _ c]
    · refine hF _ (ts t n (te t n p)) ((f0.u hu).tr (XF.upD (by omega))) u6 u2 (Or.inr ⟨e, hn, rfl⟩)
  · refine x_numF (show ¬ σ.1 1 8 = 0 by rw [e]; decide) (fun r => ?_)
    exact hF _ (ts t n p) (f0.tr (XF.upD (by omega))) e h2 (Or.inl ⟨by rw [e]; decide, rfl⟩)
