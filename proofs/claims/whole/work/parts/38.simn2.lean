/-! PLAN: what a shift brings is no more than the ceiling. -/
theorem sm_rg {f : Nat → Int32} : ∀ {n : Nat}, n ≤ 6 → (∀ m, m < n → rg (-9) 9 (f m)) → rg (-9 * n) (9 * n) (sm f n)
  | 0, _, _ => ⟨show (-9 * ((0 : Nat) : Int)) ≤ (0 : Int32).toInt by decide, show (0 : Int32).toInt ≤ 9 * ((0 : Nat) : Int) by decide⟩
  | n + 1, hn, h => by
    have h1 := sm_rg (f := f) (n := n) (by omega) (fun m hm => h m (by omega))
    have h2 := add_rg h1 (h n (by omega)) (by omega) (by omega)
    rw [sm]
    refine ⟨?_, ?_⟩
    · have := h2.1; omega
    · have := h2.2; omega
theorem pl_rg {N : Nat} {ne : Nat → Int32} {s : Int32} (hN : N ≤ 6) (h : ∀ m, m < N → rg (-9) 9 (ne m)) : rg (-54) 54 (pl N ne s) := by
  have := sm_rg (f := fun o => if bt s o then ne o else 0) hN (fun m hm => by
    show rg (-9) 9 (if bt s m then ne m else 0)
    split
    · exact h m hm
    · exact ⟨by decide, by decide⟩)
  rw [pl]
  exact ⟨by have := this.1; omega, by have := this.2; omega⟩
theorem toInt_0 : (0 : Int32).toInt = 0 := by decide
theorem toInt_999 : (999 : Int32).toInt = 999 := by decide
theorem hd_toInt (v : Int32) : (hd' v).toInt = if 0 ≤ v.toInt then (if v.toInt ≤ 999 then v.toInt else 999) else 0 := by
  unfold hd'
  simp only [Int32.le_iff_toInt_le, toInt_0, toInt_999]
  split
  · split
    · rfl
    · exact toInt_999
  · exact toInt_0
theorem hd_mono {a b : Int32} (h : a.toInt ≤ b.toInt) : (hd' a).toInt ≤ (hd' b).toInt := by
  rw [hd_toInt, hd_toInt]
  split <;> split <;> (try split) <;> (try split) <;> omega
theorem shl_mono {sh : Int32} {p q : Nat} (hp : p ≤ q) (hq : q < 2 ^ 31) : ∃ p' q', shl' sh (nI p) = nI p' ∧ shl' sh (nI q) = nI q' ∧ p' ≤ q' ∧ q' ≤ q := by
  unfold shl'
  by_cases c1 : sh ≤ nI p
  · have c2 : sh ≤ nI q := Int32.le_trans c1 (nI_le hp hq)
    exact ⟨p, q, if_pos c1, if_pos c2, hp, Nat.le_refl _⟩
  · rw [if_neg c1]
    by_cases c2 : sh ≤ nI q
    · exact ⟨0, q, rfl, if_pos c2, Nat.zero_le _, Nat.le_refl _⟩
    · exact ⟨0, 0, rfl, if_neg c2, Nat.le_refl _, Nat.zero_le _⟩
theorem cM_co {N m : Nat} {ne : Nat → Int32} {sh s x pm : Int32} (hN : N ≤ 6) (h9 : ∀ o, o < N → rg (-9) 9 (ne o)) (hx : rg 0 999 x) (hp : rg 0 54 pm) (hle : (pl N ne s).toInt ≤ pm.toInt) : ∃ p q, co N ne sh s m x = nI p ∧ cM sh x pm = nI q ∧ p ≤ q ∧ q ≤ 499 := by
  have h1 := pl_rg (s := s) hN h9
  have e1 : (x + pl N ne s).toInt = x.toInt + (pl N ne s).toInt := fb_addI (by have := hx.1; have := h1.1; omega) (by have := hx.2; have := h1.2; omega)
  have e2 : (x + pm).toInt = x.toInt + pm.toInt := fb_addI (by have := hx.1; have := hp.1; omega) (by have := hx.2; have := hp.2; omega)
  have hm := hd_mono (a := x + pl N ne s) (b := x + pm) (by omega)
  have e3 : cM sh x pm = shl' sh (hd' (x + pm) / 2) := by
    unfold cM
    rw [min_hd (by rw [e2]; have := hx.1; have := hp.1; omega)]
  obtain ⟨a, ha, ea⟩ := rg_nI (b := 999) (hd_rg (x + pl N ne s)) (by omega)
  obtain ⟨b, hb, eb⟩ := rg_nI (b := 999) (hd_rg (x + pm)) (by omega)
  rw [ea, eb, nI_toInt (by omega), nI_toInt (by omega)] at hm
  obtain ⟨p', q', u1, u2, u3, u4⟩ := shl_mono (sh := sh) (p := a / 2) (q := b / 2) (by omega) (by omega)
  rw [e3, eb, half_nI (by omega), u2]
  unfold co ah
  by_cases c : bt s m
  · rw [if_pos c, ea, half_nI (by omega), u1]
    exact ⟨p', q', rfl, rfl, u3, by omega⟩
  · rw [if_neg c]
    exact ⟨0, q', rfl, rfl, Nat.zero_le _, by omega⟩
theorem cM_nI {sh x pm : Int32} (hx : rg 0 999 x) (hp : rg 0 54 pm) : ∃ q, cM sh x pm = nI q ∧ q ≤ 499 := by
  obtain ⟨p, q, -, h2, -, h4⟩ := cM_co (N := 0) (m := 0) (ne := fun _ => 0) (sh := sh) (s := 0) (x := x) (pm := pm) (by omega) (fun o ho => absurd ho (by omega)) hx hp (by rw [show pl 0 (fun _ => 0) 0 = 0 from rfl, toInt_0]; exact hp.1)
  exact ⟨q, h2, h4⟩
theorem bc_ct (a : Int32) : bc a = nI (ctB (fun m => decide (bt a m)) 6) := by
  have : ∀ n, sm (fun k => (a >>> (nI k &&& 31)) &&& 1) n = nI (ctB (fun m => decide (bt a m)) n) := by
    intro n
    induction n with
    | zero => rfl
    | succ n ih =>
      rw [sm, ctB, ih]
      rcases and1 (a >>> (nI n &&& 31)) with e | e
      · have : ¬ bt a n := by unfold bt; rw [e]; decide
        rw [if_neg (show ¬ decide (bt a n) = true by simp [this])]
        show _ + ((a >>> (nI n &&& 31)) &&& 1) = _
        rw [e]
        exact Int32.add_zero _
      · have : bt a n := e
        rw [if_pos (decide_eq_true this)]
        show _ + ((a >>> (nI n &&& 31)) &&& 1) = _
        rw [e, nI_1]
  exact this 6
theorem sm_sN {f : Nat → Int32} {e : Nat → Nat} : ∀ {n : Nat}, (∀ m, m < n → f m = nI (e m)) → sm f n = nI (sN e n)
  | 0, _ => rfl
  | n + 1, h => by rw [sm, sN, sm_sN (fun m hm => h m (by omega)), h n (by omega), nI_add]
def cF (N : Nat) (σ : St) (x : Nat → Int32) : Nat → Nat := fun m => if m < N then (cM (σ.1 21 2) (x m) (σ.1 38 m)).toInt.toNat else 0
theorem cF_nI {N : Nat} {σ : St} {x : Nat → Int32} (hP : PM N σ) (hx : ∀ m, m < N → rg 0 999 (x m)) {m : Nat} (hm : m < N) : cM (σ.1 21 2) (x m) (σ.1 38 m) = nI (cF N σ x m) := by
  obtain ⟨q, e, hq⟩ := cM_nI (sh := σ.1 21 2) (hx m hm) (hP m hm).1
  rw [cF, if_pos hm, e, nI_toInt (by omega)]
  rfl
theorem cF_bd {N : Nat} {σ : St} {x : Nat → Int32} (hP : PM N σ) (hx : ∀ m, m < N → rg 0 999 (x m)) (m : Nat) : cF N σ x m ≤ 499 := by
  rw [cF]
  split
  · rename_i hm
    obtain ⟨q, e, hq⟩ := cM_nI (sh := σ.1 21 2) (hx m hm) (hP m hm).1
    rw [e, nI_toInt (by omega)]
    omega
  · omega
theorem brs_ceil {N C k : Nat} {σ : St} {x : Nat → Int32} (hN : N ≤ 6) (hC : σ.1 21 1 = nI C) (hC6 : C ≤ 6) (hP : PM N σ) (h9 : ∀ a, a < N → ∀ b, b < N → rg (-9) 9 (σ.1 (25 + a) b)) (hx : ∀ m, m < N → rg 0 999 (x m)) (hk : k < 2 ^ N) (hcg : ¬ σ.1 21 1 < bc (nI k)) :
    ∃ B, B ≤ gr (cF N σ x) N C 0 ∧ brs N (xne σ) (σ.1 21 2) (nI k) x = nI B := by
  have hco : ∀ m, m < N → ∃ p, co N (xne σ m) (σ.1 21 2) (nI k) m (x m) = nI p ∧ p ≤ (if decide (bt (nI k) m) = true then cF N σ x m else 0) := by
    intro m hm
    by_cases c : bt (nI k) m
    · obtain ⟨p, q, e1, e2, e3, e4⟩ := cM_co (N := N) (m := m) (ne := xne σ m) (sh := σ.1 21 2) (s := nI k) (x := x m) (pm := σ.1 38 m) hN (h9 m hm) (hx m hm) (hP m hm).1 ((hP m hm).2 k hk c hcg)
      refine ⟨p, e1, ?_⟩
      rw [if_pos (decide_eq_true c)]
      have := cF_nI hP hx hm
      rw [e2] at this
      have := nI_ij (by omega) (by have := cF_bd hP hx m; omega) this
      omega
    · exact ⟨0, by unfold co; rw [if_neg c]; rfl, Nat.zero_le _⟩
  have he : ∃ e : Nat → Nat, ∀ m, m < N → co N (xne σ m) (σ.1 21 2) (nI k) m (x m) = nI (e m) ∧ e m ≤ (if decide (bt (nI k) m) = true then cF N σ x m else 0) :=
    ⟨fun m => if h : m < N then (hco m h).choose else 0, fun m hm => by
      have := (hco m hm).choose_spec
      simp only [dif_pos hm]
      exact this⟩
  obtain ⟨e, he⟩ := he
  refine ⟨sN e N, ?_, sm_sN (fun m hm => (he m hm).1)⟩
  refine Nat.le_trans (sN_le (fun m hm => (he m hm).2)) (gr_ge hN C 0 (fun m => decide (bt (nI k) m)) (by omega) (fun m hm _ => bt_00 m (by omega)) ?_)
  rw [hC, bc_ct] at hcg
  have h1 := ctB_mono (fun m => decide (bt (nI k) m)) hN
  have h2 := ctB_le (fun m => decide (bt (nI k) m)) 6
  have h3 : ¬ C < ctB (fun m => decide (bt (nI k) m)) 6 := fun w => hcg ((nI_ltI (by omega) (by omega)).mpr w)
  omega
